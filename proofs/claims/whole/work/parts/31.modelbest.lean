theorem q_X5_doneAtFeast : hdV yX5_doneAtFeast RX5 0 := ⟨rfl, by decide +kernel, by decide +kernel, by decide +kernel⟩
def lp_X5_doneAtFeast_32  : Nat → Nat → Kp → Kp
  | 0, j, κ => κ
  | n + 1, j, κ => match f_X5_minuteOn κ with | (r1, κ1) => (lp_X5_doneAtFeast_32  n (j + 1) κ1)
set_option maxRecDepth 100000 in
set_option maxHeartbeats 4000000 in
theorem ml_X5_doneAtFeast_32 {p : Program} {e : Env} {s : State} {m : MethodId} {below : List Frame} {meth : Method} {c : Code} {Q : State → Prop} (l : Launch) (g : Gt)   (N0 : Nat) (hM : Mc g p s m ([.ref (g.2.2 (91))] : List Value).toArray meth c cX5_doneAtFeast 3 yX5_doneAtFeast.cls) : ∀ (n j : Nat), j + n = N0 → ∀ (κ : Kp), DF κ n → ∀ (H : Heap) (locs : List Loc) (ls : Array Slot), lv_has ls 3 [(0, .ref (g.2.2 (91)))] → Ws g s κ H locs → (∀ (κz : Kp) (H : Heap) (locs : List Loc) (ls : Array Slot), lp_X5_doneAtFeast_32  n j κ = κz → lv_has ls 3 [(0, .ref (g.2.2 (91)))] → MI κz → Ws g s κz H locs → W p l e { frames := 4, cells := 0, slots := 0, locals := 120 } s m ([.ref (g.2.2 (91))] : List Value).toArray below meth c H locs 0 0 Q (F0 m 53 ls [])) → W p l e { frames := 4, cells := 0, slots := 0, locals := 120 } s m ([.ref (g.2.2 (91))] : List Value).toArray below meth c H locs 0 0 Q (F0 m 32 ls []) := by
  intro n
  induction n with
  | zero =>
    intro j hj κ hinv H locs ls hl hw hx53
    have hF := Eq.refl (lp_X5_doneAtFeast_32  0 j κ)
    conv at hF => rhs; rw [lp_X5_doneAtFeast_32]
    refine lv_aload_n hM.x hM.b dX5_doneAtFeast_32 rfl (lv_at hl 0 rfl) ?_
    refine k_get5r 4 hM hw (by decide) u_fl_X5_26 dX5_doneAtFeast_33 ?_
    refine lv_iconst (v := 0) hM.x hM.b dX5_doneAtFeast_36 (by decide) ?_
    refine k_ialdN (i := 0) (n := 165) hM hw (kd_lt kd_96 (by decide)) (sh13 kd_96) (by decide) (by decide) dX5_doneAtFeast_37 ?_
    refine lv_aload_n hM.x hM.b dX5_doneAtFeast_38 rfl (lv_at hl 0 rfl) ?_
    refine k_get5 4 hM hw (by decide) u_fl_X5_7 dX5_doneAtFeast_39 ?_
    refine lv_icmp_ge (tgt := 53) hM.x hM.b dX5_doneAtFeast_42 (by decide) (fun _ => ?_) (fun cz => absurd (DF_0 hinv) cz)
    exact hx53 κ H locs ls hF (lv_sub hl [0] rfl) (hinv.1) hw
  | succ n ih =>
    intro j hj κ hinv H locs ls hl hw hx53
    have hF := Eq.refl (lp_X5_doneAtFeast_32  (n + 1) j κ)
    conv at hF => rhs; rw [lp_X5_doneAtFeast_32]
    refine lv_aload_n hM.x hM.b dX5_doneAtFeast_32 rfl (lv_at hl 0 rfl) ?_
    refine k_get5r 4 hM hw (by decide) u_fl_X5_26 dX5_doneAtFeast_33 ?_
    refine lv_iconst (v := 0) hM.x hM.b dX5_doneAtFeast_36 (by decide) ?_
    refine k_ialdN (i := 0) (n := 165) hM hw (kd_lt kd_96 (by decide)) (sh13 kd_96) (by decide) (by decide) dX5_doneAtFeast_37 ?_
    refine lv_aload_n hM.x hM.b dX5_doneAtFeast_38 rfl (lv_at hl 0 rfl) ?_
    refine k_get5 4 hM hw (by decide) u_fl_X5_7 dX5_doneAtFeast_39 ?_
    refine lv_icmp_ge (tgt := 53) hM.x hM.b dX5_doneAtFeast_42 (by decide) (fun cz => absurd cz (DF_s hinv)) (fun _ => ?_)
    refine lv_aload_n hM.x hM.b dX5_doneAtFeast_45 rfl (lv_at hl 0 rfl) ?_
    refine k_ci hw (k_runV [] [] hM hw (m_X5_minuteOn l g κ _ (hinv.1)) (kd_lt kd_91 (by decide)) (sh5 kd_91) rfl (k_gV u_ml_X5_122 u_im_X5_minuteOn u_se_X5_minuteOn u_ini_X5 u_co_X5_minuteOn) (q_X5_minuteOn) rfl rfl rfl ⟨Nat.le_of_ble_eq_true rfl, Nat.le_of_ble_eq_true rfl⟩ hl.1 rfl (Nat.le_of_ble_eq_true rfl) dX5_doneAtFeast_46 ⟨Nat.le_of_ble_eq_true rfl, Nat.le_of_ble_eq_true rfl⟩) (fun r1 κ1 H locs hpκ1 hw => ?_)
    simp only [hpκ1] at hF
    refine lv_pop hM.x hM.b dX5_doneAtFeast_49 rfl ?_
    refine lv_goto (tgt := 32) hM.x hM.b dX5_doneAtFeast_50 (by decide) ?_
    exact ih (j + 1) (by omega) κ1 (DF_step hpκ1 hinv) H locs ls (lv_sub hl [0] rfl) hw (fun κz H locs ls he hl hiz hw => hx53 κz H locs ls (hF.trans he) hl hiz hw)
def lp_X5_doneAtFeast_57 (κ : Kp)  : Nat → Nat → Int32 → Int32
  | 0, j, v1 => v1
  | n + 1, j, v1 => if (κ 91 3) ≤ (nI (j)) then (v1) else (if (bi (f_X5_done κ (nI (j)))) = 0 then (lp_X5_doneAtFeast_57 (κ) n (j + 1) (((v1) + (0)))) else (lp_X5_doneAtFeast_57 (κ) n (j + 1) (((v1) + (1)))))
set_option maxRecDepth 100000 in
set_option maxHeartbeats 4000000 in
theorem ml_X5_doneAtFeast_57 {p : Program} {e : Env} {s : State} {m : MethodId} {below : List Frame} {meth : Method} {c : Code} {Q : State → Prop} (l : Launch) (g : Gt) (κ : Kp)  (hMI : MI κ) (hM : Mc g p s m ([.ref (g.2.2 (91))] : List Value).toArray meth c cX5_doneAtFeast 3 yX5_doneAtFeast.cls) : ∀ (n j : Nat), j + n = 16 → ∀ (v1 : Int32), ∀ (H : Heap) (locs : List Loc) (ls : Array Slot), lv_has ls 3 [(2, .int (nI (j))), (1, .int (v1)), (0, .ref (g.2.2 (91)))] → Ws g s κ H locs → (∀ (u1 : Int32) (H : Heap) (locs : List Loc) (ls : Array Slot), lp_X5_doneAtFeast_57 κ n j v1 = u1 → lv_has ls 3 [(1, .int (u1)), (0, .ref (g.2.2 (91)))] → Ws g s κ H locs → W p l e { frames := 4, cells := 0, slots := 0, locals := 120 } s m ([.ref (g.2.2 (91))] : List Value).toArray below meth c H locs 0 0 Q (F0 m 87 ls [])) → W p l e { frames := 4, cells := 0, slots := 0, locals := 120 } s m ([.ref (g.2.2 (91))] : List Value).toArray below meth c H locs 0 0 Q (F0 m 57 ls []) := by
  intro n
  induction n with
  | zero =>
    intro j hj v1 H locs ls hl hw hx87
    have hF := Eq.refl (lp_X5_doneAtFeast_57 κ 0 j v1)
    conv at hF => rhs; rw [lp_X5_doneAtFeast_57]
    refine lv_iload_n hM.x hM.b dX5_doneAtFeast_57 rfl (lv_at hl 0 rfl) ?_
    refine lv_aload_n hM.x hM.b dX5_doneAtFeast_58 rfl (lv_at hl 2 rfl) ?_
    refine k_get5 3 hM hw (by decide) u_fl_X5_45 dX5_doneAtFeast_59 ?_
    refine lv_icmp_ge (tgt := 87) hM.x hM.b dX5_doneAtFeast_62 (by decide) (fun _ => ?_) (fun cz => absurd (MI_re hMI hj) cz)
    exact hx87 (v1) H locs ls hF (lv_sub hl [1, 2] rfl) hw
  | succ n ih =>
    intro j hj v1 H locs ls hl hw hx87
    have hF := Eq.refl (lp_X5_doneAtFeast_57 κ (n + 1) j v1)
    conv at hF => rhs; rw [lp_X5_doneAtFeast_57]
    refine lv_iload_n hM.x hM.b dX5_doneAtFeast_57 rfl (lv_at hl 0 rfl) ?_
    refine lv_aload_n hM.x hM.b dX5_doneAtFeast_58 rfl (lv_at hl 2 rfl) ?_
    refine k_get5 3 hM hw (by decide) u_fl_X5_45 dX5_doneAtFeast_59 ?_
    refine lv_icmp_ge (tgt := 87) hM.x hM.b dX5_doneAtFeast_62 (by decide) (fun c1 => ?_) (fun c1 => ?_)
    · rw [if_pos c1] at hF
      exact hx87 (v1) H locs ls hF (lv_sub hl [1, 2] rfl) hw
    · rw [if_neg c1] at hF
      refine lv_iload_n hM.x hM.b dX5_doneAtFeast_65 rfl (lv_at hl 1 rfl) ?_
      refine lv_aload_n hM.x hM.b dX5_doneAtFeast_66 rfl (lv_at hl 2 rfl) ?_
      refine lv_iload_n hM.x hM.b dX5_doneAtFeast_67 rfl (lv_at hl 0 rfl) ?_
      refine k_cip hw (k_runV [.int (nI (j))] [.int (v1)] hM hw (m_X5_done l g κ _ (nI (j)) (vp_in_nI (n := j) (N := 16) (by omega) (by decide))) (kd_lt kd_91 (by decide)) (sh5 kd_91) rfl (k_gV u_ml_X5_141 u_im_X5_done u_se_X5_done u_ini_X5 u_co_X5_done) (q_X5_done) rfl rfl rfl ⟨Nat.le_of_ble_eq_true rfl, Nat.le_of_ble_eq_true rfl⟩ hl.1 rfl (Nat.le_of_ble_eq_true rfl) dX5_doneAtFeast_68 ⟨Nat.le_of_ble_eq_true rfl, Nat.le_of_ble_eq_true rfl⟩) (fun H locs hw => ?_)
      refine lv_if_eq (tgt := 78) hM.x hM.b dX5_doneAtFeast_71 (by decide) (fun c2 => ?_) (fun c2 => ?_)
      · rw [if_pos c2] at hF
        refine lv_iconst (v := 0) hM.x hM.b dX5_doneAtFeast_78 (by decide) ?_
        refine lv_iadd hM.x hM.b dX5_doneAtFeast_79 ?_
        refine lv_istore_n (lv' := [(1, .int (((v1) + (0)))), (2, .int (nI (j))), (0, .ref (g.2.2 (91)))]) hM.x hM.b dX5_doneAtFeast_80 rfl hl (by decide) rfl (fun ls hl => ?_)
        refine lv_iinc (v := nI (j + 1)) (lv' := [(2, .int (nI (j + 1))), (1, .int (((v1) + (0)))), (0, .ref (g.2.2 (91)))]) hM.x hM.b dX5_doneAtFeast_81 hl (k := 1) rfl (nI_1 (j)) (by decide) rfl (fun ls hl => ?_)
        refine lv_goto (tgt := 57) hM.x hM.b dX5_doneAtFeast_84 (by decide) ?_
        exact ih (j + 1) (by omega) (((v1) + (0))) H locs ls (lv_sub hl [0, 1, 2] rfl) hw (fun u1 H locs ls he hl hw => hx87 u1 H locs ls (hF.trans he) hl hw)
      · rw [if_neg c2] at hF
        refine lv_iconst (v := 1) hM.x hM.b dX5_doneAtFeast_74 (by decide) ?_
        refine lv_goto (tgt := 79) hM.x hM.b dX5_doneAtFeast_75 (by decide) ?_
        refine lv_iadd hM.x hM.b dX5_doneAtFeast_79 ?_
        refine lv_istore_n (lv' := [(1, .int (((v1) + (1)))), (2, .int (nI (j))), (0, .ref (g.2.2 (91)))]) hM.x hM.b dX5_doneAtFeast_80 rfl hl (by decide) rfl (fun ls hl => ?_)
        refine lv_iinc (v := nI (j + 1)) (lv' := [(2, .int (nI (j + 1))), (1, .int (((v1) + (1)))), (0, .ref (g.2.2 (91)))]) hM.x hM.b dX5_doneAtFeast_81 hl (k := 1) rfl (nI_1 (j)) (by decide) rfl (fun ls hl => ?_)
        refine lv_goto (tgt := 57) hM.x hM.b dX5_doneAtFeast_84 (by decide) ?_
        exact ih (j + 1) (by omega) (((v1) + (1))) H locs ls (lv_sub hl [0, 1, 2] rfl) hw (fun u1 H locs ls he hl hw => hx87 u1 H locs ls (hF.trans he) hl hw)
def f_X5_doneAtFeast (κ : Kp) : Int32 × Kp := (fun κ1 : Kp => if (bi (f_X5_isIn (((κ1 91 4) - (κ1 (96) (0)))) (0) (200))) = 0 then (((-1), κ1)) else ((fun κ2 : Kp => (fun κ3 : Kp => (fun uz1 : Int32 => (fun κ4 : Kp => (uz1, κ4)) (f_X5_bringBack κ3)) (lp_X5_doneAtFeast_57 κ3 16 0 (0))) (lp_X5_doneAtFeast_32  ((κ2 91 4 - κ2 96 0).toNatClampNeg) 0 κ2)) (f_X5_keep κ1))) (up2 κ (91) 0 (0))
set_option maxRecDepth 100000 in
set_option maxHeartbeats 4000000 in
theorem m_X5_doneAtFeast (l : Launch) (g : Gt) (κ : Kp) (sz : Nat) (hMI : MI κ) (hmn : 0 ≤ (κ 96 0).toInt ∧ (κ 96 0).toInt < 2 ^ 29) (hfs : 0 ≤ (κ 91 4).toInt ∧ (κ 91 4).toInt < 2 ^ 29) : Met l yX5_doneAtFeast (.code yX5_doneAtFeast cX5_doneAtFeast 3 (some .int) :: uW) { frames := 4, cells := 0, slots := 0, locals := 120 } (PRE g κ sz [.ref (g.2.2 (91))]) (va_Qi (fun r κ' => f_X5_doneAtFeast κ  = (r, κ')) (Wp g) (fr g sz)) 0 0 (fr g sz) := by
  refine k_enter (by decide +kernel) (Nat.le_of_ble_eq_true rfl) ?_
  intro p e s m below meth c ls hM hr hl hw hsz
  subst hsz
  have hl : lv_has ls 3 [(0, .ref (g.2.2 (91)))] := hl
  have hF := f_X5_doneAtFeast.eq_1 κ 
  refine lv_aload_n hM.x hM.b dX5_doneAtFeast_0 rfl (lv_at hl 0 rfl) ?_
  refine lv_iconst (v := 0) hM.x hM.b dX5_doneAtFeast_1 (by decide) ?_
  refine k_put5 0 hM hw (by decide) u_fl_X5_32 dX5_doneAtFeast_2 (fun H locs hw => ?_)
  obtain ⟨κ1, eκ1⟩ : ∃ z : Kp, up2 κ (91) 0 (0) = z := ⟨_, rfl⟩
  rw [eκ1] at hw
  rw [eκ1] at hF
  try dsimp only at hF
  refine lv_aload_n hM.x hM.b dX5_doneAtFeast_5 rfl (lv_at hl 0 rfl) ?_
  refine k_get5 4 hM hw (by decide) u_fl_X5_7 dX5_doneAtFeast_6 ?_
  refine lv_aload_n hM.x hM.b dX5_doneAtFeast_9 rfl (lv_at hl 0 rfl) ?_
  refine k_get5r 4 hM hw (by decide) u_fl_X5_26 dX5_doneAtFeast_10 ?_
  refine lv_iconst (v := 0) hM.x hM.b dX5_doneAtFeast_13 (by decide) ?_
  refine k_ialdN (i := 0) (n := 165) hM hw (kd_lt kd_96 (by decide)) (sh13 kd_96) (by decide) (by decide) dX5_doneAtFeast_14 ?_
  refine lv_isub hM.x hM.b dX5_doneAtFeast_15 ?_
  refine lv_iconst (v := 0) hM.x hM.b dX5_doneAtFeast_16 (by decide) ?_
  refine lv_sipush (v := 200) hM.x hM.b dX5_doneAtFeast_17 (by decide) ?_
  refine k_cip hw (k_runS [.int (((κ1 91 4) - (κ1 (96) (0)))), .int (0), .int (200)] [] hM hw (m_X5_isIn l g κ1 _ (((κ1 91 4) - (κ1 (96) (0)))) (0) (200)) (k_gS u_ml_X5_38 u_st_X5_isIn u_ini_X5 u_co_X5_isIn) (q_X5_isIn) rfl rfl rfl ⟨Nat.le_of_ble_eq_true rfl, Nat.le_of_ble_eq_true rfl⟩ hl.1 rfl (Nat.le_of_ble_eq_true rfl) dX5_doneAtFeast_20 ⟨Nat.le_of_ble_eq_true rfl, Nat.le_of_ble_eq_true rfl⟩) (fun H locs hw => ?_)
  refine lv_if_ne (tgt := 28) hM.x hM.b dX5_doneAtFeast_23 (by decide) (fun c1 => ?_) (fun c1 => ?_)
  · rw [if_neg c1] at hF
    refine lv_aload_n hM.x hM.b dX5_doneAtFeast_28 rfl (lv_at hl 0 rfl) ?_
    refine k_cvp hw (k_runV [] [] hM hw (m_X5_keep l g κ1 _) (kd_lt kd_91 (by decide)) (sh5 kd_91) rfl (k_gV u_ml_X5_150 u_im_X5_keep u_se_X5_keep u_ini_X5 u_co_X5_keep) (q_X5_keep) rfl rfl rfl ⟨Nat.le_of_ble_eq_true rfl, Nat.le_of_ble_eq_true rfl⟩ hl.1 rfl (Nat.le_of_ble_eq_true rfl) dX5_doneAtFeast_29 ⟨Nat.le_of_ble_eq_true rfl, Nat.le_of_ble_eq_true rfl⟩) (fun κ2 H locs eκ2 hw => ?_)
    rw [eκ2] at hF
    try dsimp only at hF
    refine ml_X5_doneAtFeast_32 l g   (0 + ((κ2 91 4 - κ2 96 0).toNatClampNeg)) hM (((κ2 91 4 - κ2 96 0).toNatClampNeg)) (0) (by omega) κ2 (DF_start eκ1 eκ2 hMI hmn hfs c1) _ _ _ (lv_sub hl [0] rfl) hw (fun κ3 H locs ls he hl hiκ3 hw => ?_)
    rw [he] at hF
    try dsimp only at hF
    refine lv_iconst (v := 0) hM.x hM.b dX5_doneAtFeast_53 (by decide) ?_
    refine lv_istore_n (lv' := [(1, .int (0)), (0, .ref (g.2.2 (91)))]) hM.x hM.b dX5_doneAtFeast_54 rfl hl (by decide) rfl (fun ls hl => ?_)
    refine lv_iconst (v := nI 0) hM.x hM.b dX5_doneAtFeast_55 (by decide) ?_
    refine lv_istore_n (lv' := [(2, .int (nI (0))), (1, .int (0)), (0, .ref (g.2.2 (91)))]) hM.x hM.b dX5_doneAtFeast_56 rfl hl (by decide) rfl (fun ls hl => ?_)
    refine ml_X5_doneAtFeast_57 l g κ3 hiκ3 hM (16) (0) (by omega) (0) _ _ _ (lv_sub hl [0, 1, 2] rfl) hw (fun uz1 H locs ls he hl hw => ?_)
    rw [he] at hF
    try dsimp only at hF
    refine lv_aload_n hM.x hM.b dX5_doneAtFeast_87 rfl (lv_at hl 1 rfl) ?_
    refine k_cvp hw (k_runV [] [] hM hw (m_X5_bringBack l g κ3 _) (kd_lt kd_91 (by decide)) (sh5 kd_91) rfl (k_gV u_ml_X5_147 u_im_X5_bringBack u_se_X5_bringBack u_ini_X5 u_co_X5_bringBack) (q_X5_bringBack) rfl rfl rfl ⟨Nat.le_of_ble_eq_true rfl, Nat.le_of_ble_eq_true rfl⟩ hl.1 rfl (Nat.le_of_ble_eq_true rfl) dX5_doneAtFeast_88 ⟨Nat.le_of_ble_eq_true rfl, Nat.le_of_ble_eq_true rfl⟩) (fun κ4 H locs eκ4 hw => ?_)
    rw [eκ4] at hF
    try dsimp only at hF
    refine lv_iload_n hM.x hM.b dX5_doneAtFeast_91 rfl (lv_at hl 0 rfl) ?_
    exact k_iret hM hr hw (Nat.le_of_ble_eq_true rfl) (Nat.le_of_ble_eq_true rfl) hF dX5_doneAtFeast_92
  · rw [if_pos c1] at hF
    refine lv_iconst (v := -1) hM.x hM.b dX5_doneAtFeast_26 (by decide) ?_
    exact k_iret hM hr hw (Nat.le_of_ble_eq_true rfl) (Nat.le_of_ble_eq_true rfl) hF dX5_doneAtFeast_27
theorem q_X5_bestEach : hdV yX5_bestEach RX5 1 := ⟨rfl, by decide +kernel, by decide +kernel, by decide +kernel⟩
def lp_X5_bestEach (a : Int32) : Nat → Nat → Int32 → Int32 → Kp → Int32 × Kp
  | 0, j, v2, v3, κ => (v2, κ)
  | n + 1, j, v2, v3, κ => (fun κ1 : Kp => match f_X5_until κ1 (((f_X5_sp κ1 (a) (2)) - (1))) (0) with | (r1, κ2) => (if (r1) = ((-1)) then (lp_X5_bestEach (a) n (j + 1) (v2) (v3) κ2) else (if (r1) < (v3) then (lp_X5_bestEach (a) n (j + 1) (nI (j)) (r1) κ2) else (lp_X5_bestEach (a) n (j + 1) (v2) (v3) κ2)))) (f_X5_each κ (a) (nI (j)))
set_option maxRecDepth 100000 in
set_option maxHeartbeats 4000000 in
theorem ml_X5_bestEach {p : Program} {e : Env} {s : State} {m : MethodId} {below : List Frame} {meth : Method} {c : Code} {Q : State → Prop} (l : Launch) (g : Gt) (a : Int32) (ha : vp_in a 6) (hM : Mc g p s m ([.ref (g.2.2 (91)), .int (a)] : List Value).toArray meth c cX5_bestEach 6 yX5_bestEach.cls) : ∀ (n j : Nat), j + n = 10 → ∀ (v2 : Int32) (v3 : Int32) (κ : Kp), IK a κ → ∀ (H : Heap) (locs : List Loc) (ls : Array Slot), lv_has ls 6 [(4, .int (nI (j))), (3, .int (v3)), (2, .int (v2)), (0, .ref (g.2.2 (91))), (1, .int (a))] → Ws g s κ H locs → (∀ (u2 : Int32) (κz : Kp) (H : Heap) (locs : List Loc) (ls : Array Slot), lp_X5_bestEach a n j v2 v3 κ = (u2, κz) → lv_has ls 6 [(2, .int (u2))] → IK a κz → Ws g s κz H locs → W p l e { frames := 5, cells := 0, slots := 0, locals := 150 } s m ([.ref (g.2.2 (91)), .int (a)] : List Value).toArray below meth c H locs 0 0 Q (F0 m 99 ls [])) → W p l e { frames := 5, cells := 0, slots := 0, locals := 150 } s m ([.ref (g.2.2 (91)), .int (a)] : List Value).toArray below meth c H locs 0 0 Q (F0 m 43 ls []) := by
  intro n
  induction n with
  | zero =>
    intro j hj v2 v3 κ hinv H locs ls hl hw hx99
    have hF := Eq.refl (lp_X5_bestEach a 0 j v2 v3 κ)
    conv at hF => rhs; rw [lp_X5_bestEach]
    refine lv_iload hM.x hM.b dX5_bestEach_43 (lv_at hl 0 rfl) ?_
    refine lv_bipush (v := nI 9) hM.x hM.b dX5_bestEach_45 (by decide) ?_
    refine lv_icmp_gt (tgt := 99) hM.x hM.b dX5_bestEach_47 (by decide) (fun _ => ?_) (fun cz => absurd (nI_lt (by omega) (by omega) : nI 9 < nI j) cz)
    exact hx99 (v2) κ H locs ls hF (lv_sub hl [2] rfl) (hinv) hw
  | succ n ih =>
    intro j hj v2 v3 κ hinv H locs ls hl hw hx99
    have hF := Eq.refl (lp_X5_bestEach a (n + 1) j v2 v3 κ)
    conv at hF => rhs; rw [lp_X5_bestEach]
    refine lv_iload hM.x hM.b dX5_bestEach_43 (lv_at hl 0 rfl) ?_
    refine lv_bipush (v := nI 9) hM.x hM.b dX5_bestEach_45 (by decide) ?_
    refine lv_icmp_gt (tgt := 99) hM.x hM.b dX5_bestEach_47 (by decide) (fun cz => absurd cz (nI_nlt (by omega) (by decide) : ¬ nI 9 < nI j)) (fun _ => ?_)
    refine lv_aload_n hM.x hM.b dX5_bestEach_50 rfl (lv_at hl 3 rfl) ?_
    refine lv_iload_n hM.x hM.b dX5_bestEach_51 rfl (lv_at hl 4 rfl) ?_
    refine lv_iload hM.x hM.b dX5_bestEach_52 (lv_at hl 0 rfl) ?_
    refine k_cvp hw (k_runV [.int (a), .int (nI (j))] [] hM hw (m_X5_each l g κ _ (a) (nI (j)) ha) (kd_lt kd_91 (by decide)) (sh5 kd_91) rfl (k_gV u_ml_X5_113 u_im_X5_each u_se_X5_each u_ini_X5 u_co_X5_each) (q_X5_each) rfl rfl rfl ⟨Nat.le_of_ble_eq_true rfl, Nat.le_of_ble_eq_true rfl⟩ hl.1 rfl (Nat.le_of_ble_eq_true rfl) dX5_bestEach_54 ⟨Nat.le_of_ble_eq_true rfl, Nat.le_of_ble_eq_true rfl⟩) (fun κ1 H locs eκ1 hw => ?_)
    rw [eκ1] at hF
    try dsimp only at hF
    refine lv_aload_n hM.x hM.b dX5_bestEach_57 rfl (lv_at hl 3 rfl) ?_
    refine lv_aload_n hM.x hM.b dX5_bestEach_58 rfl (lv_at hl 3 rfl) ?_
    refine lv_iload_n hM.x hM.b dX5_bestEach_59 rfl (lv_at hl 4 rfl) ?_
    refine lv_iconst (v := 2) hM.x hM.b dX5_bestEach_60 (by decide) ?_
    refine k_cip hw (k_runV [.int (a), .int (2)] [.ref (g.2.2 (91))] hM hw (m_X5_sp l g κ1 _ (a) (2) ha (vin_lit (by decide) : vp_in 2 5)) (kd_lt kd_91 (by decide)) (sh5 kd_91) rfl (k_gV u_ml_X5_58 u_im_X5_sp u_se_X5_sp u_ini_X5 u_co_X5_sp) (q_X5_sp) rfl rfl rfl ⟨Nat.le_of_ble_eq_true rfl, Nat.le_of_ble_eq_true rfl⟩ hl.1 rfl (Nat.le_of_ble_eq_true rfl) dX5_bestEach_61 ⟨Nat.le_of_ble_eq_true rfl, Nat.le_of_ble_eq_true rfl⟩) (fun H locs hw => ?_)
    refine lv_iconst (v := 1) hM.x hM.b dX5_bestEach_64 (by decide) ?_
    refine lv_isub hM.x hM.b dX5_bestEach_65 ?_
    refine lv_iconst (v := 0) hM.x hM.b dX5_bestEach_66 (by decide) ?_
    refine k_ci hw (k_runV [.int (((f_X5_sp κ1 (a) (2)) - (1))), .int (0)] [] hM hw (m_X5_until l g κ1 _ (((f_X5_sp κ1 (a) (2)) - (1))) (0) (hop_each eκ1 ha (IK_hop hinv ha)) (MI_eq eκ1 (MI_each (hinv.1) ha))) (kd_lt kd_91 (by decide)) (sh5 kd_91) rfl (k_gV u_ml_X5_153 u_im_X5_until u_se_X5_until u_ini_X5 u_co_X5_until) (q_X5_until) rfl rfl rfl ⟨Nat.le_of_ble_eq_true rfl, Nat.le_of_ble_eq_true rfl⟩ hl.1 rfl (Nat.le_of_ble_eq_true rfl) dX5_bestEach_67 ⟨Nat.le_of_ble_eq_true rfl, Nat.le_of_ble_eq_true rfl⟩) (fun r1 κ2 H locs hpκ2 hw => ?_)
    simp only [hpκ2] at hF
    refine lv_istore (lv' := [(5, .int (r1)), (4, .int (nI (j))), (3, .int (v3)), (2, .int (v2)), (0, .ref (g.2.2 (91))), (1, .int (a))]) hM.x hM.b dX5_bestEach_70 hl (by decide) rfl (fun ls hl => ?_)
    refine lv_iload hM.x hM.b dX5_bestEach_72 (lv_at hl 0 rfl) ?_
    refine lv_iconst (v := -1) hM.x hM.b dX5_bestEach_74 (by decide) ?_
    refine lv_icmp_eq (tgt := 93) hM.x hM.b dX5_bestEach_75 (by decide) (fun c1 => ?_) (fun c1 => ?_)
    · rw [if_pos c1] at hF
      refine lv_iinc (v := nI (j + 1)) (lv' := [(4, .int (nI (j + 1))), (5, .int (r1)), (3, .int (v3)), (2, .int (v2)), (0, .ref (g.2.2 (91))), (1, .int (a))]) hM.x hM.b dX5_bestEach_93 hl (k := 1) rfl (nI_1 (j)) (by decide) rfl (fun ls hl => ?_)
      refine lv_goto (tgt := 43) hM.x hM.b dX5_bestEach_96 (by decide) ?_
      exact ih (j + 1) (by omega) (v2) (v3) κ2 (IK_step ha hinv eκ1 hpκ2) H locs ls (lv_sub hl [0, 2, 3, 4, 5] rfl) hw (fun u2 κz H locs ls he hl hiz hw => hx99 u2 κz H locs ls (hF.trans he) hl hiz hw)
    · rw [if_neg c1] at hF
      refine lv_iload hM.x hM.b dX5_bestEach_78 (lv_at hl 0 rfl) ?_
      refine lv_iload_n hM.x hM.b dX5_bestEach_80 rfl (lv_at hl 2 rfl) ?_
      refine lv_icmp_lt (tgt := 87) hM.x hM.b dX5_bestEach_81 (by decide) (fun c2 => ?_) (fun c2 => ?_)
      · rw [if_pos c2] at hF
        refine lv_iload hM.x hM.b dX5_bestEach_87 (lv_at hl 1 rfl) ?_
        refine lv_istore_n (lv' := [(2, .int (nI (j))), (5, .int (r1)), (4, .int (nI (j))), (3, .int (v3)), (0, .ref (g.2.2 (91))), (1, .int (a))]) hM.x hM.b dX5_bestEach_89 rfl hl (by decide) rfl (fun ls hl => ?_)
        refine lv_iload hM.x hM.b dX5_bestEach_90 (lv_at hl 1 rfl) ?_
        refine lv_istore_n (lv' := [(3, .int (r1)), (2, .int (nI (j))), (5, .int (r1)), (4, .int (nI (j))), (0, .ref (g.2.2 (91))), (1, .int (a))]) hM.x hM.b dX5_bestEach_92 rfl hl (by decide) rfl (fun ls hl => ?_)
        refine lv_iinc (v := nI (j + 1)) (lv' := [(4, .int (nI (j + 1))), (3, .int (r1)), (2, .int (nI (j))), (5, .int (r1)), (0, .ref (g.2.2 (91))), (1, .int (a))]) hM.x hM.b dX5_bestEach_93 hl (k := 3) rfl (nI_1 (j)) (by decide) rfl (fun ls hl => ?_)
        refine lv_goto (tgt := 43) hM.x hM.b dX5_bestEach_96 (by decide) ?_
        exact ih (j + 1) (by omega) (nI (j)) (r1) κ2 (IK_step ha hinv eκ1 hpκ2) H locs ls (lv_sub hl [0, 1, 2, 4, 5] rfl) hw (fun u2 κz H locs ls he hl hiz hw => hx99 u2 κz H locs ls (hF.trans he) hl hiz hw)
      · rw [if_neg c2] at hF
        refine lv_goto (tgt := 93) hM.x hM.b dX5_bestEach_84 (by decide) ?_
        refine lv_iinc (v := nI (j + 1)) (lv' := [(4, .int (nI (j + 1))), (5, .int (r1)), (3, .int (v3)), (2, .int (v2)), (0, .ref (g.2.2 (91))), (1, .int (a))]) hM.x hM.b dX5_bestEach_93 hl (k := 1) rfl (nI_1 (j)) (by decide) rfl (fun ls hl => ?_)
        refine lv_goto (tgt := 43) hM.x hM.b dX5_bestEach_96 (by decide) ?_
        exact ih (j + 1) (by omega) (v2) (v3) κ2 (IK_step ha hinv eκ1 hpκ2) H locs ls (lv_sub hl [0, 2, 3, 4, 5] rfl) hw (fun u2 κz H locs ls he hl hiz hw => hx99 u2 κz H locs ls (hF.trans he) hl hiz hw)
def f_X5_bestEach (κ : Kp) (a : Int32) : Int32 × Kp := (fun κ1 : Kp => if (bi (f_X5_isSpit κ1 (a))) = 0 then (match f_X5_fail κ1 (1) with | (r1, κ4) => ((r1, κ4))) else (if (f_X5_sp κ1 (a) (2)) = 0 then (((-1), κ1)) else ((fun κ2 : Kp => match lp_X5_bestEach a 9 1 ((-1)) (201) κ2 with | (uz1, κ3) => ((uz1, κ3))) (f_X5_keep κ1)))) (up2 κ (91) 0 (0))
set_option maxRecDepth 100000 in
set_option maxHeartbeats 4000000 in
theorem m_X5_bestEach (l : Launch) (g : Gt) (κ : Kp) (sz : Nat) (a : Int32) (hMI : MI κ) : Met l yX5_bestEach (.code yX5_bestEach cX5_bestEach 6 (some .int) :: uW) { frames := 5, cells := 0, slots := 0, locals := 150 } (PRE g κ sz [.ref (g.2.2 (91)), .int (a)]) (va_Qi (fun r κ' => f_X5_bestEach κ a = (r, κ')) (Wp g) (fr g sz)) 0 0 (fr g sz) := by
  refine k_enter (by decide +kernel) (Nat.le_of_ble_eq_true rfl) ?_
  intro p e s m below meth c ls hM hr hl hw hsz
  subst hsz
  have hl : lv_has ls 6 [(0, .ref (g.2.2 (91))), (1, .int (a))] := hl
  have hF := f_X5_bestEach.eq_1 κ a
  refine lv_aload_n hM.x hM.b dX5_bestEach_0 rfl (lv_at hl 0 rfl) ?_
  refine lv_iconst (v := 0) hM.x hM.b dX5_bestEach_1 (by decide) ?_
  refine k_put5 0 hM hw (by decide) u_fl_X5_32 dX5_bestEach_2 (fun H locs hw => ?_)
  obtain ⟨κ1, eκ1⟩ : ∃ z : Kp, up2 κ (91) 0 (0) = z := ⟨_, rfl⟩
  rw [eκ1] at hw
  rw [eκ1] at hF
  try dsimp only at hF
  refine lv_aload_n hM.x hM.b dX5_bestEach_5 rfl (lv_at hl 0 rfl) ?_
  refine lv_iload_n hM.x hM.b dX5_bestEach_6 rfl (lv_at hl 1 rfl) ?_
  refine k_cip hw (k_runV [.int (a)] [] hM hw (m_X5_isSpit l g κ1 _ (a)) (kd_lt kd_91 (by decide)) (sh5 kd_91) rfl (k_gV u_ml_X5_110 u_im_X5_isSpit u_se_X5_isSpit u_ini_X5 u_co_X5_isSpit) (q_X5_isSpit) rfl rfl rfl ⟨Nat.le_of_ble_eq_true rfl, Nat.le_of_ble_eq_true rfl⟩ hl.1 rfl (Nat.le_of_ble_eq_true rfl) dX5_bestEach_7 ⟨Nat.le_of_ble_eq_true rfl, Nat.le_of_ble_eq_true rfl⟩) (fun H locs hw => ?_)
  refine lv_if_ne (tgt := 19) hM.x hM.b dX5_bestEach_10 (by decide) (fun c1 => ?_) (fun c1 => ?_)
  · rw [if_neg c1] at hF
    refine lv_aload_n hM.x hM.b dX5_bestEach_19 rfl (lv_at hl 0 rfl) ?_
    refine lv_iload_n hM.x hM.b dX5_bestEach_20 rfl (lv_at hl 1 rfl) ?_
    refine lv_iconst (v := 2) hM.x hM.b dX5_bestEach_21 (by decide) ?_
    refine k_cip hw (k_runV [.int (a), .int (2)] [] hM hw (m_X5_sp l g κ1 _ (a) (2) (isSpit_in (MI_th eκ1 hMI) c1) (vin_lit (by decide) : vp_in 2 5)) (kd_lt kd_91 (by decide)) (sh5 kd_91) rfl (k_gV u_ml_X5_58 u_im_X5_sp u_se_X5_sp u_ini_X5 u_co_X5_sp) (q_X5_sp) rfl rfl rfl ⟨Nat.le_of_ble_eq_true rfl, Nat.le_of_ble_eq_true rfl⟩ hl.1 rfl (Nat.le_of_ble_eq_true rfl) dX5_bestEach_22 ⟨Nat.le_of_ble_eq_true rfl, Nat.le_of_ble_eq_true rfl⟩) (fun H locs hw => ?_)
    refine lv_if_ne (tgt := 30) hM.x hM.b dX5_bestEach_25 (by decide) (fun c2 => ?_) (fun c2 => ?_)
    · rw [if_neg c2] at hF
      refine lv_iconst (v := -1) hM.x hM.b dX5_bestEach_30 (by decide) ?_
      refine lv_istore_n (lv' := [(2, .int ((-1))), (0, .ref (g.2.2 (91))), (1, .int (a))]) hM.x hM.b dX5_bestEach_31 rfl hl (by decide) rfl (fun ls hl => ?_)
      refine lv_sipush (v := 201) hM.x hM.b dX5_bestEach_32 (by decide) ?_
      refine lv_istore_n (lv' := [(3, .int (201)), (2, .int ((-1))), (0, .ref (g.2.2 (91))), (1, .int (a))]) hM.x hM.b dX5_bestEach_35 rfl hl (by decide) rfl (fun ls hl => ?_)
      refine lv_aload_n hM.x hM.b dX5_bestEach_36 rfl (lv_at hl 2 rfl) ?_
      refine k_cvp hw (k_runV [] [] hM hw (m_X5_keep l g κ1 _) (kd_lt kd_91 (by decide)) (sh5 kd_91) rfl (k_gV u_ml_X5_150 u_im_X5_keep u_se_X5_keep u_ini_X5 u_co_X5_keep) (q_X5_keep) rfl rfl rfl ⟨Nat.le_of_ble_eq_true rfl, Nat.le_of_ble_eq_true rfl⟩ hl.1 rfl (Nat.le_of_ble_eq_true rfl) dX5_bestEach_37 ⟨Nat.le_of_ble_eq_true rfl, Nat.le_of_ble_eq_true rfl⟩) (fun κ2 H locs eκ2 hw => ?_)
      rw [eκ2] at hF
      try dsimp only at hF
      refine lv_iconst (v := nI 1) hM.x hM.b dX5_bestEach_40 (by decide) ?_
      refine lv_istore (lv' := [(4, .int (nI (1))), (3, .int (201)), (2, .int ((-1))), (0, .ref (g.2.2 (91))), (1, .int (a))]) hM.x hM.b dX5_bestEach_41 hl (by decide) rfl (fun ls hl => ?_)
      refine ml_X5_bestEach l g a ((isSpit_in (MI_th eκ1 hMI) c1)) hM (9) (1) (by omega) ((-1)) (201) κ2 (IK_start eκ2 (MI_th eκ1 hMI) c2) _ _ _ (lv_sub hl [0, 1, 2, 3, 4] rfl) hw (fun uz1 κ3 H locs ls he hl hiκ3 hw => ?_)
      rw [he] at hF
      try dsimp only at hF
      refine lv_iload_n hM.x hM.b dX5_bestEach_99 rfl (lv_at hl 0 rfl) ?_
      exact k_iret hM hr hw (Nat.le_of_ble_eq_true rfl) (Nat.le_of_ble_eq_true rfl) hF dX5_bestEach_100
    · rw [if_pos c2] at hF
      refine lv_iconst (v := -1) hM.x hM.b dX5_bestEach_28 (by decide) ?_
      exact k_iret hM hr hw (Nat.le_of_ble_eq_true rfl) (Nat.le_of_ble_eq_true rfl) hF dX5_bestEach_29
  · rw [if_pos c1] at hF
    refine lv_aload_n hM.x hM.b dX5_bestEach_13 rfl (lv_at hl 0 rfl) ?_
    refine lv_iconst (v := 1) hM.x hM.b dX5_bestEach_14 (by decide) ?_
    refine k_ci hw (k_runV [.int (1)] [] hM hw (m_X5_fail l g κ1 _ (1)) (kd_lt kd_91 (by decide)) (sh5 kd_91) rfl (k_gV u_ml_X5_103 u_im_X5_fail u_se_X5_fail u_ini_X5 u_co_X5_fail) (q_X5_fail) rfl rfl rfl ⟨Nat.le_of_ble_eq_true rfl, Nat.le_of_ble_eq_true rfl⟩ hl.1 rfl (Nat.le_of_ble_eq_true rfl) dX5_bestEach_15 ⟨Nat.le_of_ble_eq_true rfl, Nat.le_of_ble_eq_true rfl⟩) (fun r1 κ4 H locs hpκ4 hw => ?_)
    simp only [hpκ4] at hF
    exact k_iret hM hr hw (Nat.le_of_ble_eq_true rfl) (Nat.le_of_ble_eq_true rfl) hF dX5_bestEach_18
theorem q_X5_bestSpit : hdV yX5_bestSpit RX5 1 := ⟨rfl, by decide +kernel, by decide +kernel, by decide +kernel⟩
def lp_X5_bestSpit (a : Int32) : Nat → Nat → Int32 → Int32 → Kp → Int32 × Kp
  | 0, j, v2, v3, κ => (v2, κ)
  | n + 1, j, v2, v3, κ => if (κ 91 2) ≤ (nI (j)) then ((v2, κ)) else (if (f_X5_sp κ (nI (j)) (2)) ≤ 0 then ((fun κ1 : Kp => match f_X5_until κ1 (κ1 91 3) (0) with | (r1, κ2) => (if (r1) = ((-1)) then (lp_X5_bestSpit (a) n (j + 1) (v2) (v3) κ2) else (if (r1) < (v3) then (lp_X5_bestSpit (a) n (j + 1) (nI (j)) (r1) κ2) else (lp_X5_bestSpit (a) n (j + 1) (v2) (v3) κ2)))) (f_X5_hangNext κ (nI (j)) (a))) else (lp_X5_bestSpit (a) n (j + 1) (v2) (v3) κ))
set_option maxRecDepth 100000 in
set_option maxHeartbeats 4000000 in
theorem ml_X5_bestSpit {p : Program} {e : Env} {s : State} {m : MethodId} {below : List Frame} {meth : Method} {c : Code} {Q : State → Prop} (l : Launch) (g : Gt) (a : Int32)  (hM : Mc g p s m ([.ref (g.2.2 (91)), .int (a)] : List Value).toArray meth c cX5_bestSpit 6 yX5_bestSpit.cls) : ∀ (n j : Nat), j + n = 6 → ∀ (v2 : Int32) (v3 : Int32) (κ : Kp), IS κ → ∀ (H : Heap) (locs : List Loc) (ls : Array Slot), lv_has ls 6 [(4, .int (nI (j))), (3, .int (v3)), (2, .int (v2)), (0, .ref (g.2.2 (91))), (1, .int (a))] → Ws g s κ H locs → (∀ (u2 : Int32) (κz : Kp) (H : Heap) (locs : List Loc) (ls : Array Slot), lp_X5_bestSpit a n j v2 v3 κ = (u2, κz) → lv_has ls 6 [(2, .int (u2))] → IS κz → Ws g s κz H locs → W p l e { frames := 5, cells := 0, slots := 0, locals := 150 } s m ([.ref (g.2.2 (91)), .int (a)] : List Value).toArray below meth c H locs 0 0 Q (F0 m 116 ls [])) → W p l e { frames := 5, cells := 0, slots := 0, locals := 150 } s m ([.ref (g.2.2 (91)), .int (a)] : List Value).toArray below meth c H locs 0 0 Q (F0 m 49 ls []) := by
  intro n
  induction n with
  | zero =>
    intro j hj v2 v3 κ hinv H locs ls hl hw hx116
    have hF := Eq.refl (lp_X5_bestSpit a 0 j v2 v3 κ)
    conv at hF => rhs; rw [lp_X5_bestSpit]
    refine lv_iload hM.x hM.b dX5_bestSpit_49 (lv_at hl 0 rfl) ?_
    refine lv_aload_n hM.x hM.b dX5_bestSpit_51 rfl (lv_at hl 3 rfl) ?_
    refine k_get5 2 hM hw (by decide) u_fl_X5_42 dX5_bestSpit_52 ?_
    refine lv_icmp_ge (tgt := 116) hM.x hM.b dX5_bestSpit_55 (by decide) (fun _ => ?_) (fun cz => absurd (MI_se hinv.1 hj) cz)
    exact hx116 (v2) κ H locs ls hF (lv_sub hl [2] rfl) (hinv) hw
  | succ n ih =>
    intro j hj v2 v3 κ hinv H locs ls hl hw hx116
    have hF := Eq.refl (lp_X5_bestSpit a (n + 1) j v2 v3 κ)
    conv at hF => rhs; rw [lp_X5_bestSpit]
    refine lv_iload hM.x hM.b dX5_bestSpit_49 (lv_at hl 0 rfl) ?_
    refine lv_aload_n hM.x hM.b dX5_bestSpit_51 rfl (lv_at hl 3 rfl) ?_
    refine k_get5 2 hM hw (by decide) u_fl_X5_42 dX5_bestSpit_52 ?_
    refine lv_icmp_ge (tgt := 116) hM.x hM.b dX5_bestSpit_55 (by decide) (fun c1 => ?_) (fun c1 => ?_)
    · rw [if_pos c1] at hF
      exact hx116 (v2) κ H locs ls hF (lv_sub hl [2] rfl) (hinv) hw
    · rw [if_neg c1] at hF
      refine lv_aload_n hM.x hM.b dX5_bestSpit_58 rfl (lv_at hl 3 rfl) ?_
      refine lv_iload hM.x hM.b dX5_bestSpit_59 (lv_at hl 0 rfl) ?_
      refine lv_iconst (v := 2) hM.x hM.b dX5_bestSpit_61 (by decide) ?_
      refine k_cip hw (k_runV [.int (nI (j)), .int (2)] [] hM hw (m_X5_sp l g κ _ (nI (j)) (2) (vp_in_nI (n := j) (N := 6) (by omega) (by decide)) (vin_lit (by decide) : vp_in 2 5)) (kd_lt kd_91 (by decide)) (sh5 kd_91) rfl (k_gV u_ml_X5_58 u_im_X5_sp u_se_X5_sp u_ini_X5 u_co_X5_sp) (q_X5_sp) rfl rfl rfl ⟨Nat.le_of_ble_eq_true rfl, Nat.le_of_ble_eq_true rfl⟩ hl.1 rfl (Nat.le_of_ble_eq_true rfl) dX5_bestSpit_62 ⟨Nat.le_of_ble_eq_true rfl, Nat.le_of_ble_eq_true rfl⟩) (fun H locs hw => ?_)
      refine lv_if_le (tgt := 71) hM.x hM.b dX5_bestSpit_65 (by decide) (fun c2 => ?_) (fun c2 => ?_)
      · rw [if_pos c2] at hF
        refine lv_aload_n hM.x hM.b dX5_bestSpit_71 rfl (lv_at hl 3 rfl) ?_
        refine lv_iload hM.x hM.b dX5_bestSpit_72 (lv_at hl 0 rfl) ?_
        refine lv_iload_n hM.x hM.b dX5_bestSpit_74 rfl (lv_at hl 4 rfl) ?_
        refine k_cvp hw (k_runV [.int (nI (j)), .int (a)] [] hM hw (m_X5_hangNext l g κ _ (nI (j)) (a) (vp_in_nI (n := j) (N := 6) (by omega) (by decide)) (hinv.2.2)) (kd_lt kd_91 (by decide)) (sh5 kd_91) rfl (k_gV u_ml_X5_116 u_im_X5_hangNext u_se_X5_hangNext u_ini_X5 u_co_X5_hangNext) (q_X5_hangNext) rfl rfl rfl ⟨Nat.le_of_ble_eq_true rfl, Nat.le_of_ble_eq_true rfl⟩ hl.1 rfl (Nat.le_of_ble_eq_true rfl) dX5_bestSpit_75 ⟨Nat.le_of_ble_eq_true rfl, Nat.le_of_ble_eq_true rfl⟩) (fun κ1 H locs eκ1 hw => ?_)
        rw [eκ1] at hF
        try dsimp only at hF
        refine lv_aload_n hM.x hM.b dX5_bestSpit_78 rfl (lv_at hl 3 rfl) ?_
        refine lv_aload_n hM.x hM.b dX5_bestSpit_79 rfl (lv_at hl 3 rfl) ?_
        refine k_get5 3 hM hw (by decide) u_fl_X5_45 dX5_bestSpit_80 ?_
        refine lv_iconst (v := 0) hM.x hM.b dX5_bestSpit_83 (by decide) ?_
        refine k_ci hw (k_runV [.int (κ1 91 3), .int (0)] [] hM hw (m_X5_until l g κ1 _ (κ1 91 3) (0) (by rw [← eκ1, hangNext_91]; exact (hinv.2.2)) (MI_eq eκ1 (MI_hangNext (hinv.1) (hinv.2.2) (vp_in_nI (n := j) (N := 6) (by omega) (by decide))))) (kd_lt kd_91 (by decide)) (sh5 kd_91) rfl (k_gV u_ml_X5_153 u_im_X5_until u_se_X5_until u_ini_X5 u_co_X5_until) (q_X5_until) rfl rfl rfl ⟨Nat.le_of_ble_eq_true rfl, Nat.le_of_ble_eq_true rfl⟩ hl.1 rfl (Nat.le_of_ble_eq_true rfl) dX5_bestSpit_84 ⟨Nat.le_of_ble_eq_true rfl, Nat.le_of_ble_eq_true rfl⟩) (fun r1 κ2 H locs hpκ2 hw => ?_)
        simp only [hpκ2] at hF
        refine lv_istore (lv' := [(5, .int (r1)), (4, .int (nI (j))), (3, .int (v3)), (2, .int (v2)), (0, .ref (g.2.2 (91))), (1, .int (a))]) hM.x hM.b dX5_bestSpit_87 hl (by decide) rfl (fun ls hl => ?_)
        refine lv_iload hM.x hM.b dX5_bestSpit_89 (lv_at hl 0 rfl) ?_
        refine lv_iconst (v := -1) hM.x hM.b dX5_bestSpit_91 (by decide) ?_
        refine lv_icmp_eq (tgt := 110) hM.x hM.b dX5_bestSpit_92 (by decide) (fun c3 => ?_) (fun c3 => ?_)
        · rw [if_pos c3] at hF
          refine lv_iinc (v := nI (j + 1)) (lv' := [(4, .int (nI (j + 1))), (5, .int (r1)), (3, .int (v3)), (2, .int (v2)), (0, .ref (g.2.2 (91))), (1, .int (a))]) hM.x hM.b dX5_bestSpit_110 hl (k := 1) rfl (nI_1 (j)) (by decide) rfl (fun ls hl => ?_)
          refine lv_goto (tgt := 49) hM.x hM.b dX5_bestSpit_113 (by decide) ?_
          exact ih (j + 1) (by omega) (v2) (v3) κ2 (IS_step (vp_in_nI (by omega) (by decide)) hinv eκ1 hpκ2) H locs ls (lv_sub hl [0, 2, 3, 4, 5] rfl) hw (fun u2 κz H locs ls he hl hiz hw => hx116 u2 κz H locs ls (hF.trans he) hl hiz hw)
        · rw [if_neg c3] at hF
          refine lv_iload hM.x hM.b dX5_bestSpit_95 (lv_at hl 0 rfl) ?_
          refine lv_iload_n hM.x hM.b dX5_bestSpit_97 rfl (lv_at hl 2 rfl) ?_
          refine lv_icmp_lt (tgt := 104) hM.x hM.b dX5_bestSpit_98 (by decide) (fun c4 => ?_) (fun c4 => ?_)
          · rw [if_pos c4] at hF
            refine lv_iload hM.x hM.b dX5_bestSpit_104 (lv_at hl 1 rfl) ?_
            refine lv_istore_n (lv' := [(2, .int (nI (j))), (5, .int (r1)), (4, .int (nI (j))), (3, .int (v3)), (0, .ref (g.2.2 (91))), (1, .int (a))]) hM.x hM.b dX5_bestSpit_106 rfl hl (by decide) rfl (fun ls hl => ?_)
            refine lv_iload hM.x hM.b dX5_bestSpit_107 (lv_at hl 1 rfl) ?_
            refine lv_istore_n (lv' := [(3, .int (r1)), (2, .int (nI (j))), (5, .int (r1)), (4, .int (nI (j))), (0, .ref (g.2.2 (91))), (1, .int (a))]) hM.x hM.b dX5_bestSpit_109 rfl hl (by decide) rfl (fun ls hl => ?_)
            refine lv_iinc (v := nI (j + 1)) (lv' := [(4, .int (nI (j + 1))), (3, .int (r1)), (2, .int (nI (j))), (5, .int (r1)), (0, .ref (g.2.2 (91))), (1, .int (a))]) hM.x hM.b dX5_bestSpit_110 hl (k := 3) rfl (nI_1 (j)) (by decide) rfl (fun ls hl => ?_)
            refine lv_goto (tgt := 49) hM.x hM.b dX5_bestSpit_113 (by decide) ?_
            exact ih (j + 1) (by omega) (nI (j)) (r1) κ2 (IS_step (vp_in_nI (by omega) (by decide)) hinv eκ1 hpκ2) H locs ls (lv_sub hl [0, 1, 2, 4, 5] rfl) hw (fun u2 κz H locs ls he hl hiz hw => hx116 u2 κz H locs ls (hF.trans he) hl hiz hw)
          · rw [if_neg c4] at hF
            refine lv_goto (tgt := 110) hM.x hM.b dX5_bestSpit_101 (by decide) ?_
            refine lv_iinc (v := nI (j + 1)) (lv' := [(4, .int (nI (j + 1))), (5, .int (r1)), (3, .int (v3)), (2, .int (v2)), (0, .ref (g.2.2 (91))), (1, .int (a))]) hM.x hM.b dX5_bestSpit_110 hl (k := 1) rfl (nI_1 (j)) (by decide) rfl (fun ls hl => ?_)
            refine lv_goto (tgt := 49) hM.x hM.b dX5_bestSpit_113 (by decide) ?_
            exact ih (j + 1) (by omega) (v2) (v3) κ2 (IS_step (vp_in_nI (by omega) (by decide)) hinv eκ1 hpκ2) H locs ls (lv_sub hl [0, 2, 3, 4, 5] rfl) hw (fun u2 κz H locs ls he hl hiz hw => hx116 u2 κz H locs ls (hF.trans he) hl hiz hw)
      · rw [if_neg c2] at hF
        refine lv_goto (tgt := 110) hM.x hM.b dX5_bestSpit_68 (by decide) ?_
        refine lv_iinc (v := nI (j + 1)) (lv' := [(4, .int (nI (j + 1))), (3, .int (v3)), (2, .int (v2)), (0, .ref (g.2.2 (91))), (1, .int (a))]) hM.x hM.b dX5_bestSpit_110 hl (k := 0) rfl (nI_1 (j)) (by decide) rfl (fun ls hl => ?_)
        refine lv_goto (tgt := 49) hM.x hM.b dX5_bestSpit_113 (by decide) ?_
        exact ih (j + 1) (by omega) (v2) (v3) κ (hinv) H locs ls (lv_sub hl [0, 1, 2, 3, 4] rfl) hw (fun u2 κz H locs ls he hl hiz hw => hx116 u2 κz H locs ls (hF.trans he) hl hiz hw)
def f_X5_bestSpit (κ : Kp) (a : Int32) : Int32 × Kp := (fun κ1 : Kp => if (bi (f_X5_isIn (a) (1) (12))) = 0 then (match f_X5_fail κ1 (1) with | (r2, κ5) => ((r2, κ5))) else (if (κ1 91 3) = (16) then (match f_X5_fail κ1 (2) with | (r1, κ4) => ((r1, κ4))) else ((fun κ2 : Kp => match lp_X5_bestSpit a 6 0 ((-1)) (201) κ2 with | (uz1, κ3) => ((uz1, κ3))) (f_X5_keep κ1)))) (up2 κ (91) 0 (0))
set_option maxRecDepth 100000 in
set_option maxHeartbeats 4000000 in
theorem m_X5_bestSpit (l : Launch) (g : Gt) (κ : Kp) (sz : Nat) (a : Int32) (hMI : MI κ) : Met l yX5_bestSpit (.code yX5_bestSpit cX5_bestSpit 6 (some .int) :: uW) { frames := 5, cells := 0, slots := 0, locals := 150 } (PRE g κ sz [.ref (g.2.2 (91)), .int (a)]) (va_Qi (fun r κ' => f_X5_bestSpit κ a = (r, κ')) (Wp g) (fr g sz)) 0 0 (fr g sz) := by
  refine k_enter (by decide +kernel) (Nat.le_of_ble_eq_true rfl) ?_
  intro p e s m below meth c ls hM hr hl hw hsz
  subst hsz
  have hl : lv_has ls 6 [(0, .ref (g.2.2 (91))), (1, .int (a))] := hl
  have hF := f_X5_bestSpit.eq_1 κ a
  refine lv_aload_n hM.x hM.b dX5_bestSpit_0 rfl (lv_at hl 0 rfl) ?_
  refine lv_iconst (v := 0) hM.x hM.b dX5_bestSpit_1 (by decide) ?_
  refine k_put5 0 hM hw (by decide) u_fl_X5_32 dX5_bestSpit_2 (fun H locs hw => ?_)
  obtain ⟨κ1, eκ1⟩ : ∃ z : Kp, up2 κ (91) 0 (0) = z := ⟨_, rfl⟩
  rw [eκ1] at hw
  rw [eκ1] at hF
  try dsimp only at hF
  refine lv_iload_n hM.x hM.b dX5_bestSpit_5 rfl (lv_at hl 1 rfl) ?_
  refine lv_iconst (v := 1) hM.x hM.b dX5_bestSpit_6 (by decide) ?_
  refine lv_bipush (v := 12) hM.x hM.b dX5_bestSpit_7 (by decide) ?_
  refine k_cip hw (k_runS [.int (a), .int (1), .int (12)] [] hM hw (m_X5_isIn l g κ1 _ (a) (1) (12)) (k_gS u_ml_X5_38 u_st_X5_isIn u_ini_X5 u_co_X5_isIn) (q_X5_isIn) rfl rfl rfl ⟨Nat.le_of_ble_eq_true rfl, Nat.le_of_ble_eq_true rfl⟩ hl.1 rfl (Nat.le_of_ble_eq_true rfl) dX5_bestSpit_9 ⟨Nat.le_of_ble_eq_true rfl, Nat.le_of_ble_eq_true rfl⟩) (fun H locs hw => ?_)
  refine lv_if_ne (tgt := 21) hM.x hM.b dX5_bestSpit_12 (by decide) (fun c1 => ?_) (fun c1 => ?_)
  · rw [if_neg c1] at hF
    refine lv_aload_n hM.x hM.b dX5_bestSpit_21 rfl (lv_at hl 0 rfl) ?_
    refine k_get5 3 hM hw (by decide) u_fl_X5_45 dX5_bestSpit_22 ?_
    refine lv_bipush (v := 16) hM.x hM.b dX5_bestSpit_25 (by decide) ?_
    refine lv_icmp_ne (tgt := 36) hM.x hM.b dX5_bestSpit_27 (by decide) (fun c2 => ?_) (fun c2 => ?_)
    · rw [if_neg c2] at hF
      refine lv_iconst (v := -1) hM.x hM.b dX5_bestSpit_36 (by decide) ?_
      refine lv_istore_n (lv' := [(2, .int ((-1))), (0, .ref (g.2.2 (91))), (1, .int (a))]) hM.x hM.b dX5_bestSpit_37 rfl hl (by decide) rfl (fun ls hl => ?_)
      refine lv_sipush (v := 201) hM.x hM.b dX5_bestSpit_38 (by decide) ?_
      refine lv_istore_n (lv' := [(3, .int (201)), (2, .int ((-1))), (0, .ref (g.2.2 (91))), (1, .int (a))]) hM.x hM.b dX5_bestSpit_41 rfl hl (by decide) rfl (fun ls hl => ?_)
      refine lv_aload_n hM.x hM.b dX5_bestSpit_42 rfl (lv_at hl 2 rfl) ?_
      refine k_cvp hw (k_runV [] [] hM hw (m_X5_keep l g κ1 _) (kd_lt kd_91 (by decide)) (sh5 kd_91) rfl (k_gV u_ml_X5_150 u_im_X5_keep u_se_X5_keep u_ini_X5 u_co_X5_keep) (q_X5_keep) rfl rfl rfl ⟨Nat.le_of_ble_eq_true rfl, Nat.le_of_ble_eq_true rfl⟩ hl.1 rfl (Nat.le_of_ble_eq_true rfl) dX5_bestSpit_43 ⟨Nat.le_of_ble_eq_true rfl, Nat.le_of_ble_eq_true rfl⟩) (fun κ2 H locs eκ2 hw => ?_)
      rw [eκ2] at hF
      try dsimp only at hF
      refine lv_iconst (v := nI 0) hM.x hM.b dX5_bestSpit_46 (by decide) ?_
      refine lv_istore (lv' := [(4, .int (nI (0))), (3, .int (201)), (2, .int ((-1))), (0, .ref (g.2.2 (91))), (1, .int (a))]) hM.x hM.b dX5_bestSpit_47 hl (by decide) rfl (fun ls hl => ?_)
      refine ml_X5_bestSpit l g a  hM (6) (0) (by omega) ((-1)) (201) κ2 (IS_start eκ2 (MI_th eκ1 hMI) (in_last ((MI_th eκ1 hMI)).2.2.1 (by decide) c2)) _ _ _ (lv_sub hl [0, 1, 2, 3, 4] rfl) hw (fun uz1 κ3 H locs ls he hl hiκ3 hw => ?_)
      rw [he] at hF
      try dsimp only at hF
      refine lv_iload_n hM.x hM.b dX5_bestSpit_116 rfl (lv_at hl 0 rfl) ?_
      exact k_iret hM hr hw (Nat.le_of_ble_eq_true rfl) (Nat.le_of_ble_eq_true rfl) hF dX5_bestSpit_117
    · rw [if_pos c2] at hF
      refine lv_aload_n hM.x hM.b dX5_bestSpit_30 rfl (lv_at hl 0 rfl) ?_
      refine lv_iconst (v := 2) hM.x hM.b dX5_bestSpit_31 (by decide) ?_
      refine k_ci hw (k_runV [.int (2)] [] hM hw (m_X5_fail l g κ1 _ (2)) (kd_lt kd_91 (by decide)) (sh5 kd_91) rfl (k_gV u_ml_X5_103 u_im_X5_fail u_se_X5_fail u_ini_X5 u_co_X5_fail) (q_X5_fail) rfl rfl rfl ⟨Nat.le_of_ble_eq_true rfl, Nat.le_of_ble_eq_true rfl⟩ hl.1 rfl (Nat.le_of_ble_eq_true rfl) dX5_bestSpit_32 ⟨Nat.le_of_ble_eq_true rfl, Nat.le_of_ble_eq_true rfl⟩) (fun r1 κ4 H locs hpκ4 hw => ?_)
      simp only [hpκ4] at hF
      exact k_iret hM hr hw (Nat.le_of_ble_eq_true rfl) (Nat.le_of_ble_eq_true rfl) hF dX5_bestSpit_35
  · rw [if_pos c1] at hF
    refine lv_aload_n hM.x hM.b dX5_bestSpit_15 rfl (lv_at hl 0 rfl) ?_
    refine lv_iconst (v := 1) hM.x hM.b dX5_bestSpit_16 (by decide) ?_
    refine k_ci hw (k_runV [.int (1)] [] hM hw (m_X5_fail l g κ1 _ (1)) (kd_lt kd_91 (by decide)) (sh5 kd_91) rfl (k_gV u_ml_X5_103 u_im_X5_fail u_se_X5_fail u_ini_X5 u_co_X5_fail) (q_X5_fail) rfl rfl rfl ⟨Nat.le_of_ble_eq_true rfl, Nat.le_of_ble_eq_true rfl⟩ hl.1 rfl (Nat.le_of_ble_eq_true rfl) dX5_bestSpit_17 ⟨Nat.le_of_ble_eq_true rfl, Nat.le_of_ble_eq_true rfl⟩) (fun r2 κ5 H locs hpκ5 hw => ?_)
    simp only [hpκ5] at hF
    exact k_iret hM hr hw (Nat.le_of_ble_eq_true rfl) (Nat.le_of_ble_eq_true rfl) hF dX5_bestSpit_20
