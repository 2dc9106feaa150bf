theorem q_X4_meanBrown : hdV yX4_meanBrown RX4 0 := ⟨rfl, by decide +kernel, by decide +kernel, by decide +kernel⟩
def f_X4_meanBrown (κ : Kp) : UInt64 := if 0 < (((κ (1) 5) * (4))) then (FP.ddiv ((FP.i2d (f_X1_sumBrown κ (1)))) ((FP.i2d (((κ (1) 5) * (4)))))) else (FP.dconst0)
set_option maxRecDepth 100000 in
set_option maxHeartbeats 4000000 in
theorem m_X4_meanBrown (l : Launch) (g : Gt) (κ : Kp) (sz : Nat)  : MetD lw_cs l yX4_meanBrown (.code yX4_meanBrown cX4_meanBrown 2 (some .double) :: uW) { frames := 1, cells := 0, slots := 0, locals := 30 } (PRE g κ sz [.ref (g.2.2 (0))]) (va_Qd (fun r κ' => alike64 r (f_X4_meanBrown κ ) = true ∧ κ' = κ) (Wp g) (fr g sz)) 0 0 (fr g sz) := by
  refine k_denter (by decide +kernel) (Nat.le_of_ble_eq_true rfl) ?_
  intro p e s m below meth c ls d0 hM0 hr hl hw hsz hd0
  have hM := hM0.drawn d0
  have hw : Ws g (s.setDrawn d0) κ s.heap [] := hw
  subst hsz
  have hl : lv_has ls 2 [(0, .ref (g.2.2 (0)))] := hl
  have hF := f_X4_meanBrown.eq_1 κ 
  refine lv_aload_n hM.x hM.b dX4_meanBrown_0 rfl (lv_at hl 0 rfl) ?_
  refine k_get4a hM hw u_fl_X4_10 dX4_meanBrown_1 ?_
  refine k_get1 5 hM hw kd_1 (by decide) u_fl_X4_141 dX4_meanBrown_4 ?_
  refine lv_iconst (v := 4) hM.x hM.b dX4_meanBrown_7 (by decide) ?_
  refine lv_imul hM.x hM.b dX4_meanBrown_8 ?_
  refine lv_istore_n (lv' := [(1, .int (((κ (1) 5) * (4)))), (0, .ref (g.2.2 (0)))]) hM.x hM.b dX4_meanBrown_9 rfl hl (by decide) rfl (fun ls hl => ?_)
  refine lv_iload_n hM.x hM.b dX4_meanBrown_10 rfl (lv_at hl 0 rfl) ?_
  refine lv_if_gt (tgt := 16) hM.x hM.b dX4_meanBrown_11 (by decide) (fun c1 => ?_) (fun c1 => ?_)
  · rw [if_pos c1] at hF
    refine lv_aload_n hM.x hM.b dX4_meanBrown_16 rfl (lv_at hl 1 rfl) ?_
    refine k_get4a hM hw u_fl_X4_10 dX4_meanBrown_17 ?_
    refine k_cip hw (k_runV [] [] hM hw (m_X1_sumBrown l g κ _ (1) (kd_1)) (kd_lt kd_1 (by decide)) (sh1 kd_1) rfl (k_gV u_ml_X4_191 u_im_X1_sumBrown u_se_X1_sumBrown u_ini_X1 u_co_X1_sumBrown) (q_X1_sumBrown) rfl rfl rfl ⟨Nat.le_of_ble_eq_true rfl, Nat.le_of_ble_eq_true rfl⟩ hl.1 rfl (Nat.le_of_ble_eq_true rfl) dX4_meanBrown_20 ⟨Nat.le_of_ble_eq_true rfl, Nat.le_of_ble_eq_true rfl⟩) (fun H locs hw => ?_)
    refine lv_i2d hM.x hM.b dX4_meanBrown_23 ?_
    refine lv_iload_n hM.x hM.b dX4_meanBrown_24 rfl (lv_at hl 0 rfl) ?_
    refine lv_i2d hM.x hM.b dX4_meanBrown_25 ?_
    refine lv_ddiv_any hd0 lw_bits hM.x hM.b dX4_meanBrown_26 (fun rd1 dd1 halrd1 hd0 => ?_)
    have hM := hM0.drawn dd1
    have hw : Ws g (s.setDrawn dd1) κ _ _ := hw
    refine W.endD hd0 ?_
    exact k_dret hM hr hw (Nat.le_of_ble_eq_true rfl) (Nat.le_of_ble_eq_true rfl) ⟨by rw [hF]; exact halrd1, rfl⟩ dX4_meanBrown_27
  · rw [if_neg c1] at hF
    refine lv_dconst0 hM.x hM.b dX4_meanBrown_14 ?_
    refine W.endD hd0 ?_
    exact k_dret hM hr hw (Nat.le_of_ble_eq_true rfl) (Nat.le_of_ble_eq_true rfl) ⟨by rw [hF]; exact alike_0, rfl⟩ dX4_meanBrown_15
theorem q_X5_meanBrown : hdV yX5_meanBrown RX5 0 := ⟨rfl, by decide +kernel, by decide +kernel, by decide +kernel⟩
def lp_X5_meanBrown_19 (κ : Kp) (i : Nat) : Nat → Nat → Int32 → Int32
  | 0, j, v1 => v1
  | n + 1, j, v1 => lp_X5_meanBrown_19 (κ) (i) n (j + 1) (((v1) + (f_X5_ro κ (nI (i)) (nI ((4 + j))))))
set_option maxRecDepth 100000 in
set_option maxHeartbeats 4000000 in
theorem ml_X5_meanBrown_19 {p : Program} {e : Env} {s : State} {m : MethodId} {below : List Frame} {meth : Method} {c : Code} {Q : State → Prop} (l : Launch) (g : Gt) (κ : Kp) (i : Nat) (hi : i < 16) (hM : Mc g p s m ([.ref (g.2.2 (91))] : List Value).toArray meth c cX5_meanBrown 4 yX5_meanBrown.cls) : ∀ (n j : Nat), j + n = 4 → ∀ (v1 : Int32), ∀ (H : Heap) (locs : List Loc) (ls : Array Slot), lv_has ls 4 [(3, .int (nI (j))), (2, .int (nI (i))), (1, .int (v1)), (0, .ref (g.2.2 (91)))] → Ws g s κ H locs → (∀ (u1 : Int32) (H : Heap) (locs : List Loc) (ls : Array Slot), lp_X5_meanBrown_19 κ i n j v1 = u1 → lv_has ls 4 [(2, .int (nI (i))), (1, .int (u1)), (0, .ref (g.2.2 (91)))] → Ws g s κ H locs → W p l e { frames := 1, cells := 0, slots := 0, locals := 30 } s m ([.ref (g.2.2 (91))] : List Value).toArray below meth c H locs 0 0 Q (F0 m 41 ls [])) → W p l e { frames := 1, cells := 0, slots := 0, locals := 30 } s m ([.ref (g.2.2 (91))] : List Value).toArray below meth c H locs 0 0 Q (F0 m 19 ls []) := by
  intro n
  induction n with
  | zero =>
    intro j hj v1 H locs ls hl hw hx41
    have hF := Eq.refl (lp_X5_meanBrown_19 κ i 0 j v1)
    conv at hF => rhs; rw [lp_X5_meanBrown_19]
    refine lv_iload_n hM.x hM.b dX5_meanBrown_19 rfl (lv_at hl 0 rfl) ?_
    refine lv_iconst (v := nI 4) hM.x hM.b dX5_meanBrown_20 (by decide) ?_
    refine lv_icmp_ge (tgt := 41) hM.x hM.b dX5_meanBrown_21 (by decide) (fun _ => ?_) (fun cz => absurd (nI_le (by omega) (by omega) : nI 4 ≤ nI j) cz)
    exact hx41 (v1) H locs ls hF (lv_sub hl [1, 2, 3] rfl) hw
  | succ n ih =>
    intro j hj v1 H locs ls hl hw hx41
    have hF := Eq.refl (lp_X5_meanBrown_19 κ i (n + 1) j v1)
    conv at hF => rhs; rw [lp_X5_meanBrown_19]
    refine lv_iload_n hM.x hM.b dX5_meanBrown_19 rfl (lv_at hl 0 rfl) ?_
    refine lv_iconst (v := nI 4) hM.x hM.b dX5_meanBrown_20 (by decide) ?_
    refine lv_icmp_ge (tgt := 41) hM.x hM.b dX5_meanBrown_21 (by decide) (fun cz => absurd cz (nI_ge (by omega) (by decide) : ¬ nI 4 ≤ nI j)) (fun _ => ?_)
    refine lv_iload_n hM.x hM.b dX5_meanBrown_24 rfl (lv_at hl 2 rfl) ?_
    refine lv_aload_n hM.x hM.b dX5_meanBrown_25 rfl (lv_at hl 3 rfl) ?_
    refine lv_iload_n hM.x hM.b dX5_meanBrown_26 rfl (lv_at hl 1 rfl) ?_
    refine lv_iconst (v := 4) hM.x hM.b dX5_meanBrown_27 (by decide) ?_
    refine lv_iload_n hM.x hM.b dX5_meanBrown_28 rfl (lv_at hl 0 rfl) ?_
    refine k_iaddN (a := 4) (b := j) hM dX5_meanBrown_29 ?_
    refine k_cip hw (k_runV [.int (nI (i)), .int (nI ((4 + j)))] [.int (v1)] hM hw (m_X5_ro l g κ _ (nI (i)) (nI ((4 + j))) (vp_in_nI (n := i) (N := 16) (by omega) (by decide)) (vp_in_nI (n := (4 + j)) (N := 8) (by omega) (by decide))) (kd_lt kd_91 (by decide)) (sh5 kd_91) rfl (k_gV u_ml_X5_61 u_im_X5_ro u_se_X5_ro u_ini_X5 u_co_X5_ro) (q_X5_ro) rfl rfl rfl ⟨Nat.le_of_ble_eq_true rfl, Nat.le_of_ble_eq_true rfl⟩ hl.1 rfl (Nat.le_of_ble_eq_true rfl) dX5_meanBrown_30 ⟨Nat.le_of_ble_eq_true rfl, Nat.le_of_ble_eq_true rfl⟩) (fun H locs hw => ?_)
    refine lv_iadd hM.x hM.b dX5_meanBrown_33 ?_
    refine lv_istore_n (lv' := [(1, .int (((v1) + (f_X5_ro κ (nI (i)) (nI ((4 + j))))))), (3, .int (nI (j))), (2, .int (nI (i))), (0, .ref (g.2.2 (91)))]) hM.x hM.b dX5_meanBrown_34 rfl hl (by decide) rfl (fun ls hl => ?_)
    refine lv_iinc (v := nI (j + 1)) (lv' := [(3, .int (nI (j + 1))), (1, .int (((v1) + (f_X5_ro κ (nI (i)) (nI ((4 + j))))))), (2, .int (nI (i))), (0, .ref (g.2.2 (91)))]) hM.x hM.b dX5_meanBrown_35 hl (k := 1) rfl (nI_1 (j)) (by decide) rfl (fun ls hl => ?_)
    refine lv_goto (tgt := 19) hM.x hM.b dX5_meanBrown_38 (by decide) ?_
    exact ih (j + 1) (by omega) (((v1) + (f_X5_ro κ (nI (i)) (nI ((4 + j)))))) H locs ls (lv_sub hl [0, 2, 1, 3] rfl) hw (fun u1 H locs ls he hl hw => hx41 u1 H locs ls (hF.trans he) hl hw)
def lp_X5_meanBrown_9 (κ : Kp)  : Nat → Nat → Int32 → Int32
  | 0, j, v1 => v1
  | n + 1, j, v1 => if (κ 91 3) ≤ (nI (j)) then (v1) else ((fun uz1 : Int32 => lp_X5_meanBrown_9 (κ) n (j + 1) (uz1)) (lp_X5_meanBrown_19 κ j 4 0 (v1)))
set_option maxRecDepth 100000 in
set_option maxHeartbeats 4000000 in
theorem ml_X5_meanBrown_9 {p : Program} {e : Env} {s : State} {m : MethodId} {below : List Frame} {meth : Method} {c : Code} {Q : State → Prop} (l : Launch) (g : Gt) (κ : Kp)  (hMI : MI κ) (hM : Mc g p s m ([.ref (g.2.2 (91))] : List Value).toArray meth c cX5_meanBrown 4 yX5_meanBrown.cls) : ∀ (n j : Nat), j + n = 16 → ∀ (v1 : Int32), ∀ (H : Heap) (locs : List Loc) (ls : Array Slot), lv_has ls 4 [(2, .int (nI (j))), (1, .int (v1)), (0, .ref (g.2.2 (91)))] → Ws g s κ H locs → (∀ (u1 : Int32) (H : Heap) (locs : List Loc) (ls : Array Slot), lp_X5_meanBrown_9 κ n j v1 = u1 → lv_has ls 4 [(1, .int (u1)), (0, .ref (g.2.2 (91)))] → Ws g s κ H locs → W p l e { frames := 1, cells := 0, slots := 0, locals := 30 } s m ([.ref (g.2.2 (91))] : List Value).toArray below meth c H locs 0 0 Q (F0 m 47 ls [])) → W p l e { frames := 1, cells := 0, slots := 0, locals := 30 } s m ([.ref (g.2.2 (91))] : List Value).toArray below meth c H locs 0 0 Q (F0 m 9 ls []) := by
  intro n
  induction n with
  | zero =>
    intro j hj v1 H locs ls hl hw hx47
    have hF := Eq.refl (lp_X5_meanBrown_9 κ 0 j v1)
    conv at hF => rhs; rw [lp_X5_meanBrown_9]
    refine lv_iload_n hM.x hM.b dX5_meanBrown_9 rfl (lv_at hl 0 rfl) ?_
    refine lv_aload_n hM.x hM.b dX5_meanBrown_10 rfl (lv_at hl 2 rfl) ?_
    refine k_get5 3 hM hw (by decide) u_fl_X5_45 dX5_meanBrown_11 ?_
    refine lv_icmp_ge (tgt := 47) hM.x hM.b dX5_meanBrown_14 (by decide) (fun _ => ?_) (fun cz => absurd (MI_re hMI hj) cz)
    exact hx47 (v1) H locs ls hF (lv_sub hl [1, 2] rfl) hw
  | succ n ih =>
    intro j hj v1 H locs ls hl hw hx47
    have hF := Eq.refl (lp_X5_meanBrown_9 κ (n + 1) j v1)
    conv at hF => rhs; rw [lp_X5_meanBrown_9]
    refine lv_iload_n hM.x hM.b dX5_meanBrown_9 rfl (lv_at hl 0 rfl) ?_
    refine lv_aload_n hM.x hM.b dX5_meanBrown_10 rfl (lv_at hl 2 rfl) ?_
    refine k_get5 3 hM hw (by decide) u_fl_X5_45 dX5_meanBrown_11 ?_
    refine lv_icmp_ge (tgt := 47) hM.x hM.b dX5_meanBrown_14 (by decide) (fun c1 => ?_) (fun c1 => ?_)
    · rw [if_pos c1] at hF
      exact hx47 (v1) H locs ls hF (lv_sub hl [1, 2] rfl) hw
    · rw [if_neg c1] at hF
      refine lv_iconst (v := nI 0) hM.x hM.b dX5_meanBrown_17 (by decide) ?_
      refine lv_istore_n (lv' := [(3, .int (nI (0))), (2, .int (nI (j))), (1, .int (v1)), (0, .ref (g.2.2 (91)))]) hM.x hM.b dX5_meanBrown_18 rfl hl (by decide) rfl (fun ls hl => ?_)
      refine ml_X5_meanBrown_19 l g κ j (by omega) hM (4) (0) (by omega) (v1) _ _ _ (lv_sub hl [0, 1, 2, 3] rfl) hw (fun uz1 H locs ls he hl hw => ?_)
      rw [he] at hF
      try dsimp only at hF
      refine lv_iinc (v := nI (j + 1)) (lv' := [(2, .int (nI (j + 1))), (1, .int (uz1)), (0, .ref (g.2.2 (91)))]) hM.x hM.b dX5_meanBrown_41 hl (k := 0) rfl (nI_1 (j)) (by decide) rfl (fun ls hl => ?_)
      refine lv_goto (tgt := 9) hM.x hM.b dX5_meanBrown_44 (by decide) ?_
      exact ih (j + 1) (by omega) (uz1) H locs ls (lv_sub hl [0, 1, 2] rfl) hw (fun u1 H locs ls he hl hw => hx47 u1 H locs ls (hF.trans he) hl hw)
def f_X5_meanBrown (κ : Kp) : UInt64 × Kp := (fun κ1 : Kp => (fun uz1 : Int32 => if (κ1 91 3) = 0 then ((FP.dconst0, κ1)) else ((FP.ddiv ((FP.i2d (uz1))) ((FP.i2d (((4) * (κ1 91 3))))), κ1))) (lp_X5_meanBrown_9 κ1 16 0 (0))) (up2 κ (91) 0 (0))
set_option maxRecDepth 100000 in
set_option maxHeartbeats 4000000 in
theorem m_X5_meanBrown (l : Launch) (g : Gt) (κ : Kp) (sz : Nat) (hMI : MI κ) : MetD lw_cs l yX5_meanBrown (.code yX5_meanBrown cX5_meanBrown 4 (some .double) :: uW) { frames := 1, cells := 0, slots := 0, locals := 30 } (PRE g κ sz [.ref (g.2.2 (91))]) (va_Qd (fun r κ' => ∃ v, f_X5_meanBrown κ  = (v, κ') ∧ alike64 r v = true) (Wp g) (fr g sz)) 0 0 (fr g sz) := by
  refine k_denter (by decide +kernel) (Nat.le_of_ble_eq_true rfl) ?_
  intro p e s m below meth c ls d0 hM0 hr hl hw hsz hd0
  have hM := hM0.drawn d0
  have hw : Ws g (s.setDrawn d0) κ s.heap [] := hw
  subst hsz
  have hl : lv_has ls 4 [(0, .ref (g.2.2 (91)))] := hl
  have hF := f_X5_meanBrown.eq_1 κ 
  refine lv_aload_n hM.x hM.b dX5_meanBrown_0 rfl (lv_at hl 0 rfl) ?_
  refine lv_iconst (v := 0) hM.x hM.b dX5_meanBrown_1 (by decide) ?_
  refine k_put5 0 hM hw (by decide) u_fl_X5_32 dX5_meanBrown_2 (fun H locs hw => ?_)
  obtain ⟨κ1, eκ1⟩ : ∃ z : Kp, up2 κ (91) 0 (0) = z := ⟨_, rfl⟩
  rw [eκ1] at hw
  rw [eκ1] at hF
  try dsimp only at hF
  refine lv_iconst (v := 0) hM.x hM.b dX5_meanBrown_5 (by decide) ?_
  refine lv_istore_n (lv' := [(1, .int (0)), (0, .ref (g.2.2 (91)))]) hM.x hM.b dX5_meanBrown_6 rfl hl (by decide) rfl (fun ls hl => ?_)
  refine lv_iconst (v := nI 0) hM.x hM.b dX5_meanBrown_7 (by decide) ?_
  refine lv_istore_n (lv' := [(2, .int (nI (0))), (1, .int (0)), (0, .ref (g.2.2 (91)))]) hM.x hM.b dX5_meanBrown_8 rfl hl (by decide) rfl (fun ls hl => ?_)
  refine ml_X5_meanBrown_9 l g κ1 (MI_th eκ1 hMI) hM (16) (0) (by omega) (0) _ _ _ (lv_sub hl [0, 1, 2] rfl) hw (fun uz1 H locs ls he hl hw => ?_)
  rw [he] at hF
  try dsimp only at hF
  refine lv_aload_n hM.x hM.b dX5_meanBrown_47 rfl (lv_at hl 1 rfl) ?_
  refine k_get5 3 hM hw (by decide) u_fl_X5_45 dX5_meanBrown_48 ?_
  refine lv_if_ne (tgt := 58) hM.x hM.b dX5_meanBrown_51 (by decide) (fun c1 => ?_) (fun c1 => ?_)
  · rw [if_neg c1] at hF
    refine lv_iload_n hM.x hM.b dX5_meanBrown_58 rfl (lv_at hl 0 rfl) ?_
    refine lv_i2d hM.x hM.b dX5_meanBrown_59 ?_
    refine lv_iconst (v := 4) hM.x hM.b dX5_meanBrown_60 (by decide) ?_
    refine lv_aload_n hM.x hM.b dX5_meanBrown_61 rfl (lv_at hl 1 rfl) ?_
    refine k_get5 3 hM hw (by decide) u_fl_X5_45 dX5_meanBrown_62 ?_
    refine lv_imul hM.x hM.b dX5_meanBrown_65 ?_
    refine lv_i2d hM.x hM.b dX5_meanBrown_66 ?_
    refine lv_ddiv_any hd0 lw_bits hM.x hM.b dX5_meanBrown_67 (fun rd1 dd1 halrd1 hd0 => ?_)
    have hM := hM0.drawn dd1
    have hw : Ws g (s.setDrawn dd1) κ1 _ _ := hw
    refine W.endD hd0 ?_
    exact k_dret hM hr hw (Nat.le_of_ble_eq_true rfl) (Nat.le_of_ble_eq_true rfl) ⟨_, hF, halrd1⟩ dX5_meanBrown_68
  · rw [if_pos c1] at hF
    refine lv_dconst0 hM.x hM.b dX5_meanBrown_54 ?_
    refine lv_goto (tgt := 68) hM.x hM.b dX5_meanBrown_55 (by decide) ?_
    refine W.endD hd0 ?_
    exact k_dret hM hr hw (Nat.le_of_ble_eq_true rfl) (Nat.le_of_ble_eq_true rfl) ⟨_, hF, alike_0⟩ dX5_meanBrown_68
