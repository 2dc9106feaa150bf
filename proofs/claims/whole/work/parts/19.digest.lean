theorem q_X4_mix : hdV yX4_mix RX4 2 := ⟨rfl, by decide +kernel, by decide +kernel, by decide +kernel⟩
def f_X4_mix (a : Int64) (b : Int64) : Int64 := ((((a) * (31))) + (b))
set_option maxRecDepth 100000 in
set_option maxHeartbeats 4000000 in
theorem m_X4_mix (l : Launch) (g : Gt) (κ : Kp) (sz : Nat) (a : Int64) (b : Int64) : Met l yX4_mix (.code yX4_mix cX4_mix 4 (some .long) :: uW) { frames := 0, cells := 0, slots := 0, locals := 0 } (PRE g κ sz [.long (a), .long (b)]) (va_Ql (fun r κ' => r = f_X4_mix a b ∧ κ' = κ) (Wp g) (fr g sz)) 0 0 (fr g sz) := by
  refine k_enter (by decide +kernel) (Nat.le_of_ble_eq_true rfl) ?_
  intro p e s m below meth c ls hM hr hl hw hsz
  subst hsz
  have hl : lv_has ls 4 [(0, .long (a)), (2, .long (b))] := hl
  have hF := f_X4_mix.eq_1 a b
  refine lv_lload_n hM.x hM.b dX4_mix_0 rfl (lv_at hl 0 rfl) ?_
  refine lv_ldc2 hM.x hM.b hM.ow (hM.ts _ u_kl_X4_234) dX4_mix_1 ?_
  refine lv_lmul hM.x hM.b dX4_mix_4 ?_
  refine lv_lload_n hM.x hM.b dX4_mix_5 rfl (lv_at hl 1 rfl) ?_
  refine lv_ladd hM.x hM.b dX4_mix_6 ?_
  exact k_lret hM hr hw (Nat.le_of_ble_eq_true rfl) (Nat.le_of_ble_eq_true rfl) ⟨hF.symm, rfl⟩ dX4_mix_7
theorem q_X4_mixFires : hdV yX4_mixFires RX4 1 := ⟨rfl, by decide +kernel, by decide +kernel, by decide +kernel⟩
def lp_X4_mixFires (κ : Kp) (a : Int64) : Nat → Nat → Int64 → Int64
  | 0, j, w3 => w3
  | n + 1, j, w3 => if (κ (1) 3) ≤ (nI (j)) then (w3) else (lp_X4_mixFires (κ) (a) n (j + 1) (f_X4_mix (f_X4_mix (w3) ((κ (1 + 4 + (j)) 0).toInt64)) ((κ (1 + 4 + (j)) 1).toInt64)))
set_option maxRecDepth 100000 in
set_option maxHeartbeats 4000000 in
theorem ml_X4_mixFires {p : Program} {e : Env} {s : State} {m : MethodId} {below : List Frame} {meth : Method} {c : Code} {Q : State → Prop} (l : Launch) (g : Gt) (κ : Kp) (a : Int64)  (hM : Mc g p s m ([.ref (g.2.2 (0)), .long (a)] : List Value).toArray meth c cX4_mixFires 7 yX4_mixFires.cls) : ∀ (n j : Nat), j + n = 3 → ∀ (w3 : Int64), ∀ (H : Heap) (locs : List Loc) (ls : Array Slot), lv_has ls 7 [(5, .int (nI (j))), (3, .long (w3)), (0, .ref (g.2.2 (0))), (1, .long (a))] → Ws g s κ H locs → (∀ (u3 : Int64) (H : Heap) (locs : List Loc) (ls : Array Slot), lp_X4_mixFires κ a n j w3 = u3 → lv_has ls 7 [(3, .long (u3))] → Ws g s κ H locs → W p l e { frames := 1, cells := 0, slots := 0, locals := 30 } s m ([.ref (g.2.2 (0)), .long (a)] : List Value).toArray below meth c H locs 0 0 Q (F0 m 70 ls [])) → W p l e { frames := 1, cells := 0, slots := 0, locals := 30 } s m ([.ref (g.2.2 (0)), .long (a)] : List Value).toArray below meth c H locs 0 0 Q (F0 m 5 ls []) := by
  intro n
  induction n with
  | zero =>
    intro j hj w3 H locs ls hl hw hx70
    have hF := Eq.refl (lp_X4_mixFires κ a 0 j w3)
    conv at hF => rhs; rw [lp_X4_mixFires]
    refine lv_iload hM.x hM.b dX4_mixFires_5 (lv_at hl 0 rfl) ?_
    refine lv_aload_n hM.x hM.b dX4_mixFires_7 rfl (lv_at hl 2 rfl) ?_
    refine k_get4a hM hw u_fl_X4_10 dX4_mixFires_8 ?_
    refine k_get1r 0 hM hw kd_1 (by decide) u_fl_X4_236 dX4_mixFires_11 ?_
    refine k_alen (v := nI 3) hM hw (kd_lt (kd1_7 kd_1) (by decide)) 2 (sh7 (kd1_7 kd_1)) rfl rfl dX4_mixFires_14 ?_
    refine lv_icmp_ge (tgt := 70) hM.x hM.b dX4_mixFires_15 (by decide) (fun _ => ?_) (fun cz => absurd (nI_le (by omega) (by omega) : nI 3 ≤ nI j) cz)
    exact hx70 (w3) H locs ls hF (lv_sub hl [1] rfl) hw
  | succ n ih =>
    intro j hj w3 H locs ls hl hw hx70
    have hF := Eq.refl (lp_X4_mixFires κ a (n + 1) j w3)
    conv at hF => rhs; rw [lp_X4_mixFires]
    refine lv_iload hM.x hM.b dX4_mixFires_5 (lv_at hl 0 rfl) ?_
    refine lv_aload_n hM.x hM.b dX4_mixFires_7 rfl (lv_at hl 2 rfl) ?_
    refine k_get4a hM hw u_fl_X4_10 dX4_mixFires_8 ?_
    refine k_get1r 0 hM hw kd_1 (by decide) u_fl_X4_236 dX4_mixFires_11 ?_
    refine k_alen (v := nI 3) hM hw (kd_lt (kd1_7 kd_1) (by decide)) 2 (sh7 (kd1_7 kd_1)) rfl rfl dX4_mixFires_14 ?_
    refine lv_icmp_ge (tgt := 70) hM.x hM.b dX4_mixFires_15 (by decide) (fun cz => absurd cz (nI_ge (by omega) (by decide) : ¬ nI 3 ≤ nI j)) (fun _ => ?_)
    refine lv_iload hM.x hM.b dX4_mixFires_18 (lv_at hl 0 rfl) ?_
    refine lv_aload_n hM.x hM.b dX4_mixFires_20 rfl (lv_at hl 2 rfl) ?_
    refine k_get4a hM hw u_fl_X4_10 dX4_mixFires_21 ?_
    refine k_get1 3 hM hw kd_1 (by decide) u_fl_X4_125 dX4_mixFires_24 ?_
    refine lv_icmp_ge (tgt := 70) hM.x hM.b dX4_mixFires_27 (by decide) (fun c1 => ?_) (fun c1 => ?_)
    · rw [if_pos c1] at hF
      exact hx70 (w3) H locs ls hF (lv_sub hl [1] rfl) hw
    · rw [if_neg c1] at hF
      refine lv_aload_n hM.x hM.b dX4_mixFires_30 rfl (lv_at hl 2 rfl) ?_
      refine k_get4a hM hw u_fl_X4_10 dX4_mixFires_31 ?_
      refine k_get1r 0 hM hw kd_1 (by decide) u_fl_X4_236 dX4_mixFires_34 ?_
      refine lv_iload hM.x hM.b dX4_mixFires_37 (lv_at hl 0 rfl) ?_
      refine k_ald7N (i := j) hM hw kd_1 (by omega) dX4_mixFires_39 ?_
      refine lv_astore (lv' := [(6, .ref (g.2.2 (1 + 4 + (j)))), (5, .int (nI (j))), (3, .long (w3)), (0, .ref (g.2.2 (0))), (1, .long (a))]) hM.x hM.b dX4_mixFires_40 hl (by decide) rfl (fun ls hl => ?_)
      refine lv_lload_n hM.x hM.b dX4_mixFires_42 rfl (lv_at hl 2 rfl) ?_
      refine lv_aload hM.x hM.b dX4_mixFires_43 (lv_at hl 0 rfl) ?_
      refine k_get0 0 hM hw (kd1_0 kd_1 (by omega)) (by decide) u_fl_X4_39 dX4_mixFires_45 ?_
      refine lv_i2l (v := (κ (1 + 4 + (j)) 0).toInt64) hM.x hM.b dX4_mixFires_48 rfl ?_
      refine k_clp hw (k_runS [.long (w3), .long ((κ (1 + 4 + (j)) 0).toInt64)] [] hM hw (m_X4_mix l g κ _ (w3) ((κ (1 + 4 + (j)) 0).toInt64)) (k_gS u_ml_X4_196 u_st_X4_mix u_ini_X4 u_co_X4_mix) (q_X4_mix) rfl rfl rfl ⟨Nat.le_of_ble_eq_true rfl, Nat.le_of_ble_eq_true rfl⟩ hl.1 rfl (Nat.le_of_ble_eq_true rfl) dX4_mixFires_49 ⟨Nat.le_of_ble_eq_true rfl, Nat.le_of_ble_eq_true rfl⟩) (fun H locs hw => ?_)
      refine lv_lstore_n (lv' := [(3, .long (f_X4_mix (w3) ((κ (1 + 4 + (j)) 0).toInt64))), (6, .ref (g.2.2 (1 + 4 + (j)))), (5, .int (nI (j))), (0, .ref (g.2.2 (0))), (1, .long (a))]) hM.x hM.b dX4_mixFires_52 rfl hl (by decide) rfl (fun ls hl => ?_)
      refine lv_lload_n hM.x hM.b dX4_mixFires_53 rfl (lv_at hl 0 rfl) ?_
      refine lv_aload hM.x hM.b dX4_mixFires_54 (lv_at hl 1 rfl) ?_
      refine k_get0 1 hM hw (kd1_0 kd_1 (by omega)) (by decide) u_fl_X4_128 dX4_mixFires_56 ?_
      refine lv_i2l (v := (κ (1 + 4 + (j)) 1).toInt64) hM.x hM.b dX4_mixFires_59 rfl ?_
      refine k_clp hw (k_runS [.long (f_X4_mix (w3) ((κ (1 + 4 + (j)) 0).toInt64)), .long ((κ (1 + 4 + (j)) 1).toInt64)] [] hM hw (m_X4_mix l g κ _ (f_X4_mix (w3) ((κ (1 + 4 + (j)) 0).toInt64)) ((κ (1 + 4 + (j)) 1).toInt64)) (k_gS u_ml_X4_196 u_st_X4_mix u_ini_X4 u_co_X4_mix) (q_X4_mix) rfl rfl rfl ⟨Nat.le_of_ble_eq_true rfl, Nat.le_of_ble_eq_true rfl⟩ hl.1 rfl (Nat.le_of_ble_eq_true rfl) dX4_mixFires_60 ⟨Nat.le_of_ble_eq_true rfl, Nat.le_of_ble_eq_true rfl⟩) (fun H locs hw => ?_)
      refine lv_lstore_n (lv' := [(3, .long (f_X4_mix (f_X4_mix (w3) ((κ (1 + 4 + (j)) 0).toInt64)) ((κ (1 + 4 + (j)) 1).toInt64))), (6, .ref (g.2.2 (1 + 4 + (j)))), (5, .int (nI (j))), (0, .ref (g.2.2 (0))), (1, .long (a))]) hM.x hM.b dX4_mixFires_63 rfl hl (by decide) rfl (fun ls hl => ?_)
      refine lv_iinc (v := nI (j + 1)) (lv' := [(5, .int (nI (j + 1))), (3, .long (f_X4_mix (f_X4_mix (w3) ((κ (1 + 4 + (j)) 0).toInt64)) ((κ (1 + 4 + (j)) 1).toInt64))), (6, .ref (g.2.2 (1 + 4 + (j)))), (0, .ref (g.2.2 (0))), (1, .long (a))]) hM.x hM.b dX4_mixFires_64 hl (k := 2) rfl (nI_1 (j)) (by decide) rfl (fun ls hl => ?_)
      refine lv_goto (tgt := 5) hM.x hM.b dX4_mixFires_67 (by decide) ?_
      exact ih (j + 1) (by omega) (f_X4_mix (f_X4_mix (w3) ((κ (1 + 4 + (j)) 0).toInt64)) ((κ (1 + 4 + (j)) 1).toInt64)) H locs ls (lv_sub hl [0, 1, 3, 4] rfl) hw (fun u3 H locs ls he hl hw => hx70 u3 H locs ls (hF.trans he) hl hw)
def f_X4_mixFires (κ : Kp) (a : Int64) : Int64 := (fun uz1 : Int64 => uz1) (lp_X4_mixFires κ a 3 0 (a))
set_option maxRecDepth 100000 in
set_option maxHeartbeats 4000000 in
theorem m_X4_mixFires (l : Launch) (g : Gt) (κ : Kp) (sz : Nat) (a : Int64) : Met l yX4_mixFires (.code yX4_mixFires cX4_mixFires 7 (some .long) :: uW) { frames := 1, cells := 0, slots := 0, locals := 30 } (PRE g κ sz [.ref (g.2.2 (0)), .long (a)]) (va_Ql (fun r κ' => r = f_X4_mixFires κ a ∧ κ' = κ) (Wp g) (fr g sz)) 0 0 (fr g sz) := by
  refine k_enter (by decide +kernel) (Nat.le_of_ble_eq_true rfl) ?_
  intro p e s m below meth c ls hM hr hl hw hsz
  subst hsz
  have hl : lv_has ls 7 [(0, .ref (g.2.2 (0))), (1, .long (a))] := hl
  have hF := f_X4_mixFires.eq_1 κ a
  refine lv_lload_n hM.x hM.b dX4_mixFires_0 rfl (lv_at hl 1 rfl) ?_
  refine lv_lstore_n (lv' := [(3, .long (a)), (0, .ref (g.2.2 (0))), (1, .long (a))]) hM.x hM.b dX4_mixFires_1 rfl hl (by decide) rfl (fun ls hl => ?_)
  refine lv_iconst (v := nI 0) hM.x hM.b dX4_mixFires_2 (by decide) ?_
  refine lv_istore (lv' := [(5, .int (nI (0))), (3, .long (a)), (0, .ref (g.2.2 (0))), (1, .long (a))]) hM.x hM.b dX4_mixFires_3 hl (by decide) rfl (fun ls hl => ?_)
  refine ml_X4_mixFires l g κ a  hM (3) (0) (by omega) (a) _ _ _ (lv_sub hl [0, 1, 2, 3] rfl) hw (fun uz1 H locs ls he hl hw => ?_)
  rw [he] at hF
  try dsimp only at hF
  refine lv_lload_n hM.x hM.b dX4_mixFires_70 rfl (lv_at hl 0 rfl) ?_
  exact k_lret hM hr hw (Nat.le_of_ble_eq_true rfl) (Nat.le_of_ble_eq_true rfl) ⟨hF.symm, rfl⟩ dX4_mixFires_71
theorem q_X4_mixSpits : hdV yX4_mixSpits RX4 1 := ⟨rfl, by decide +kernel, by decide +kernel, by decide +kernel⟩
def lp_X4_mixSpits (κ : Kp) (a : Int64) : Nat → Nat → Int64 → Int64
  | 0, j, w3 => w3
  | n + 1, j, w3 => if (κ (1) 4) ≤ (nI (j)) then (w3) else (lp_X4_mixSpits (κ) (a) n (j + 1) (f_X4_mix (f_X4_mix (f_X4_mix (f_X4_mix (f_X4_mix (f_X4_mix (w3) ((κ (1 + 7 + (j)) 0).toInt64)) ((κ (1 + 7 + (j)) 1).toInt64)) ((f_X1_glowOf κ (1) (1 + 7 + (j))).toInt64)) ((κ (1 + 7 + (j)) 2).toInt64)) ((κ (1 + 7 + (j)) 4).toInt64)) ((κ (1 + 7 + (j)) 5).toInt64)))
set_option maxRecDepth 100000 in
set_option maxHeartbeats 4000000 in
theorem ml_X4_mixSpits {p : Program} {e : Env} {s : State} {m : MethodId} {below : List Frame} {meth : Method} {c : Code} {Q : State → Prop} (l : Launch) (g : Gt) (κ : Kp) (a : Int64)  (hM : Mc g p s m ([.ref (g.2.2 (0)), .long (a)] : List Value).toArray meth c cX4_mixSpits 7 yX4_mixSpits.cls) : ∀ (n j : Nat), j + n = 6 → ∀ (w3 : Int64), ∀ (H : Heap) (locs : List Loc) (ls : Array Slot), lv_has ls 7 [(5, .int (nI (j))), (3, .long (w3)), (0, .ref (g.2.2 (0))), (1, .long (a))] → Ws g s κ H locs → (∀ (u3 : Int64) (H : Heap) (locs : List Loc) (ls : Array Slot), lp_X4_mixSpits κ a n j w3 = u3 → lv_has ls 7 [(3, .long (u3))] → Ws g s κ H locs → W p l e { frames := 2, cells := 0, slots := 0, locals := 60 } s m ([.ref (g.2.2 (0)), .long (a)] : List Value).toArray below meth c H locs 0 0 Q (F0 m 118 ls [])) → W p l e { frames := 2, cells := 0, slots := 0, locals := 60 } s m ([.ref (g.2.2 (0)), .long (a)] : List Value).toArray below meth c H locs 0 0 Q (F0 m 5 ls []) := by
  intro n
  induction n with
  | zero =>
    intro j hj w3 H locs ls hl hw hx118
    have hF := Eq.refl (lp_X4_mixSpits κ a 0 j w3)
    conv at hF => rhs; rw [lp_X4_mixSpits]
    refine lv_iload hM.x hM.b dX4_mixSpits_5 (lv_at hl 0 rfl) ?_
    refine lv_aload_n hM.x hM.b dX4_mixSpits_7 rfl (lv_at hl 2 rfl) ?_
    refine k_get4a hM hw u_fl_X4_10 dX4_mixSpits_8 ?_
    refine k_get1r 1 hM hw kd_1 (by decide) u_fl_X4_240 dX4_mixSpits_11 ?_
    refine k_alen (v := nI 6) hM hw (kd_lt (kd1_8 kd_1) (by decide)) 3 (sh8 (kd1_8 kd_1)) rfl rfl dX4_mixSpits_14 ?_
    refine lv_icmp_ge (tgt := 118) hM.x hM.b dX4_mixSpits_15 (by decide) (fun _ => ?_) (fun cz => absurd (nI_le (by omega) (by omega) : nI 6 ≤ nI j) cz)
    exact hx118 (w3) H locs ls hF (lv_sub hl [1] rfl) hw
  | succ n ih =>
    intro j hj w3 H locs ls hl hw hx118
    have hF := Eq.refl (lp_X4_mixSpits κ a (n + 1) j w3)
    conv at hF => rhs; rw [lp_X4_mixSpits]
    refine lv_iload hM.x hM.b dX4_mixSpits_5 (lv_at hl 0 rfl) ?_
    refine lv_aload_n hM.x hM.b dX4_mixSpits_7 rfl (lv_at hl 2 rfl) ?_
    refine k_get4a hM hw u_fl_X4_10 dX4_mixSpits_8 ?_
    refine k_get1r 1 hM hw kd_1 (by decide) u_fl_X4_240 dX4_mixSpits_11 ?_
    refine k_alen (v := nI 6) hM hw (kd_lt (kd1_8 kd_1) (by decide)) 3 (sh8 (kd1_8 kd_1)) rfl rfl dX4_mixSpits_14 ?_
    refine lv_icmp_ge (tgt := 118) hM.x hM.b dX4_mixSpits_15 (by decide) (fun cz => absurd cz (nI_ge (by omega) (by decide) : ¬ nI 6 ≤ nI j)) (fun _ => ?_)
    refine lv_iload hM.x hM.b dX4_mixSpits_18 (lv_at hl 0 rfl) ?_
    refine lv_aload_n hM.x hM.b dX4_mixSpits_20 rfl (lv_at hl 2 rfl) ?_
    refine k_get4a hM hw u_fl_X4_10 dX4_mixSpits_21 ?_
    refine k_get1 4 hM hw kd_1 (by decide) u_fl_X4_131 dX4_mixSpits_24 ?_
    refine lv_icmp_ge (tgt := 118) hM.x hM.b dX4_mixSpits_27 (by decide) (fun c1 => ?_) (fun c1 => ?_)
    · rw [if_pos c1] at hF
      exact hx118 (w3) H locs ls hF (lv_sub hl [1] rfl) hw
    · rw [if_neg c1] at hF
      refine lv_aload_n hM.x hM.b dX4_mixSpits_30 rfl (lv_at hl 2 rfl) ?_
      refine k_get4a hM hw u_fl_X4_10 dX4_mixSpits_31 ?_
      refine k_get1r 1 hM hw kd_1 (by decide) u_fl_X4_240 dX4_mixSpits_34 ?_
      refine lv_iload hM.x hM.b dX4_mixSpits_37 (lv_at hl 0 rfl) ?_
      refine k_ald8N (i := j) hM hw kd_1 (by omega) dX4_mixSpits_39 ?_
      refine lv_astore (lv' := [(6, .ref (g.2.2 (1 + 7 + (j)))), (5, .int (nI (j))), (3, .long (w3)), (0, .ref (g.2.2 (0))), (1, .long (a))]) hM.x hM.b dX4_mixSpits_40 hl (by decide) rfl (fun ls hl => ?_)
      refine lv_lload_n hM.x hM.b dX4_mixSpits_42 rfl (lv_at hl 2 rfl) ?_
      refine lv_aload hM.x hM.b dX4_mixSpits_43 (lv_at hl 0 rfl) ?_
      refine k_get3 0 hM hw (kd1_3 kd_1 (by omega)) (by decide) u_fl_X4_134 dX4_mixSpits_45 ?_
      refine lv_i2l (v := (κ (1 + 7 + (j)) 0).toInt64) hM.x hM.b dX4_mixSpits_48 rfl ?_
      refine k_clp hw (k_runS [.long (w3), .long ((κ (1 + 7 + (j)) 0).toInt64)] [] hM hw (m_X4_mix l g κ _ (w3) ((κ (1 + 7 + (j)) 0).toInt64)) (k_gS u_ml_X4_196 u_st_X4_mix u_ini_X4 u_co_X4_mix) (q_X4_mix) rfl rfl rfl ⟨Nat.le_of_ble_eq_true rfl, Nat.le_of_ble_eq_true rfl⟩ hl.1 rfl (Nat.le_of_ble_eq_true rfl) dX4_mixSpits_49 ⟨Nat.le_of_ble_eq_true rfl, Nat.le_of_ble_eq_true rfl⟩) (fun H locs hw => ?_)
      refine lv_lstore_n (lv' := [(3, .long (f_X4_mix (w3) ((κ (1 + 7 + (j)) 0).toInt64))), (6, .ref (g.2.2 (1 + 7 + (j)))), (5, .int (nI (j))), (0, .ref (g.2.2 (0))), (1, .long (a))]) hM.x hM.b dX4_mixSpits_52 rfl hl (by decide) rfl (fun ls hl => ?_)
      refine lv_lload_n hM.x hM.b dX4_mixSpits_53 rfl (lv_at hl 0 rfl) ?_
      refine lv_aload hM.x hM.b dX4_mixSpits_54 (lv_at hl 1 rfl) ?_
      refine k_get3 1 hM hw (kd1_3 kd_1 (by omega)) (by decide) u_fl_X4_64 dX4_mixSpits_56 ?_
      refine lv_i2l (v := (κ (1 + 7 + (j)) 1).toInt64) hM.x hM.b dX4_mixSpits_59 rfl ?_
      refine k_clp hw (k_runS [.long (f_X4_mix (w3) ((κ (1 + 7 + (j)) 0).toInt64)), .long ((κ (1 + 7 + (j)) 1).toInt64)] [] hM hw (m_X4_mix l g κ _ (f_X4_mix (w3) ((κ (1 + 7 + (j)) 0).toInt64)) ((κ (1 + 7 + (j)) 1).toInt64)) (k_gS u_ml_X4_196 u_st_X4_mix u_ini_X4 u_co_X4_mix) (q_X4_mix) rfl rfl rfl ⟨Nat.le_of_ble_eq_true rfl, Nat.le_of_ble_eq_true rfl⟩ hl.1 rfl (Nat.le_of_ble_eq_true rfl) dX4_mixSpits_60 ⟨Nat.le_of_ble_eq_true rfl, Nat.le_of_ble_eq_true rfl⟩) (fun H locs hw => ?_)
      refine lv_lstore_n (lv' := [(3, .long (f_X4_mix (f_X4_mix (w3) ((κ (1 + 7 + (j)) 0).toInt64)) ((κ (1 + 7 + (j)) 1).toInt64))), (6, .ref (g.2.2 (1 + 7 + (j)))), (5, .int (nI (j))), (0, .ref (g.2.2 (0))), (1, .long (a))]) hM.x hM.b dX4_mixSpits_63 rfl hl (by decide) rfl (fun ls hl => ?_)
      refine lv_lload_n hM.x hM.b dX4_mixSpits_64 rfl (lv_at hl 0 rfl) ?_
      refine lv_aload_n hM.x hM.b dX4_mixSpits_65 rfl (lv_at hl 3 rfl) ?_
      refine k_get4a hM hw u_fl_X4_10 dX4_mixSpits_66 ?_
      refine lv_aload hM.x hM.b dX4_mixSpits_69 (lv_at hl 1 rfl) ?_
      refine k_cip hw (k_runV [.ref (g.2.2 (1 + 7 + (j)))] [.long (f_X4_mix (f_X4_mix (w3) ((κ (1 + 7 + (j)) 0).toInt64)) ((κ (1 + 7 + (j)) 1).toInt64))] hM hw (m_X1_glowOf l g κ _ (1) (1 + 7 + (j)) (kd_1) ((kd1_3 kd_1 (by omega)))) (kd_lt kd_1 (by decide)) (sh1 kd_1) rfl (k_gV u_ml_X4_137 u_im_X1_glowOf u_se_X1_glowOf u_ini_X1 u_co_X1_glowOf) (q_X1_glowOf) rfl rfl rfl ⟨Nat.le_of_ble_eq_true rfl, Nat.le_of_ble_eq_true rfl⟩ hl.1 rfl (Nat.le_of_ble_eq_true rfl) dX4_mixSpits_71 ⟨Nat.le_of_ble_eq_true rfl, Nat.le_of_ble_eq_true rfl⟩) (fun H locs hw => ?_)
      refine lv_i2l (v := (f_X1_glowOf κ (1) (1 + 7 + (j))).toInt64) hM.x hM.b dX4_mixSpits_74 rfl ?_
      refine k_clp hw (k_runS [.long (f_X4_mix (f_X4_mix (w3) ((κ (1 + 7 + (j)) 0).toInt64)) ((κ (1 + 7 + (j)) 1).toInt64)), .long ((f_X1_glowOf κ (1) (1 + 7 + (j))).toInt64)] [] hM hw (m_X4_mix l g κ _ (f_X4_mix (f_X4_mix (w3) ((κ (1 + 7 + (j)) 0).toInt64)) ((κ (1 + 7 + (j)) 1).toInt64)) ((f_X1_glowOf κ (1) (1 + 7 + (j))).toInt64)) (k_gS u_ml_X4_196 u_st_X4_mix u_ini_X4 u_co_X4_mix) (q_X4_mix) rfl rfl rfl ⟨Nat.le_of_ble_eq_true rfl, Nat.le_of_ble_eq_true rfl⟩ hl.1 rfl (Nat.le_of_ble_eq_true rfl) dX4_mixSpits_75 ⟨Nat.le_of_ble_eq_true rfl, Nat.le_of_ble_eq_true rfl⟩) (fun H locs hw => ?_)
      refine lv_lstore_n (lv' := [(3, .long (f_X4_mix (f_X4_mix (f_X4_mix (w3) ((κ (1 + 7 + (j)) 0).toInt64)) ((κ (1 + 7 + (j)) 1).toInt64)) ((f_X1_glowOf κ (1) (1 + 7 + (j))).toInt64))), (6, .ref (g.2.2 (1 + 7 + (j)))), (5, .int (nI (j))), (0, .ref (g.2.2 (0))), (1, .long (a))]) hM.x hM.b dX4_mixSpits_78 rfl hl (by decide) rfl (fun ls hl => ?_)
      refine lv_lload_n hM.x hM.b dX4_mixSpits_79 rfl (lv_at hl 0 rfl) ?_
      refine lv_aload hM.x hM.b dX4_mixSpits_80 (lv_at hl 1 rfl) ?_
      refine k_get3 2 hM hw (kd1_3 kd_1 (by omega)) (by decide) u_fl_X4_71 dX4_mixSpits_82 ?_
      refine lv_i2l (v := (κ (1 + 7 + (j)) 2).toInt64) hM.x hM.b dX4_mixSpits_85 rfl ?_
      refine k_clp hw (k_runS [.long (f_X4_mix (f_X4_mix (f_X4_mix (w3) ((κ (1 + 7 + (j)) 0).toInt64)) ((κ (1 + 7 + (j)) 1).toInt64)) ((f_X1_glowOf κ (1) (1 + 7 + (j))).toInt64)), .long ((κ (1 + 7 + (j)) 2).toInt64)] [] hM hw (m_X4_mix l g κ _ (f_X4_mix (f_X4_mix (f_X4_mix (w3) ((κ (1 + 7 + (j)) 0).toInt64)) ((κ (1 + 7 + (j)) 1).toInt64)) ((f_X1_glowOf κ (1) (1 + 7 + (j))).toInt64)) ((κ (1 + 7 + (j)) 2).toInt64)) (k_gS u_ml_X4_196 u_st_X4_mix u_ini_X4 u_co_X4_mix) (q_X4_mix) rfl rfl rfl ⟨Nat.le_of_ble_eq_true rfl, Nat.le_of_ble_eq_true rfl⟩ hl.1 rfl (Nat.le_of_ble_eq_true rfl) dX4_mixSpits_86 ⟨Nat.le_of_ble_eq_true rfl, Nat.le_of_ble_eq_true rfl⟩) (fun H locs hw => ?_)
      refine lv_lstore_n (lv' := [(3, .long (f_X4_mix (f_X4_mix (f_X4_mix (f_X4_mix (w3) ((κ (1 + 7 + (j)) 0).toInt64)) ((κ (1 + 7 + (j)) 1).toInt64)) ((f_X1_glowOf κ (1) (1 + 7 + (j))).toInt64)) ((κ (1 + 7 + (j)) 2).toInt64))), (6, .ref (g.2.2 (1 + 7 + (j)))), (5, .int (nI (j))), (0, .ref (g.2.2 (0))), (1, .long (a))]) hM.x hM.b dX4_mixSpits_89 rfl hl (by decide) rfl (fun ls hl => ?_)
      refine lv_lload_n hM.x hM.b dX4_mixSpits_90 rfl (lv_at hl 0 rfl) ?_
      refine lv_aload hM.x hM.b dX4_mixSpits_91 (lv_at hl 1 rfl) ?_
      refine k_get3 4 hM hw (kd1_3 kd_1 (by omega)) (by decide) u_fl_X4_102 dX4_mixSpits_93 ?_
      refine lv_i2l (v := (κ (1 + 7 + (j)) 4).toInt64) hM.x hM.b dX4_mixSpits_96 rfl ?_
      refine k_clp hw (k_runS [.long (f_X4_mix (f_X4_mix (f_X4_mix (f_X4_mix (w3) ((κ (1 + 7 + (j)) 0).toInt64)) ((κ (1 + 7 + (j)) 1).toInt64)) ((f_X1_glowOf κ (1) (1 + 7 + (j))).toInt64)) ((κ (1 + 7 + (j)) 2).toInt64)), .long ((κ (1 + 7 + (j)) 4).toInt64)] [] hM hw (m_X4_mix l g κ _ (f_X4_mix (f_X4_mix (f_X4_mix (f_X4_mix (w3) ((κ (1 + 7 + (j)) 0).toInt64)) ((κ (1 + 7 + (j)) 1).toInt64)) ((f_X1_glowOf κ (1) (1 + 7 + (j))).toInt64)) ((κ (1 + 7 + (j)) 2).toInt64)) ((κ (1 + 7 + (j)) 4).toInt64)) (k_gS u_ml_X4_196 u_st_X4_mix u_ini_X4 u_co_X4_mix) (q_X4_mix) rfl rfl rfl ⟨Nat.le_of_ble_eq_true rfl, Nat.le_of_ble_eq_true rfl⟩ hl.1 rfl (Nat.le_of_ble_eq_true rfl) dX4_mixSpits_97 ⟨Nat.le_of_ble_eq_true rfl, Nat.le_of_ble_eq_true rfl⟩) (fun H locs hw => ?_)
      refine lv_lstore_n (lv' := [(3, .long (f_X4_mix (f_X4_mix (f_X4_mix (f_X4_mix (f_X4_mix (w3) ((κ (1 + 7 + (j)) 0).toInt64)) ((κ (1 + 7 + (j)) 1).toInt64)) ((f_X1_glowOf κ (1) (1 + 7 + (j))).toInt64)) ((κ (1 + 7 + (j)) 2).toInt64)) ((κ (1 + 7 + (j)) 4).toInt64))), (6, .ref (g.2.2 (1 + 7 + (j)))), (5, .int (nI (j))), (0, .ref (g.2.2 (0))), (1, .long (a))]) hM.x hM.b dX4_mixSpits_100 rfl hl (by decide) rfl (fun ls hl => ?_)
      refine lv_lload_n hM.x hM.b dX4_mixSpits_101 rfl (lv_at hl 0 rfl) ?_
      refine lv_aload hM.x hM.b dX4_mixSpits_102 (lv_at hl 1 rfl) ?_
      refine k_get3 5 hM hw (kd1_3 kd_1 (by omega)) (by decide) u_fl_X4_110 dX4_mixSpits_104 ?_
      refine lv_i2l (v := (κ (1 + 7 + (j)) 5).toInt64) hM.x hM.b dX4_mixSpits_107 rfl ?_
      refine k_clp hw (k_runS [.long (f_X4_mix (f_X4_mix (f_X4_mix (f_X4_mix (f_X4_mix (w3) ((κ (1 + 7 + (j)) 0).toInt64)) ((κ (1 + 7 + (j)) 1).toInt64)) ((f_X1_glowOf κ (1) (1 + 7 + (j))).toInt64)) ((κ (1 + 7 + (j)) 2).toInt64)) ((κ (1 + 7 + (j)) 4).toInt64)), .long ((κ (1 + 7 + (j)) 5).toInt64)] [] hM hw (m_X4_mix l g κ _ (f_X4_mix (f_X4_mix (f_X4_mix (f_X4_mix (f_X4_mix (w3) ((κ (1 + 7 + (j)) 0).toInt64)) ((κ (1 + 7 + (j)) 1).toInt64)) ((f_X1_glowOf κ (1) (1 + 7 + (j))).toInt64)) ((κ (1 + 7 + (j)) 2).toInt64)) ((κ (1 + 7 + (j)) 4).toInt64)) ((κ (1 + 7 + (j)) 5).toInt64)) (k_gS u_ml_X4_196 u_st_X4_mix u_ini_X4 u_co_X4_mix) (q_X4_mix) rfl rfl rfl ⟨Nat.le_of_ble_eq_true rfl, Nat.le_of_ble_eq_true rfl⟩ hl.1 rfl (Nat.le_of_ble_eq_true rfl) dX4_mixSpits_108 ⟨Nat.le_of_ble_eq_true rfl, Nat.le_of_ble_eq_true rfl⟩) (fun H locs hw => ?_)
      refine lv_lstore_n (lv' := [(3, .long (f_X4_mix (f_X4_mix (f_X4_mix (f_X4_mix (f_X4_mix (f_X4_mix (w3) ((κ (1 + 7 + (j)) 0).toInt64)) ((κ (1 + 7 + (j)) 1).toInt64)) ((f_X1_glowOf κ (1) (1 + 7 + (j))).toInt64)) ((κ (1 + 7 + (j)) 2).toInt64)) ((κ (1 + 7 + (j)) 4).toInt64)) ((κ (1 + 7 + (j)) 5).toInt64))), (6, .ref (g.2.2 (1 + 7 + (j)))), (5, .int (nI (j))), (0, .ref (g.2.2 (0))), (1, .long (a))]) hM.x hM.b dX4_mixSpits_111 rfl hl (by decide) rfl (fun ls hl => ?_)
      refine lv_iinc (v := nI (j + 1)) (lv' := [(5, .int (nI (j + 1))), (3, .long (f_X4_mix (f_X4_mix (f_X4_mix (f_X4_mix (f_X4_mix (f_X4_mix (w3) ((κ (1 + 7 + (j)) 0).toInt64)) ((κ (1 + 7 + (j)) 1).toInt64)) ((f_X1_glowOf κ (1) (1 + 7 + (j))).toInt64)) ((κ (1 + 7 + (j)) 2).toInt64)) ((κ (1 + 7 + (j)) 4).toInt64)) ((κ (1 + 7 + (j)) 5).toInt64))), (6, .ref (g.2.2 (1 + 7 + (j)))), (0, .ref (g.2.2 (0))), (1, .long (a))]) hM.x hM.b dX4_mixSpits_112 hl (k := 2) rfl (nI_1 (j)) (by decide) rfl (fun ls hl => ?_)
      refine lv_goto (tgt := 5) hM.x hM.b dX4_mixSpits_115 (by decide) ?_
      exact ih (j + 1) (by omega) (f_X4_mix (f_X4_mix (f_X4_mix (f_X4_mix (f_X4_mix (f_X4_mix (w3) ((κ (1 + 7 + (j)) 0).toInt64)) ((κ (1 + 7 + (j)) 1).toInt64)) ((f_X1_glowOf κ (1) (1 + 7 + (j))).toInt64)) ((κ (1 + 7 + (j)) 2).toInt64)) ((κ (1 + 7 + (j)) 4).toInt64)) ((κ (1 + 7 + (j)) 5).toInt64)) H locs ls (lv_sub hl [0, 1, 3, 4] rfl) hw (fun u3 H locs ls he hl hw => hx118 u3 H locs ls (hF.trans he) hl hw)
def f_X4_mixSpits (κ : Kp) (a : Int64) : Int64 := (fun uz1 : Int64 => uz1) (lp_X4_mixSpits κ a 6 0 (a))
set_option maxRecDepth 100000 in
set_option maxHeartbeats 4000000 in
theorem m_X4_mixSpits (l : Launch) (g : Gt) (κ : Kp) (sz : Nat) (a : Int64) : Met l yX4_mixSpits (.code yX4_mixSpits cX4_mixSpits 7 (some .long) :: uW) { frames := 2, cells := 0, slots := 0, locals := 60 } (PRE g κ sz [.ref (g.2.2 (0)), .long (a)]) (va_Ql (fun r κ' => r = f_X4_mixSpits κ a ∧ κ' = κ) (Wp g) (fr g sz)) 0 0 (fr g sz) := by
  refine k_enter (by decide +kernel) (Nat.le_of_ble_eq_true rfl) ?_
  intro p e s m below meth c ls hM hr hl hw hsz
  subst hsz
  have hl : lv_has ls 7 [(0, .ref (g.2.2 (0))), (1, .long (a))] := hl
  have hF := f_X4_mixSpits.eq_1 κ a
  refine lv_lload_n hM.x hM.b dX4_mixSpits_0 rfl (lv_at hl 1 rfl) ?_
  refine lv_lstore_n (lv' := [(3, .long (a)), (0, .ref (g.2.2 (0))), (1, .long (a))]) hM.x hM.b dX4_mixSpits_1 rfl hl (by decide) rfl (fun ls hl => ?_)
  refine lv_iconst (v := nI 0) hM.x hM.b dX4_mixSpits_2 (by decide) ?_
  refine lv_istore (lv' := [(5, .int (nI (0))), (3, .long (a)), (0, .ref (g.2.2 (0))), (1, .long (a))]) hM.x hM.b dX4_mixSpits_3 hl (by decide) rfl (fun ls hl => ?_)
  refine ml_X4_mixSpits l g κ a  hM (6) (0) (by omega) (a) _ _ _ (lv_sub hl [0, 1, 2, 3] rfl) hw (fun uz1 H locs ls he hl hw => ?_)
  rw [he] at hF
  try dsimp only at hF
  refine lv_lload_n hM.x hM.b dX4_mixSpits_118 rfl (lv_at hl 0 rfl) ?_
  exact k_lret hM hr hw (Nat.le_of_ble_eq_true rfl) (Nat.le_of_ble_eq_true rfl) ⟨hF.symm, rfl⟩ dX4_mixSpits_119
theorem q_X4_mixRoasts : hdV yX4_mixRoasts RX4 1 := ⟨rfl, by decide +kernel, by decide +kernel, by decide +kernel⟩
def lp_X4_mixRoasts_148 (κ : Kp) (a : Int64) (i : Nat) : Nat → Nat → Int64 → Int64
  | 0, j, w3 => w3
  | n + 1, j, w3 => lp_X4_mixRoasts_148 (κ) (a) (i) n (j + 1) (f_X4_mix (w3) ((κ (1 + 13 + 2 * (i) + 1) (j)).toInt64))
set_option maxRecDepth 100000 in
set_option maxHeartbeats 4000000 in
theorem ml_X4_mixRoasts_148 {p : Program} {e : Env} {s : State} {m : MethodId} {below : List Frame} {meth : Method} {c : Code} {Q : State → Prop} (l : Launch) (g : Gt) (κ : Kp) (a : Int64) (i : Nat) (hi : i < 16) (hM : Mc g p s m ([.ref (g.2.2 (0)), .long (a)] : List Value).toArray meth c cX4_mixRoasts 11 yX4_mixRoasts.cls) : ∀ (n j : Nat), j + n = 4 → ∀ (w3 : Int64), ∀ (H : Heap) (locs : List Loc) (ls : Array Slot), lv_has ls 11 [(9, .int (nI (j))), (8, .int (nI (4))), (7, .ref (g.2.2 (1 + 13 + 2 * (i) + 1))), (5, .int (nI (i))), (3, .long (w3)), (0, .ref (g.2.2 (0))), (1, .long (a))] → Ws g s κ H locs → (∀ (u3 : Int64) (H : Heap) (locs : List Loc) (ls : Array Slot), lp_X4_mixRoasts_148 κ a i n j w3 = u3 → lv_has ls 11 [(5, .int (nI (i))), (3, .long (u3)), (0, .ref (g.2.2 (0))), (1, .long (a))] → Ws g s κ H locs → W p l e { frames := 1, cells := 0, slots := 0, locals := 30 } s m ([.ref (g.2.2 (0)), .long (a)] : List Value).toArray below meth c H locs 0 0 Q (F0 m 176 ls [])) → W p l e { frames := 1, cells := 0, slots := 0, locals := 30 } s m ([.ref (g.2.2 (0)), .long (a)] : List Value).toArray below meth c H locs 0 0 Q (F0 m 148 ls []) := by
  intro n
  induction n with
  | zero =>
    intro j hj w3 H locs ls hl hw hx176
    have hF := Eq.refl (lp_X4_mixRoasts_148 κ a i 0 j w3)
    conv at hF => rhs; rw [lp_X4_mixRoasts_148]
    refine lv_iload hM.x hM.b dX4_mixRoasts_148 (lv_at hl 0 rfl) ?_
    refine lv_iload hM.x hM.b dX4_mixRoasts_150 (lv_at hl 1 rfl) ?_
    refine lv_icmp_ge (tgt := 176) hM.x hM.b dX4_mixRoasts_152 (by decide) (fun _ => ?_) (fun cz => absurd (nI_le (by omega) (by omega) : nI 4 ≤ nI j) cz)
    exact hx176 (w3) H locs ls hF (lv_sub hl [3, 4, 5, 6] rfl) hw
  | succ n ih =>
    intro j hj w3 H locs ls hl hw hx176
    have hF := Eq.refl (lp_X4_mixRoasts_148 κ a i (n + 1) j w3)
    conv at hF => rhs; rw [lp_X4_mixRoasts_148]
    refine lv_iload hM.x hM.b dX4_mixRoasts_148 (lv_at hl 0 rfl) ?_
    refine lv_iload hM.x hM.b dX4_mixRoasts_150 (lv_at hl 1 rfl) ?_
    refine lv_icmp_ge (tgt := 176) hM.x hM.b dX4_mixRoasts_152 (by decide) (fun cz => absurd cz (nI_ge (by omega) (by decide) : ¬ nI 4 ≤ nI j)) (fun _ => ?_)
    refine lv_aload hM.x hM.b dX4_mixRoasts_155 (lv_at hl 2 rfl) ?_
    refine lv_iload hM.x hM.b dX4_mixRoasts_157 (lv_at hl 0 rfl) ?_
    refine k_ialdN (i := j) (n := 4) hM hw (kd_lt (kd2_6 (kd1_2 kd_1 hi)) (by decide)) (sh6 (kd2_6 (kd1_2 kd_1 hi))) (by omega) (by decide) dX4_mixRoasts_159 ?_
    refine lv_istore (lv' := [(10, .int (κ (1 + 13 + 2 * (i) + 1) (j))), (9, .int (nI (j))), (8, .int (nI (4))), (7, .ref (g.2.2 (1 + 13 + 2 * (i) + 1))), (5, .int (nI (i))), (3, .long (w3)), (0, .ref (g.2.2 (0))), (1, .long (a))]) hM.x hM.b dX4_mixRoasts_160 hl (by decide) rfl (fun ls hl => ?_)
    refine lv_lload_n hM.x hM.b dX4_mixRoasts_162 rfl (lv_at hl 5 rfl) ?_
    refine lv_iload hM.x hM.b dX4_mixRoasts_163 (lv_at hl 0 rfl) ?_
    refine lv_i2l (v := (κ (1 + 13 + 2 * (i) + 1) (j)).toInt64) hM.x hM.b dX4_mixRoasts_165 rfl ?_
    refine k_clp hw (k_runS [.long (w3), .long ((κ (1 + 13 + 2 * (i) + 1) (j)).toInt64)] [] hM hw (m_X4_mix l g κ _ (w3) ((κ (1 + 13 + 2 * (i) + 1) (j)).toInt64)) (k_gS u_ml_X4_196 u_st_X4_mix u_ini_X4 u_co_X4_mix) (q_X4_mix) rfl rfl rfl ⟨Nat.le_of_ble_eq_true rfl, Nat.le_of_ble_eq_true rfl⟩ hl.1 rfl (Nat.le_of_ble_eq_true rfl) dX4_mixRoasts_166 ⟨Nat.le_of_ble_eq_true rfl, Nat.le_of_ble_eq_true rfl⟩) (fun H locs hw => ?_)
    refine lv_lstore_n (lv' := [(3, .long (f_X4_mix (w3) ((κ (1 + 13 + 2 * (i) + 1) (j)).toInt64))), (10, .int (κ (1 + 13 + 2 * (i) + 1) (j))), (9, .int (nI (j))), (8, .int (nI (4))), (7, .ref (g.2.2 (1 + 13 + 2 * (i) + 1))), (5, .int (nI (i))), (0, .ref (g.2.2 (0))), (1, .long (a))]) hM.x hM.b dX4_mixRoasts_169 rfl hl (by decide) rfl (fun ls hl => ?_)
    refine lv_iinc (v := nI (j + 1)) (lv' := [(9, .int (nI (j + 1))), (3, .long (f_X4_mix (w3) ((κ (1 + 13 + 2 * (i) + 1) (j)).toInt64))), (10, .int (κ (1 + 13 + 2 * (i) + 1) (j))), (8, .int (nI (4))), (7, .ref (g.2.2 (1 + 13 + 2 * (i) + 1))), (5, .int (nI (i))), (0, .ref (g.2.2 (0))), (1, .long (a))]) hM.x hM.b dX4_mixRoasts_170 hl (k := 2) rfl (nI_1 (j)) (by decide) rfl (fun ls hl => ?_)
    refine lv_goto (tgt := 148) hM.x hM.b dX4_mixRoasts_173 (by decide) ?_
    exact ih (j + 1) (by omega) (f_X4_mix (w3) ((κ (1 + 13 + 2 * (i) + 1) (j)).toInt64)) H locs ls (lv_sub hl [0, 3, 4, 5, 1, 6, 7] rfl) hw (fun u3 H locs ls he hl hw => hx176 u3 H locs ls (hF.trans he) hl hw)
def lp_X4_mixRoasts (κ : Kp) (a : Int64) : Nat → Nat → Int64 → Int64
  | 0, j, w3 => w3
  | n + 1, j, w3 => if (κ (1) 5) ≤ (nI (j)) then (w3) else (if (bi (f_X2_done κ (1 + 13 + 2 * (j)))) = 0 then (if (bi (f_X2_burnt κ (1 + 13 + 2 * (j)))) = 0 then ((fun uz1 : Int64 => lp_X4_mixRoasts (κ) (a) n (j + 1) (uz1)) (lp_X4_mixRoasts_148 κ a j 4 0 (f_X4_mix (f_X4_mix (f_X4_mix (f_X4_mix (f_X4_mix (f_X4_mix (f_X4_mix (w3) ((κ (1 + 13 + 2 * (j)) 1).toInt64)) ((κ (1 + 13 + 2 * (j)) 2).toInt64)) ((κ (1 + 13 + 2 * (j)) 3).toInt64)) ((κ (1 + 13 + 2 * (j)) 4).toInt64)) ((κ (1 + 13 + 2 * (j)) 5).toInt64)) (0)) (0)))) else ((fun uz2 : Int64 => lp_X4_mixRoasts (κ) (a) n (j + 1) (uz2)) (lp_X4_mixRoasts_148 κ a j 4 0 (f_X4_mix (f_X4_mix (f_X4_mix (f_X4_mix (f_X4_mix (f_X4_mix (f_X4_mix (w3) ((κ (1 + 13 + 2 * (j)) 1).toInt64)) ((κ (1 + 13 + 2 * (j)) 2).toInt64)) ((κ (1 + 13 + 2 * (j)) 3).toInt64)) ((κ (1 + 13 + 2 * (j)) 4).toInt64)) ((κ (1 + 13 + 2 * (j)) 5).toInt64)) (0)) (1))))) else (if (bi (f_X2_burnt κ (1 + 13 + 2 * (j)))) = 0 then ((fun uz3 : Int64 => lp_X4_mixRoasts (κ) (a) n (j + 1) (uz3)) (lp_X4_mixRoasts_148 κ a j 4 0 (f_X4_mix (f_X4_mix (f_X4_mix (f_X4_mix (f_X4_mix (f_X4_mix (f_X4_mix (w3) ((κ (1 + 13 + 2 * (j)) 1).toInt64)) ((κ (1 + 13 + 2 * (j)) 2).toInt64)) ((κ (1 + 13 + 2 * (j)) 3).toInt64)) ((κ (1 + 13 + 2 * (j)) 4).toInt64)) ((κ (1 + 13 + 2 * (j)) 5).toInt64)) (1)) (0)))) else ((fun uz4 : Int64 => lp_X4_mixRoasts (κ) (a) n (j + 1) (uz4)) (lp_X4_mixRoasts_148 κ a j 4 0 (f_X4_mix (f_X4_mix (f_X4_mix (f_X4_mix (f_X4_mix (f_X4_mix (f_X4_mix (w3) ((κ (1 + 13 + 2 * (j)) 1).toInt64)) ((κ (1 + 13 + 2 * (j)) 2).toInt64)) ((κ (1 + 13 + 2 * (j)) 3).toInt64)) ((κ (1 + 13 + 2 * (j)) 4).toInt64)) ((κ (1 + 13 + 2 * (j)) 5).toInt64)) (1)) (1))))))
set_option maxRecDepth 100000 in
set_option maxHeartbeats 4000000 in
theorem ml_X4_mixRoasts {p : Program} {e : Env} {s : State} {m : MethodId} {below : List Frame} {meth : Method} {c : Code} {Q : State → Prop} (l : Launch) (g : Gt) (κ : Kp) (a : Int64)  (hM : Mc g p s m ([.ref (g.2.2 (0)), .long (a)] : List Value).toArray meth c cX4_mixRoasts 11 yX4_mixRoasts.cls) : ∀ (n j : Nat), j + n = 16 → ∀ (w3 : Int64), ∀ (H : Heap) (locs : List Loc) (ls : Array Slot), lv_has ls 11 [(5, .int (nI (j))), (3, .long (w3)), (0, .ref (g.2.2 (0))), (1, .long (a))] → Ws g s κ H locs → (∀ (u3 : Int64) (H : Heap) (locs : List Loc) (ls : Array Slot), lp_X4_mixRoasts κ a n j w3 = u3 → lv_has ls 11 [(3, .long (u3))] → Ws g s κ H locs → W p l e { frames := 1, cells := 0, slots := 0, locals := 30 } s m ([.ref (g.2.2 (0)), .long (a)] : List Value).toArray below meth c H locs 0 0 Q (F0 m 182 ls [])) → W p l e { frames := 1, cells := 0, slots := 0, locals := 30 } s m ([.ref (g.2.2 (0)), .long (a)] : List Value).toArray below meth c H locs 0 0 Q (F0 m 5 ls []) := by
  intro n
  induction n with
  | zero =>
    intro j hj w3 H locs ls hl hw hx182
    have hF := Eq.refl (lp_X4_mixRoasts κ a 0 j w3)
    conv at hF => rhs; rw [lp_X4_mixRoasts]
    refine lv_iload hM.x hM.b dX4_mixRoasts_5 (lv_at hl 0 rfl) ?_
    refine lv_aload_n hM.x hM.b dX4_mixRoasts_7 rfl (lv_at hl 2 rfl) ?_
    refine k_get4a hM hw u_fl_X4_10 dX4_mixRoasts_8 ?_
    refine k_get1r 2 hM hw kd_1 (by decide) u_fl_X4_244 dX4_mixRoasts_11 ?_
    refine k_alen (v := nI 16) hM hw (kd_lt (kd1_9 kd_1) (by decide)) 4 (sh9 (kd1_9 kd_1)) rfl rfl dX4_mixRoasts_14 ?_
    refine lv_icmp_ge (tgt := 182) hM.x hM.b dX4_mixRoasts_15 (by decide) (fun _ => ?_) (fun cz => absurd (nI_le (by omega) (by omega) : nI 16 ≤ nI j) cz)
    exact hx182 (w3) H locs ls hF (lv_sub hl [1] rfl) hw
  | succ n ih =>
    intro j hj w3 H locs ls hl hw hx182
    have hF := Eq.refl (lp_X4_mixRoasts κ a (n + 1) j w3)
    conv at hF => rhs; rw [lp_X4_mixRoasts]
    refine lv_iload hM.x hM.b dX4_mixRoasts_5 (lv_at hl 0 rfl) ?_
    refine lv_aload_n hM.x hM.b dX4_mixRoasts_7 rfl (lv_at hl 2 rfl) ?_
    refine k_get4a hM hw u_fl_X4_10 dX4_mixRoasts_8 ?_
    refine k_get1r 2 hM hw kd_1 (by decide) u_fl_X4_244 dX4_mixRoasts_11 ?_
    refine k_alen (v := nI 16) hM hw (kd_lt (kd1_9 kd_1) (by decide)) 4 (sh9 (kd1_9 kd_1)) rfl rfl dX4_mixRoasts_14 ?_
    refine lv_icmp_ge (tgt := 182) hM.x hM.b dX4_mixRoasts_15 (by decide) (fun cz => absurd cz (nI_ge (by omega) (by decide) : ¬ nI 16 ≤ nI j)) (fun _ => ?_)
    refine lv_iload hM.x hM.b dX4_mixRoasts_18 (lv_at hl 0 rfl) ?_
    refine lv_aload_n hM.x hM.b dX4_mixRoasts_20 rfl (lv_at hl 2 rfl) ?_
    refine k_get4a hM hw u_fl_X4_10 dX4_mixRoasts_21 ?_
    refine k_get1 5 hM hw kd_1 (by decide) u_fl_X4_141 dX4_mixRoasts_24 ?_
    refine lv_icmp_ge (tgt := 182) hM.x hM.b dX4_mixRoasts_27 (by decide) (fun c1 => ?_) (fun c1 => ?_)
    · rw [if_pos c1] at hF
      exact hx182 (w3) H locs ls hF (lv_sub hl [1] rfl) hw
    · rw [if_neg c1] at hF
      refine lv_aload_n hM.x hM.b dX4_mixRoasts_30 rfl (lv_at hl 2 rfl) ?_
      refine k_get4a hM hw u_fl_X4_10 dX4_mixRoasts_31 ?_
      refine k_get1r 2 hM hw kd_1 (by decide) u_fl_X4_244 dX4_mixRoasts_34 ?_
      refine lv_iload hM.x hM.b dX4_mixRoasts_37 (lv_at hl 0 rfl) ?_
      refine k_ald9N (i := j) hM hw kd_1 (by omega) dX4_mixRoasts_39 ?_
      refine lv_astore (lv' := [(6, .ref (g.2.2 (1 + 13 + 2 * (j)))), (5, .int (nI (j))), (3, .long (w3)), (0, .ref (g.2.2 (0))), (1, .long (a))]) hM.x hM.b dX4_mixRoasts_40 hl (by decide) rfl (fun ls hl => ?_)
      refine lv_lload_n hM.x hM.b dX4_mixRoasts_42 rfl (lv_at hl 2 rfl) ?_
      refine lv_aload hM.x hM.b dX4_mixRoasts_43 (lv_at hl 0 rfl) ?_
      refine k_get2 1 hM hw (kd1_2 kd_1 (by omega)) (by decide) u_fl_X4_148 dX4_mixRoasts_45 ?_
      refine lv_i2l (v := (κ (1 + 13 + 2 * (j)) 1).toInt64) hM.x hM.b dX4_mixRoasts_48 rfl ?_
      refine k_clp hw (k_runS [.long (w3), .long ((κ (1 + 13 + 2 * (j)) 1).toInt64)] [] hM hw (m_X4_mix l g κ _ (w3) ((κ (1 + 13 + 2 * (j)) 1).toInt64)) (k_gS u_ml_X4_196 u_st_X4_mix u_ini_X4 u_co_X4_mix) (q_X4_mix) rfl rfl rfl ⟨Nat.le_of_ble_eq_true rfl, Nat.le_of_ble_eq_true rfl⟩ hl.1 rfl (Nat.le_of_ble_eq_true rfl) dX4_mixRoasts_49 ⟨Nat.le_of_ble_eq_true rfl, Nat.le_of_ble_eq_true rfl⟩) (fun H locs hw => ?_)
      refine lv_lstore_n (lv' := [(3, .long (f_X4_mix (w3) ((κ (1 + 13 + 2 * (j)) 1).toInt64))), (6, .ref (g.2.2 (1 + 13 + 2 * (j)))), (5, .int (nI (j))), (0, .ref (g.2.2 (0))), (1, .long (a))]) hM.x hM.b dX4_mixRoasts_52 rfl hl (by decide) rfl (fun ls hl => ?_)
      refine lv_lload_n hM.x hM.b dX4_mixRoasts_53 rfl (lv_at hl 0 rfl) ?_
      refine lv_aload hM.x hM.b dX4_mixRoasts_54 (lv_at hl 1 rfl) ?_
      refine k_get2 2 hM hw (kd1_2 kd_1 (by omega)) (by decide) u_fl_X4_113 dX4_mixRoasts_56 ?_
      refine lv_i2l (v := (κ (1 + 13 + 2 * (j)) 2).toInt64) hM.x hM.b dX4_mixRoasts_59 rfl ?_
      refine k_clp hw (k_runS [.long (f_X4_mix (w3) ((κ (1 + 13 + 2 * (j)) 1).toInt64)), .long ((κ (1 + 13 + 2 * (j)) 2).toInt64)] [] hM hw (m_X4_mix l g κ _ (f_X4_mix (w3) ((κ (1 + 13 + 2 * (j)) 1).toInt64)) ((κ (1 + 13 + 2 * (j)) 2).toInt64)) (k_gS u_ml_X4_196 u_st_X4_mix u_ini_X4 u_co_X4_mix) (q_X4_mix) rfl rfl rfl ⟨Nat.le_of_ble_eq_true rfl, Nat.le_of_ble_eq_true rfl⟩ hl.1 rfl (Nat.le_of_ble_eq_true rfl) dX4_mixRoasts_60 ⟨Nat.le_of_ble_eq_true rfl, Nat.le_of_ble_eq_true rfl⟩) (fun H locs hw => ?_)
      refine lv_lstore_n (lv' := [(3, .long (f_X4_mix (f_X4_mix (w3) ((κ (1 + 13 + 2 * (j)) 1).toInt64)) ((κ (1 + 13 + 2 * (j)) 2).toInt64))), (6, .ref (g.2.2 (1 + 13 + 2 * (j)))), (5, .int (nI (j))), (0, .ref (g.2.2 (0))), (1, .long (a))]) hM.x hM.b dX4_mixRoasts_63 rfl hl (by decide) rfl (fun ls hl => ?_)
      refine lv_lload_n hM.x hM.b dX4_mixRoasts_64 rfl (lv_at hl 0 rfl) ?_
      refine lv_aload hM.x hM.b dX4_mixRoasts_65 (lv_at hl 1 rfl) ?_
      refine k_get2 3 hM hw (kd1_2 kd_1 (by omega)) (by decide) u_fl_X4_99 dX4_mixRoasts_67 ?_
      refine lv_i2l (v := (κ (1 + 13 + 2 * (j)) 3).toInt64) hM.x hM.b dX4_mixRoasts_70 rfl ?_
      refine k_clp hw (k_runS [.long (f_X4_mix (f_X4_mix (w3) ((κ (1 + 13 + 2 * (j)) 1).toInt64)) ((κ (1 + 13 + 2 * (j)) 2).toInt64)), .long ((κ (1 + 13 + 2 * (j)) 3).toInt64)] [] hM hw (m_X4_mix l g κ _ (f_X4_mix (f_X4_mix (w3) ((κ (1 + 13 + 2 * (j)) 1).toInt64)) ((κ (1 + 13 + 2 * (j)) 2).toInt64)) ((κ (1 + 13 + 2 * (j)) 3).toInt64)) (k_gS u_ml_X4_196 u_st_X4_mix u_ini_X4 u_co_X4_mix) (q_X4_mix) rfl rfl rfl ⟨Nat.le_of_ble_eq_true rfl, Nat.le_of_ble_eq_true rfl⟩ hl.1 rfl (Nat.le_of_ble_eq_true rfl) dX4_mixRoasts_71 ⟨Nat.le_of_ble_eq_true rfl, Nat.le_of_ble_eq_true rfl⟩) (fun H locs hw => ?_)
      refine lv_lstore_n (lv' := [(3, .long (f_X4_mix (f_X4_mix (f_X4_mix (w3) ((κ (1 + 13 + 2 * (j)) 1).toInt64)) ((κ (1 + 13 + 2 * (j)) 2).toInt64)) ((κ (1 + 13 + 2 * (j)) 3).toInt64))), (6, .ref (g.2.2 (1 + 13 + 2 * (j)))), (5, .int (nI (j))), (0, .ref (g.2.2 (0))), (1, .long (a))]) hM.x hM.b dX4_mixRoasts_74 rfl hl (by decide) rfl (fun ls hl => ?_)
      refine lv_lload_n hM.x hM.b dX4_mixRoasts_75 rfl (lv_at hl 0 rfl) ?_
      refine lv_aload hM.x hM.b dX4_mixRoasts_76 (lv_at hl 1 rfl) ?_
      refine k_get2 4 hM hw (kd1_2 kd_1 (by omega)) (by decide) u_fl_X4_160 dX4_mixRoasts_78 ?_
      refine lv_i2l (v := (κ (1 + 13 + 2 * (j)) 4).toInt64) hM.x hM.b dX4_mixRoasts_81 rfl ?_
      refine k_clp hw (k_runS [.long (f_X4_mix (f_X4_mix (f_X4_mix (w3) ((κ (1 + 13 + 2 * (j)) 1).toInt64)) ((κ (1 + 13 + 2 * (j)) 2).toInt64)) ((κ (1 + 13 + 2 * (j)) 3).toInt64)), .long ((κ (1 + 13 + 2 * (j)) 4).toInt64)] [] hM hw (m_X4_mix l g κ _ (f_X4_mix (f_X4_mix (f_X4_mix (w3) ((κ (1 + 13 + 2 * (j)) 1).toInt64)) ((κ (1 + 13 + 2 * (j)) 2).toInt64)) ((κ (1 + 13 + 2 * (j)) 3).toInt64)) ((κ (1 + 13 + 2 * (j)) 4).toInt64)) (k_gS u_ml_X4_196 u_st_X4_mix u_ini_X4 u_co_X4_mix) (q_X4_mix) rfl rfl rfl ⟨Nat.le_of_ble_eq_true rfl, Nat.le_of_ble_eq_true rfl⟩ hl.1 rfl (Nat.le_of_ble_eq_true rfl) dX4_mixRoasts_82 ⟨Nat.le_of_ble_eq_true rfl, Nat.le_of_ble_eq_true rfl⟩) (fun H locs hw => ?_)
      refine lv_lstore_n (lv' := [(3, .long (f_X4_mix (f_X4_mix (f_X4_mix (f_X4_mix (w3) ((κ (1 + 13 + 2 * (j)) 1).toInt64)) ((κ (1 + 13 + 2 * (j)) 2).toInt64)) ((κ (1 + 13 + 2 * (j)) 3).toInt64)) ((κ (1 + 13 + 2 * (j)) 4).toInt64))), (6, .ref (g.2.2 (1 + 13 + 2 * (j)))), (5, .int (nI (j))), (0, .ref (g.2.2 (0))), (1, .long (a))]) hM.x hM.b dX4_mixRoasts_85 rfl hl (by decide) rfl (fun ls hl => ?_)
      refine lv_lload_n hM.x hM.b dX4_mixRoasts_86 rfl (lv_at hl 0 rfl) ?_
      refine lv_aload hM.x hM.b dX4_mixRoasts_87 (lv_at hl 1 rfl) ?_
      refine k_get2 5 hM hw (kd1_2 kd_1 (by omega)) (by decide) u_fl_X4_107 dX4_mixRoasts_89 ?_
      refine lv_i2l (v := (κ (1 + 13 + 2 * (j)) 5).toInt64) hM.x hM.b dX4_mixRoasts_92 rfl ?_
      refine k_clp hw (k_runS [.long (f_X4_mix (f_X4_mix (f_X4_mix (f_X4_mix (w3) ((κ (1 + 13 + 2 * (j)) 1).toInt64)) ((κ (1 + 13 + 2 * (j)) 2).toInt64)) ((κ (1 + 13 + 2 * (j)) 3).toInt64)) ((κ (1 + 13 + 2 * (j)) 4).toInt64)), .long ((κ (1 + 13 + 2 * (j)) 5).toInt64)] [] hM hw (m_X4_mix l g κ _ (f_X4_mix (f_X4_mix (f_X4_mix (f_X4_mix (w3) ((κ (1 + 13 + 2 * (j)) 1).toInt64)) ((κ (1 + 13 + 2 * (j)) 2).toInt64)) ((κ (1 + 13 + 2 * (j)) 3).toInt64)) ((κ (1 + 13 + 2 * (j)) 4).toInt64)) ((κ (1 + 13 + 2 * (j)) 5).toInt64)) (k_gS u_ml_X4_196 u_st_X4_mix u_ini_X4 u_co_X4_mix) (q_X4_mix) rfl rfl rfl ⟨Nat.le_of_ble_eq_true rfl, Nat.le_of_ble_eq_true rfl⟩ hl.1 rfl (Nat.le_of_ble_eq_true rfl) dX4_mixRoasts_93 ⟨Nat.le_of_ble_eq_true rfl, Nat.le_of_ble_eq_true rfl⟩) (fun H locs hw => ?_)
      refine lv_lstore_n (lv' := [(3, .long (f_X4_mix (f_X4_mix (f_X4_mix (f_X4_mix (f_X4_mix (w3) ((κ (1 + 13 + 2 * (j)) 1).toInt64)) ((κ (1 + 13 + 2 * (j)) 2).toInt64)) ((κ (1 + 13 + 2 * (j)) 3).toInt64)) ((κ (1 + 13 + 2 * (j)) 4).toInt64)) ((κ (1 + 13 + 2 * (j)) 5).toInt64))), (6, .ref (g.2.2 (1 + 13 + 2 * (j)))), (5, .int (nI (j))), (0, .ref (g.2.2 (0))), (1, .long (a))]) hM.x hM.b dX4_mixRoasts_96 rfl hl (by decide) rfl (fun ls hl => ?_)
      refine lv_lload_n hM.x hM.b dX4_mixRoasts_97 rfl (lv_at hl 0 rfl) ?_
      refine lv_aload hM.x hM.b dX4_mixRoasts_98 (lv_at hl 1 rfl) ?_
      refine k_cip hw (k_runV [] [.long (f_X4_mix (f_X4_mix (f_X4_mix (f_X4_mix (f_X4_mix (w3) ((κ (1 + 13 + 2 * (j)) 1).toInt64)) ((κ (1 + 13 + 2 * (j)) 2).toInt64)) ((κ (1 + 13 + 2 * (j)) 3).toInt64)) ((κ (1 + 13 + 2 * (j)) 4).toInt64)) ((κ (1 + 13 + 2 * (j)) 5).toInt64))] hM hw (m_X2_done l g κ _ (1 + 13 + 2 * (j)) ((kd1_2 kd_1 (by omega)))) (kd_lt (kd1_2 kd_1 (by omega)) (by decide)) (sh2 (kd1_2 kd_1 (by omega))) rfl (k_gV u_ml_X4_163 u_im_X2_done u_se_X2_done u_ini_X2 u_co_X2_done) (q_X2_done) rfl rfl rfl ⟨Nat.le_of_ble_eq_true rfl, Nat.le_of_ble_eq_true rfl⟩ hl.1 rfl (Nat.le_of_ble_eq_true rfl) dX4_mixRoasts_100 ⟨Nat.le_of_ble_eq_true rfl, Nat.le_of_ble_eq_true rfl⟩) (fun H locs hw => ?_)
      refine lv_if_eq (tgt := 110) hM.x hM.b dX4_mixRoasts_103 (by decide) (fun c2 => ?_) (fun c2 => ?_)
      · rw [if_pos c2] at hF
        refine lv_lconst (v := 0) hM.x hM.b dX4_mixRoasts_110 (by decide) ?_
        refine k_clp hw (k_runS [.long (f_X4_mix (f_X4_mix (f_X4_mix (f_X4_mix (f_X4_mix (w3) ((κ (1 + 13 + 2 * (j)) 1).toInt64)) ((κ (1 + 13 + 2 * (j)) 2).toInt64)) ((κ (1 + 13 + 2 * (j)) 3).toInt64)) ((κ (1 + 13 + 2 * (j)) 4).toInt64)) ((κ (1 + 13 + 2 * (j)) 5).toInt64)), .long (0)] [] hM hw (m_X4_mix l g κ _ (f_X4_mix (f_X4_mix (f_X4_mix (f_X4_mix (f_X4_mix (w3) ((κ (1 + 13 + 2 * (j)) 1).toInt64)) ((κ (1 + 13 + 2 * (j)) 2).toInt64)) ((κ (1 + 13 + 2 * (j)) 3).toInt64)) ((κ (1 + 13 + 2 * (j)) 4).toInt64)) ((κ (1 + 13 + 2 * (j)) 5).toInt64)) (0)) (k_gS u_ml_X4_196 u_st_X4_mix u_ini_X4 u_co_X4_mix) (q_X4_mix) rfl rfl rfl ⟨Nat.le_of_ble_eq_true rfl, Nat.le_of_ble_eq_true rfl⟩ hl.1 rfl (Nat.le_of_ble_eq_true rfl) dX4_mixRoasts_111 ⟨Nat.le_of_ble_eq_true rfl, Nat.le_of_ble_eq_true rfl⟩) (fun H locs hw => ?_)
        refine lv_lstore_n (lv' := [(3, .long (f_X4_mix (f_X4_mix (f_X4_mix (f_X4_mix (f_X4_mix (f_X4_mix (w3) ((κ (1 + 13 + 2 * (j)) 1).toInt64)) ((κ (1 + 13 + 2 * (j)) 2).toInt64)) ((κ (1 + 13 + 2 * (j)) 3).toInt64)) ((κ (1 + 13 + 2 * (j)) 4).toInt64)) ((κ (1 + 13 + 2 * (j)) 5).toInt64)) (0))), (6, .ref (g.2.2 (1 + 13 + 2 * (j)))), (5, .int (nI (j))), (0, .ref (g.2.2 (0))), (1, .long (a))]) hM.x hM.b dX4_mixRoasts_114 rfl hl (by decide) rfl (fun ls hl => ?_)
        refine lv_lload_n hM.x hM.b dX4_mixRoasts_115 rfl (lv_at hl 0 rfl) ?_
        refine lv_aload hM.x hM.b dX4_mixRoasts_116 (lv_at hl 1 rfl) ?_
        refine k_cip hw (k_runV [] [.long (f_X4_mix (f_X4_mix (f_X4_mix (f_X4_mix (f_X4_mix (f_X4_mix (w3) ((κ (1 + 13 + 2 * (j)) 1).toInt64)) ((κ (1 + 13 + 2 * (j)) 2).toInt64)) ((κ (1 + 13 + 2 * (j)) 3).toInt64)) ((κ (1 + 13 + 2 * (j)) 4).toInt64)) ((κ (1 + 13 + 2 * (j)) 5).toInt64)) (0))] hM hw (m_X2_burnt l g κ _ (1 + 13 + 2 * (j)) ((kd1_2 kd_1 (by omega)))) (kd_lt (kd1_2 kd_1 (by omega)) (by decide)) (sh2 (kd1_2 kd_1 (by omega))) rfl (k_gV u_ml_X4_167 u_im_X2_burnt u_se_X2_burnt u_ini_X2 u_co_X2_burnt) (q_X2_burnt) rfl rfl rfl ⟨Nat.le_of_ble_eq_true rfl, Nat.le_of_ble_eq_true rfl⟩ hl.1 rfl (Nat.le_of_ble_eq_true rfl) dX4_mixRoasts_118 ⟨Nat.le_of_ble_eq_true rfl, Nat.le_of_ble_eq_true rfl⟩) (fun H locs hw => ?_)
        refine lv_if_eq (tgt := 128) hM.x hM.b dX4_mixRoasts_121 (by decide) (fun c3 => ?_) (fun c3 => ?_)
        · rw [if_pos c3] at hF
          refine lv_lconst (v := 0) hM.x hM.b dX4_mixRoasts_128 (by decide) ?_
          refine k_clp hw (k_runS [.long (f_X4_mix (f_X4_mix (f_X4_mix (f_X4_mix (f_X4_mix (f_X4_mix (w3) ((κ (1 + 13 + 2 * (j)) 1).toInt64)) ((κ (1 + 13 + 2 * (j)) 2).toInt64)) ((κ (1 + 13 + 2 * (j)) 3).toInt64)) ((κ (1 + 13 + 2 * (j)) 4).toInt64)) ((κ (1 + 13 + 2 * (j)) 5).toInt64)) (0)), .long (0)] [] hM hw (m_X4_mix l g κ _ (f_X4_mix (f_X4_mix (f_X4_mix (f_X4_mix (f_X4_mix (f_X4_mix (w3) ((κ (1 + 13 + 2 * (j)) 1).toInt64)) ((κ (1 + 13 + 2 * (j)) 2).toInt64)) ((κ (1 + 13 + 2 * (j)) 3).toInt64)) ((κ (1 + 13 + 2 * (j)) 4).toInt64)) ((κ (1 + 13 + 2 * (j)) 5).toInt64)) (0)) (0)) (k_gS u_ml_X4_196 u_st_X4_mix u_ini_X4 u_co_X4_mix) (q_X4_mix) rfl rfl rfl ⟨Nat.le_of_ble_eq_true rfl, Nat.le_of_ble_eq_true rfl⟩ hl.1 rfl (Nat.le_of_ble_eq_true rfl) dX4_mixRoasts_129 ⟨Nat.le_of_ble_eq_true rfl, Nat.le_of_ble_eq_true rfl⟩) (fun H locs hw => ?_)
          refine lv_lstore_n (lv' := [(3, .long (f_X4_mix (f_X4_mix (f_X4_mix (f_X4_mix (f_X4_mix (f_X4_mix (f_X4_mix (w3) ((κ (1 + 13 + 2 * (j)) 1).toInt64)) ((κ (1 + 13 + 2 * (j)) 2).toInt64)) ((κ (1 + 13 + 2 * (j)) 3).toInt64)) ((κ (1 + 13 + 2 * (j)) 4).toInt64)) ((κ (1 + 13 + 2 * (j)) 5).toInt64)) (0)) (0))), (6, .ref (g.2.2 (1 + 13 + 2 * (j)))), (5, .int (nI (j))), (0, .ref (g.2.2 (0))), (1, .long (a))]) hM.x hM.b dX4_mixRoasts_132 rfl hl (by decide) rfl (fun ls hl => ?_)
          refine lv_aload hM.x hM.b dX4_mixRoasts_133 (lv_at hl 1 rfl) ?_
          refine k_get2r hM hw (kd1_2 kd_1 (by omega)) u_fl_X4_151 dX4_mixRoasts_135 ?_
          refine lv_astore (lv' := [(7, .ref (g.2.2 (1 + 13 + 2 * (j) + 1))), (3, .long (f_X4_mix (f_X4_mix (f_X4_mix (f_X4_mix (f_X4_mix (f_X4_mix (f_X4_mix (w3) ((κ (1 + 13 + 2 * (j)) 1).toInt64)) ((κ (1 + 13 + 2 * (j)) 2).toInt64)) ((κ (1 + 13 + 2 * (j)) 3).toInt64)) ((κ (1 + 13 + 2 * (j)) 4).toInt64)) ((κ (1 + 13 + 2 * (j)) 5).toInt64)) (0)) (0))), (6, .ref (g.2.2 (1 + 13 + 2 * (j)))), (5, .int (nI (j))), (0, .ref (g.2.2 (0))), (1, .long (a))]) hM.x hM.b dX4_mixRoasts_138 hl (by decide) rfl (fun ls hl => ?_)
          refine lv_aload hM.x hM.b dX4_mixRoasts_140 (lv_at hl 0 rfl) ?_
          refine k_alen (v := nI 4) hM hw (kd_lt (kd2_6 (kd1_2 kd_1 (by omega))) (by decide)) 0 (sh6 (kd2_6 (kd1_2 kd_1 (by omega)))) rfl rfl dX4_mixRoasts_142 ?_
          refine lv_istore (lv' := [(8, .int (nI (4))), (7, .ref (g.2.2 (1 + 13 + 2 * (j) + 1))), (3, .long (f_X4_mix (f_X4_mix (f_X4_mix (f_X4_mix (f_X4_mix (f_X4_mix (f_X4_mix (w3) ((κ (1 + 13 + 2 * (j)) 1).toInt64)) ((κ (1 + 13 + 2 * (j)) 2).toInt64)) ((κ (1 + 13 + 2 * (j)) 3).toInt64)) ((κ (1 + 13 + 2 * (j)) 4).toInt64)) ((κ (1 + 13 + 2 * (j)) 5).toInt64)) (0)) (0))), (6, .ref (g.2.2 (1 + 13 + 2 * (j)))), (5, .int (nI (j))), (0, .ref (g.2.2 (0))), (1, .long (a))]) hM.x hM.b dX4_mixRoasts_143 hl (by decide) rfl (fun ls hl => ?_)
          refine lv_iconst (v := nI 0) hM.x hM.b dX4_mixRoasts_145 (by decide) ?_
          refine lv_istore (lv' := [(9, .int (nI (0))), (8, .int (nI (4))), (7, .ref (g.2.2 (1 + 13 + 2 * (j) + 1))), (3, .long (f_X4_mix (f_X4_mix (f_X4_mix (f_X4_mix (f_X4_mix (f_X4_mix (f_X4_mix (w3) ((κ (1 + 13 + 2 * (j)) 1).toInt64)) ((κ (1 + 13 + 2 * (j)) 2).toInt64)) ((κ (1 + 13 + 2 * (j)) 3).toInt64)) ((κ (1 + 13 + 2 * (j)) 4).toInt64)) ((κ (1 + 13 + 2 * (j)) 5).toInt64)) (0)) (0))), (6, .ref (g.2.2 (1 + 13 + 2 * (j)))), (5, .int (nI (j))), (0, .ref (g.2.2 (0))), (1, .long (a))]) hM.x hM.b dX4_mixRoasts_146 hl (by decide) rfl (fun ls hl => ?_)
          refine ml_X4_mixRoasts_148 l g κ a j (by omega) hM (4) (0) (by omega) (f_X4_mix (f_X4_mix (f_X4_mix (f_X4_mix (f_X4_mix (f_X4_mix (f_X4_mix (w3) ((κ (1 + 13 + 2 * (j)) 1).toInt64)) ((κ (1 + 13 + 2 * (j)) 2).toInt64)) ((κ (1 + 13 + 2 * (j)) 3).toInt64)) ((κ (1 + 13 + 2 * (j)) 4).toInt64)) ((κ (1 + 13 + 2 * (j)) 5).toInt64)) (0)) (0)) _ _ _ (lv_sub hl [0, 1, 2, 5, 3, 6, 7] rfl) hw (fun uz1 H locs ls he hl hw => ?_)
          rw [he] at hF
          try dsimp only at hF
          refine lv_iinc (v := nI (j + 1)) (lv' := [(5, .int (nI (j + 1))), (3, .long (uz1)), (0, .ref (g.2.2 (0))), (1, .long (a))]) hM.x hM.b dX4_mixRoasts_176 hl (k := 0) rfl (nI_1 (j)) (by decide) rfl (fun ls hl => ?_)
          refine lv_goto (tgt := 5) hM.x hM.b dX4_mixRoasts_179 (by decide) ?_
          exact ih (j + 1) (by omega) (uz1) H locs ls (lv_sub hl [0, 1, 2, 3] rfl) hw (fun u3 H locs ls he hl hw => hx182 u3 H locs ls (hF.trans he) hl hw)
        · rw [if_neg c3] at hF
          refine lv_lconst (v := 1) hM.x hM.b dX4_mixRoasts_124 (by decide) ?_
          refine lv_goto (tgt := 129) hM.x hM.b dX4_mixRoasts_125 (by decide) ?_
          refine k_clp hw (k_runS [.long (f_X4_mix (f_X4_mix (f_X4_mix (f_X4_mix (f_X4_mix (f_X4_mix (w3) ((κ (1 + 13 + 2 * (j)) 1).toInt64)) ((κ (1 + 13 + 2 * (j)) 2).toInt64)) ((κ (1 + 13 + 2 * (j)) 3).toInt64)) ((κ (1 + 13 + 2 * (j)) 4).toInt64)) ((κ (1 + 13 + 2 * (j)) 5).toInt64)) (0)), .long (1)] [] hM hw (m_X4_mix l g κ _ (f_X4_mix (f_X4_mix (f_X4_mix (f_X4_mix (f_X4_mix (f_X4_mix (w3) ((κ (1 + 13 + 2 * (j)) 1).toInt64)) ((κ (1 + 13 + 2 * (j)) 2).toInt64)) ((κ (1 + 13 + 2 * (j)) 3).toInt64)) ((κ (1 + 13 + 2 * (j)) 4).toInt64)) ((κ (1 + 13 + 2 * (j)) 5).toInt64)) (0)) (1)) (k_gS u_ml_X4_196 u_st_X4_mix u_ini_X4 u_co_X4_mix) (q_X4_mix) rfl rfl rfl ⟨Nat.le_of_ble_eq_true rfl, Nat.le_of_ble_eq_true rfl⟩ hl.1 rfl (Nat.le_of_ble_eq_true rfl) dX4_mixRoasts_129 ⟨Nat.le_of_ble_eq_true rfl, Nat.le_of_ble_eq_true rfl⟩) (fun H locs hw => ?_)
          refine lv_lstore_n (lv' := [(3, .long (f_X4_mix (f_X4_mix (f_X4_mix (f_X4_mix (f_X4_mix (f_X4_mix (f_X4_mix (w3) ((κ (1 + 13 + 2 * (j)) 1).toInt64)) ((κ (1 + 13 + 2 * (j)) 2).toInt64)) ((κ (1 + 13 + 2 * (j)) 3).toInt64)) ((κ (1 + 13 + 2 * (j)) 4).toInt64)) ((κ (1 + 13 + 2 * (j)) 5).toInt64)) (0)) (1))), (6, .ref (g.2.2 (1 + 13 + 2 * (j)))), (5, .int (nI (j))), (0, .ref (g.2.2 (0))), (1, .long (a))]) hM.x hM.b dX4_mixRoasts_132 rfl hl (by decide) rfl (fun ls hl => ?_)
          refine lv_aload hM.x hM.b dX4_mixRoasts_133 (lv_at hl 1 rfl) ?_
          refine k_get2r hM hw (kd1_2 kd_1 (by omega)) u_fl_X4_151 dX4_mixRoasts_135 ?_
          refine lv_astore (lv' := [(7, .ref (g.2.2 (1 + 13 + 2 * (j) + 1))), (3, .long (f_X4_mix (f_X4_mix (f_X4_mix (f_X4_mix (f_X4_mix (f_X4_mix (f_X4_mix (w3) ((κ (1 + 13 + 2 * (j)) 1).toInt64)) ((κ (1 + 13 + 2 * (j)) 2).toInt64)) ((κ (1 + 13 + 2 * (j)) 3).toInt64)) ((κ (1 + 13 + 2 * (j)) 4).toInt64)) ((κ (1 + 13 + 2 * (j)) 5).toInt64)) (0)) (1))), (6, .ref (g.2.2 (1 + 13 + 2 * (j)))), (5, .int (nI (j))), (0, .ref (g.2.2 (0))), (1, .long (a))]) hM.x hM.b dX4_mixRoasts_138 hl (by decide) rfl (fun ls hl => ?_)
          refine lv_aload hM.x hM.b dX4_mixRoasts_140 (lv_at hl 0 rfl) ?_
          refine k_alen (v := nI 4) hM hw (kd_lt (kd2_6 (kd1_2 kd_1 (by omega))) (by decide)) 0 (sh6 (kd2_6 (kd1_2 kd_1 (by omega)))) rfl rfl dX4_mixRoasts_142 ?_
          refine lv_istore (lv' := [(8, .int (nI (4))), (7, .ref (g.2.2 (1 + 13 + 2 * (j) + 1))), (3, .long (f_X4_mix (f_X4_mix (f_X4_mix (f_X4_mix (f_X4_mix (f_X4_mix (f_X4_mix (w3) ((κ (1 + 13 + 2 * (j)) 1).toInt64)) ((κ (1 + 13 + 2 * (j)) 2).toInt64)) ((κ (1 + 13 + 2 * (j)) 3).toInt64)) ((κ (1 + 13 + 2 * (j)) 4).toInt64)) ((κ (1 + 13 + 2 * (j)) 5).toInt64)) (0)) (1))), (6, .ref (g.2.2 (1 + 13 + 2 * (j)))), (5, .int (nI (j))), (0, .ref (g.2.2 (0))), (1, .long (a))]) hM.x hM.b dX4_mixRoasts_143 hl (by decide) rfl (fun ls hl => ?_)
          refine lv_iconst (v := nI 0) hM.x hM.b dX4_mixRoasts_145 (by decide) ?_
          refine lv_istore (lv' := [(9, .int (nI (0))), (8, .int (nI (4))), (7, .ref (g.2.2 (1 + 13 + 2 * (j) + 1))), (3, .long (f_X4_mix (f_X4_mix (f_X4_mix (f_X4_mix (f_X4_mix (f_X4_mix (f_X4_mix (w3) ((κ (1 + 13 + 2 * (j)) 1).toInt64)) ((κ (1 + 13 + 2 * (j)) 2).toInt64)) ((κ (1 + 13 + 2 * (j)) 3).toInt64)) ((κ (1 + 13 + 2 * (j)) 4).toInt64)) ((κ (1 + 13 + 2 * (j)) 5).toInt64)) (0)) (1))), (6, .ref (g.2.2 (1 + 13 + 2 * (j)))), (5, .int (nI (j))), (0, .ref (g.2.2 (0))), (1, .long (a))]) hM.x hM.b dX4_mixRoasts_146 hl (by decide) rfl (fun ls hl => ?_)
          refine ml_X4_mixRoasts_148 l g κ a j (by omega) hM (4) (0) (by omega) (f_X4_mix (f_X4_mix (f_X4_mix (f_X4_mix (f_X4_mix (f_X4_mix (f_X4_mix (w3) ((κ (1 + 13 + 2 * (j)) 1).toInt64)) ((κ (1 + 13 + 2 * (j)) 2).toInt64)) ((κ (1 + 13 + 2 * (j)) 3).toInt64)) ((κ (1 + 13 + 2 * (j)) 4).toInt64)) ((κ (1 + 13 + 2 * (j)) 5).toInt64)) (0)) (1)) _ _ _ (lv_sub hl [0, 1, 2, 5, 3, 6, 7] rfl) hw (fun uz2 H locs ls he hl hw => ?_)
          rw [he] at hF
          try dsimp only at hF
          refine lv_iinc (v := nI (j + 1)) (lv' := [(5, .int (nI (j + 1))), (3, .long (uz2)), (0, .ref (g.2.2 (0))), (1, .long (a))]) hM.x hM.b dX4_mixRoasts_176 hl (k := 0) rfl (nI_1 (j)) (by decide) rfl (fun ls hl => ?_)
          refine lv_goto (tgt := 5) hM.x hM.b dX4_mixRoasts_179 (by decide) ?_
          exact ih (j + 1) (by omega) (uz2) H locs ls (lv_sub hl [0, 1, 2, 3] rfl) hw (fun u3 H locs ls he hl hw => hx182 u3 H locs ls (hF.trans he) hl hw)
      · rw [if_neg c2] at hF
        refine lv_lconst (v := 1) hM.x hM.b dX4_mixRoasts_106 (by decide) ?_
        refine lv_goto (tgt := 111) hM.x hM.b dX4_mixRoasts_107 (by decide) ?_
        refine k_clp hw (k_runS [.long (f_X4_mix (f_X4_mix (f_X4_mix (f_X4_mix (f_X4_mix (w3) ((κ (1 + 13 + 2 * (j)) 1).toInt64)) ((κ (1 + 13 + 2 * (j)) 2).toInt64)) ((κ (1 + 13 + 2 * (j)) 3).toInt64)) ((κ (1 + 13 + 2 * (j)) 4).toInt64)) ((κ (1 + 13 + 2 * (j)) 5).toInt64)), .long (1)] [] hM hw (m_X4_mix l g κ _ (f_X4_mix (f_X4_mix (f_X4_mix (f_X4_mix (f_X4_mix (w3) ((κ (1 + 13 + 2 * (j)) 1).toInt64)) ((κ (1 + 13 + 2 * (j)) 2).toInt64)) ((κ (1 + 13 + 2 * (j)) 3).toInt64)) ((κ (1 + 13 + 2 * (j)) 4).toInt64)) ((κ (1 + 13 + 2 * (j)) 5).toInt64)) (1)) (k_gS u_ml_X4_196 u_st_X4_mix u_ini_X4 u_co_X4_mix) (q_X4_mix) rfl rfl rfl ⟨Nat.le_of_ble_eq_true rfl, Nat.le_of_ble_eq_true rfl⟩ hl.1 rfl (Nat.le_of_ble_eq_true rfl) dX4_mixRoasts_111 ⟨Nat.le_of_ble_eq_true rfl, Nat.le_of_ble_eq_true rfl⟩) (fun H locs hw => ?_)
        refine lv_lstore_n (lv' := [(3, .long (f_X4_mix (f_X4_mix (f_X4_mix (f_X4_mix (f_X4_mix (f_X4_mix (w3) ((κ (1 + 13 + 2 * (j)) 1).toInt64)) ((κ (1 + 13 + 2 * (j)) 2).toInt64)) ((κ (1 + 13 + 2 * (j)) 3).toInt64)) ((κ (1 + 13 + 2 * (j)) 4).toInt64)) ((κ (1 + 13 + 2 * (j)) 5).toInt64)) (1))), (6, .ref (g.2.2 (1 + 13 + 2 * (j)))), (5, .int (nI (j))), (0, .ref (g.2.2 (0))), (1, .long (a))]) hM.x hM.b dX4_mixRoasts_114 rfl hl (by decide) rfl (fun ls hl => ?_)
        refine lv_lload_n hM.x hM.b dX4_mixRoasts_115 rfl (lv_at hl 0 rfl) ?_
        refine lv_aload hM.x hM.b dX4_mixRoasts_116 (lv_at hl 1 rfl) ?_
        refine k_cip hw (k_runV [] [.long (f_X4_mix (f_X4_mix (f_X4_mix (f_X4_mix (f_X4_mix (f_X4_mix (w3) ((κ (1 + 13 + 2 * (j)) 1).toInt64)) ((κ (1 + 13 + 2 * (j)) 2).toInt64)) ((κ (1 + 13 + 2 * (j)) 3).toInt64)) ((κ (1 + 13 + 2 * (j)) 4).toInt64)) ((κ (1 + 13 + 2 * (j)) 5).toInt64)) (1))] hM hw (m_X2_burnt l g κ _ (1 + 13 + 2 * (j)) ((kd1_2 kd_1 (by omega)))) (kd_lt (kd1_2 kd_1 (by omega)) (by decide)) (sh2 (kd1_2 kd_1 (by omega))) rfl (k_gV u_ml_X4_167 u_im_X2_burnt u_se_X2_burnt u_ini_X2 u_co_X2_burnt) (q_X2_burnt) rfl rfl rfl ⟨Nat.le_of_ble_eq_true rfl, Nat.le_of_ble_eq_true rfl⟩ hl.1 rfl (Nat.le_of_ble_eq_true rfl) dX4_mixRoasts_118 ⟨Nat.le_of_ble_eq_true rfl, Nat.le_of_ble_eq_true rfl⟩) (fun H locs hw => ?_)
        refine lv_if_eq (tgt := 128) hM.x hM.b dX4_mixRoasts_121 (by decide) (fun c4 => ?_) (fun c4 => ?_)
        · rw [if_pos c4] at hF
          refine lv_lconst (v := 0) hM.x hM.b dX4_mixRoasts_128 (by decide) ?_
          refine k_clp hw (k_runS [.long (f_X4_mix (f_X4_mix (f_X4_mix (f_X4_mix (f_X4_mix (f_X4_mix (w3) ((κ (1 + 13 + 2 * (j)) 1).toInt64)) ((κ (1 + 13 + 2 * (j)) 2).toInt64)) ((κ (1 + 13 + 2 * (j)) 3).toInt64)) ((κ (1 + 13 + 2 * (j)) 4).toInt64)) ((κ (1 + 13 + 2 * (j)) 5).toInt64)) (1)), .long (0)] [] hM hw (m_X4_mix l g κ _ (f_X4_mix (f_X4_mix (f_X4_mix (f_X4_mix (f_X4_mix (f_X4_mix (w3) ((κ (1 + 13 + 2 * (j)) 1).toInt64)) ((κ (1 + 13 + 2 * (j)) 2).toInt64)) ((κ (1 + 13 + 2 * (j)) 3).toInt64)) ((κ (1 + 13 + 2 * (j)) 4).toInt64)) ((κ (1 + 13 + 2 * (j)) 5).toInt64)) (1)) (0)) (k_gS u_ml_X4_196 u_st_X4_mix u_ini_X4 u_co_X4_mix) (q_X4_mix) rfl rfl rfl ⟨Nat.le_of_ble_eq_true rfl, Nat.le_of_ble_eq_true rfl⟩ hl.1 rfl (Nat.le_of_ble_eq_true rfl) dX4_mixRoasts_129 ⟨Nat.le_of_ble_eq_true rfl, Nat.le_of_ble_eq_true rfl⟩) (fun H locs hw => ?_)
          refine lv_lstore_n (lv' := [(3, .long (f_X4_mix (f_X4_mix (f_X4_mix (f_X4_mix (f_X4_mix (f_X4_mix (f_X4_mix (w3) ((κ (1 + 13 + 2 * (j)) 1).toInt64)) ((κ (1 + 13 + 2 * (j)) 2).toInt64)) ((κ (1 + 13 + 2 * (j)) 3).toInt64)) ((κ (1 + 13 + 2 * (j)) 4).toInt64)) ((κ (1 + 13 + 2 * (j)) 5).toInt64)) (1)) (0))), (6, .ref (g.2.2 (1 + 13 + 2 * (j)))), (5, .int (nI (j))), (0, .ref (g.2.2 (0))), (1, .long (a))]) hM.x hM.b dX4_mixRoasts_132 rfl hl (by decide) rfl (fun ls hl => ?_)
          refine lv_aload hM.x hM.b dX4_mixRoasts_133 (lv_at hl 1 rfl) ?_
          refine k_get2r hM hw (kd1_2 kd_1 (by omega)) u_fl_X4_151 dX4_mixRoasts_135 ?_
          refine lv_astore (lv' := [(7, .ref (g.2.2 (1 + 13 + 2 * (j) + 1))), (3, .long (f_X4_mix (f_X4_mix (f_X4_mix (f_X4_mix (f_X4_mix (f_X4_mix (f_X4_mix (w3) ((κ (1 + 13 + 2 * (j)) 1).toInt64)) ((κ (1 + 13 + 2 * (j)) 2).toInt64)) ((κ (1 + 13 + 2 * (j)) 3).toInt64)) ((κ (1 + 13 + 2 * (j)) 4).toInt64)) ((κ (1 + 13 + 2 * (j)) 5).toInt64)) (1)) (0))), (6, .ref (g.2.2 (1 + 13 + 2 * (j)))), (5, .int (nI (j))), (0, .ref (g.2.2 (0))), (1, .long (a))]) hM.x hM.b dX4_mixRoasts_138 hl (by decide) rfl (fun ls hl => ?_)
          refine lv_aload hM.x hM.b dX4_mixRoasts_140 (lv_at hl 0 rfl) ?_
          refine k_alen (v := nI 4) hM hw (kd_lt (kd2_6 (kd1_2 kd_1 (by omega))) (by decide)) 0 (sh6 (kd2_6 (kd1_2 kd_1 (by omega)))) rfl rfl dX4_mixRoasts_142 ?_
          refine lv_istore (lv' := [(8, .int (nI (4))), (7, .ref (g.2.2 (1 + 13 + 2 * (j) + 1))), (3, .long (f_X4_mix (f_X4_mix (f_X4_mix (f_X4_mix (f_X4_mix (f_X4_mix (f_X4_mix (w3) ((κ (1 + 13 + 2 * (j)) 1).toInt64)) ((κ (1 + 13 + 2 * (j)) 2).toInt64)) ((κ (1 + 13 + 2 * (j)) 3).toInt64)) ((κ (1 + 13 + 2 * (j)) 4).toInt64)) ((κ (1 + 13 + 2 * (j)) 5).toInt64)) (1)) (0))), (6, .ref (g.2.2 (1 + 13 + 2 * (j)))), (5, .int (nI (j))), (0, .ref (g.2.2 (0))), (1, .long (a))]) hM.x hM.b dX4_mixRoasts_143 hl (by decide) rfl (fun ls hl => ?_)
          refine lv_iconst (v := nI 0) hM.x hM.b dX4_mixRoasts_145 (by decide) ?_
          refine lv_istore (lv' := [(9, .int (nI (0))), (8, .int (nI (4))), (7, .ref (g.2.2 (1 + 13 + 2 * (j) + 1))), (3, .long (f_X4_mix (f_X4_mix (f_X4_mix (f_X4_mix (f_X4_mix (f_X4_mix (f_X4_mix (w3) ((κ (1 + 13 + 2 * (j)) 1).toInt64)) ((κ (1 + 13 + 2 * (j)) 2).toInt64)) ((κ (1 + 13 + 2 * (j)) 3).toInt64)) ((κ (1 + 13 + 2 * (j)) 4).toInt64)) ((κ (1 + 13 + 2 * (j)) 5).toInt64)) (1)) (0))), (6, .ref (g.2.2 (1 + 13 + 2 * (j)))), (5, .int (nI (j))), (0, .ref (g.2.2 (0))), (1, .long (a))]) hM.x hM.b dX4_mixRoasts_146 hl (by decide) rfl (fun ls hl => ?_)
          refine ml_X4_mixRoasts_148 l g κ a j (by omega) hM (4) (0) (by omega) (f_X4_mix (f_X4_mix (f_X4_mix (f_X4_mix (f_X4_mix (f_X4_mix (f_X4_mix (w3) ((κ (1 + 13 + 2 * (j)) 1).toInt64)) ((κ (1 + 13 + 2 * (j)) 2).toInt64)) ((κ (1 + 13 + 2 * (j)) 3).toInt64)) ((κ (1 + 13 + 2 * (j)) 4).toInt64)) ((κ (1 + 13 + 2 * (j)) 5).toInt64)) (1)) (0)) _ _ _ (lv_sub hl [0, 1, 2, 5, 3, 6, 7] rfl) hw (fun uz3 H locs ls he hl hw => ?_)
          rw [he] at hF
          try dsimp only at hF
          refine lv_iinc (v := nI (j + 1)) (lv' := [(5, .int (nI (j + 1))), (3, .long (uz3)), (0, .ref (g.2.2 (0))), (1, .long (a))]) hM.x hM.b dX4_mixRoasts_176 hl (k := 0) rfl (nI_1 (j)) (by decide) rfl (fun ls hl => ?_)
          refine lv_goto (tgt := 5) hM.x hM.b dX4_mixRoasts_179 (by decide) ?_
          exact ih (j + 1) (by omega) (uz3) H locs ls (lv_sub hl [0, 1, 2, 3] rfl) hw (fun u3 H locs ls he hl hw => hx182 u3 H locs ls (hF.trans he) hl hw)
        · rw [if_neg c4] at hF
          refine lv_lconst (v := 1) hM.x hM.b dX4_mixRoasts_124 (by decide) ?_
          refine lv_goto (tgt := 129) hM.x hM.b dX4_mixRoasts_125 (by decide) ?_
          refine k_clp hw (k_runS [.long (f_X4_mix (f_X4_mix (f_X4_mix (f_X4_mix (f_X4_mix (f_X4_mix (w3) ((κ (1 + 13 + 2 * (j)) 1).toInt64)) ((κ (1 + 13 + 2 * (j)) 2).toInt64)) ((κ (1 + 13 + 2 * (j)) 3).toInt64)) ((κ (1 + 13 + 2 * (j)) 4).toInt64)) ((κ (1 + 13 + 2 * (j)) 5).toInt64)) (1)), .long (1)] [] hM hw (m_X4_mix l g κ _ (f_X4_mix (f_X4_mix (f_X4_mix (f_X4_mix (f_X4_mix (f_X4_mix (w3) ((κ (1 + 13 + 2 * (j)) 1).toInt64)) ((κ (1 + 13 + 2 * (j)) 2).toInt64)) ((κ (1 + 13 + 2 * (j)) 3).toInt64)) ((κ (1 + 13 + 2 * (j)) 4).toInt64)) ((κ (1 + 13 + 2 * (j)) 5).toInt64)) (1)) (1)) (k_gS u_ml_X4_196 u_st_X4_mix u_ini_X4 u_co_X4_mix) (q_X4_mix) rfl rfl rfl ⟨Nat.le_of_ble_eq_true rfl, Nat.le_of_ble_eq_true rfl⟩ hl.1 rfl (Nat.le_of_ble_eq_true rfl) dX4_mixRoasts_129 ⟨Nat.le_of_ble_eq_true rfl, Nat.le_of_ble_eq_true rfl⟩) (fun H locs hw => ?_)
          refine lv_lstore_n (lv' := [(3, .long (f_X4_mix (f_X4_mix (f_X4_mix (f_X4_mix (f_X4_mix (f_X4_mix (f_X4_mix (w3) ((κ (1 + 13 + 2 * (j)) 1).toInt64)) ((κ (1 + 13 + 2 * (j)) 2).toInt64)) ((κ (1 + 13 + 2 * (j)) 3).toInt64)) ((κ (1 + 13 + 2 * (j)) 4).toInt64)) ((κ (1 + 13 + 2 * (j)) 5).toInt64)) (1)) (1))), (6, .ref (g.2.2 (1 + 13 + 2 * (j)))), (5, .int (nI (j))), (0, .ref (g.2.2 (0))), (1, .long (a))]) hM.x hM.b dX4_mixRoasts_132 rfl hl (by decide) rfl (fun ls hl => ?_)
          refine lv_aload hM.x hM.b dX4_mixRoasts_133 (lv_at hl 1 rfl) ?_
          refine k_get2r hM hw (kd1_2 kd_1 (by omega)) u_fl_X4_151 dX4_mixRoasts_135 ?_
          refine lv_astore (lv' := [(7, .ref (g.2.2 (1 + 13 + 2 * (j) + 1))), (3, .long (f_X4_mix (f_X4_mix (f_X4_mix (f_X4_mix (f_X4_mix (f_X4_mix (f_X4_mix (w3) ((κ (1 + 13 + 2 * (j)) 1).toInt64)) ((κ (1 + 13 + 2 * (j)) 2).toInt64)) ((κ (1 + 13 + 2 * (j)) 3).toInt64)) ((κ (1 + 13 + 2 * (j)) 4).toInt64)) ((κ (1 + 13 + 2 * (j)) 5).toInt64)) (1)) (1))), (6, .ref (g.2.2 (1 + 13 + 2 * (j)))), (5, .int (nI (j))), (0, .ref (g.2.2 (0))), (1, .long (a))]) hM.x hM.b dX4_mixRoasts_138 hl (by decide) rfl (fun ls hl => ?_)
          refine lv_aload hM.x hM.b dX4_mixRoasts_140 (lv_at hl 0 rfl) ?_
          refine k_alen (v := nI 4) hM hw (kd_lt (kd2_6 (kd1_2 kd_1 (by omega))) (by decide)) 0 (sh6 (kd2_6 (kd1_2 kd_1 (by omega)))) rfl rfl dX4_mixRoasts_142 ?_
          refine lv_istore (lv' := [(8, .int (nI (4))), (7, .ref (g.2.2 (1 + 13 + 2 * (j) + 1))), (3, .long (f_X4_mix (f_X4_mix (f_X4_mix (f_X4_mix (f_X4_mix (f_X4_mix (f_X4_mix (w3) ((κ (1 + 13 + 2 * (j)) 1).toInt64)) ((κ (1 + 13 + 2 * (j)) 2).toInt64)) ((κ (1 + 13 + 2 * (j)) 3).toInt64)) ((κ (1 + 13 + 2 * (j)) 4).toInt64)) ((κ (1 + 13 + 2 * (j)) 5).toInt64)) (1)) (1))), (6, .ref (g.2.2 (1 + 13 + 2 * (j)))), (5, .int (nI (j))), (0, .ref (g.2.2 (0))), (1, .long (a))]) hM.x hM.b dX4_mixRoasts_143 hl (by decide) rfl (fun ls hl => ?_)
          refine lv_iconst (v := nI 0) hM.x hM.b dX4_mixRoasts_145 (by decide) ?_
          refine lv_istore (lv' := [(9, .int (nI (0))), (8, .int (nI (4))), (7, .ref (g.2.2 (1 + 13 + 2 * (j) + 1))), (3, .long (f_X4_mix (f_X4_mix (f_X4_mix (f_X4_mix (f_X4_mix (f_X4_mix (f_X4_mix (w3) ((κ (1 + 13 + 2 * (j)) 1).toInt64)) ((κ (1 + 13 + 2 * (j)) 2).toInt64)) ((κ (1 + 13 + 2 * (j)) 3).toInt64)) ((κ (1 + 13 + 2 * (j)) 4).toInt64)) ((κ (1 + 13 + 2 * (j)) 5).toInt64)) (1)) (1))), (6, .ref (g.2.2 (1 + 13 + 2 * (j)))), (5, .int (nI (j))), (0, .ref (g.2.2 (0))), (1, .long (a))]) hM.x hM.b dX4_mixRoasts_146 hl (by decide) rfl (fun ls hl => ?_)
          refine ml_X4_mixRoasts_148 l g κ a j (by omega) hM (4) (0) (by omega) (f_X4_mix (f_X4_mix (f_X4_mix (f_X4_mix (f_X4_mix (f_X4_mix (f_X4_mix (w3) ((κ (1 + 13 + 2 * (j)) 1).toInt64)) ((κ (1 + 13 + 2 * (j)) 2).toInt64)) ((κ (1 + 13 + 2 * (j)) 3).toInt64)) ((κ (1 + 13 + 2 * (j)) 4).toInt64)) ((κ (1 + 13 + 2 * (j)) 5).toInt64)) (1)) (1)) _ _ _ (lv_sub hl [0, 1, 2, 5, 3, 6, 7] rfl) hw (fun uz4 H locs ls he hl hw => ?_)
          rw [he] at hF
          try dsimp only at hF
          refine lv_iinc (v := nI (j + 1)) (lv' := [(5, .int (nI (j + 1))), (3, .long (uz4)), (0, .ref (g.2.2 (0))), (1, .long (a))]) hM.x hM.b dX4_mixRoasts_176 hl (k := 0) rfl (nI_1 (j)) (by decide) rfl (fun ls hl => ?_)
          refine lv_goto (tgt := 5) hM.x hM.b dX4_mixRoasts_179 (by decide) ?_
          exact ih (j + 1) (by omega) (uz4) H locs ls (lv_sub hl [0, 1, 2, 3] rfl) hw (fun u3 H locs ls he hl hw => hx182 u3 H locs ls (hF.trans he) hl hw)
def f_X4_mixRoasts (κ : Kp) (a : Int64) : Int64 := (fun uz1 : Int64 => uz1) (lp_X4_mixRoasts κ a 16 0 (a))
set_option maxRecDepth 100000 in
set_option maxHeartbeats 4000000 in
theorem m_X4_mixRoasts (l : Launch) (g : Gt) (κ : Kp) (sz : Nat) (a : Int64) : Met l yX4_mixRoasts (.code yX4_mixRoasts cX4_mixRoasts 11 (some .long) :: uW) { frames := 1, cells := 0, slots := 0, locals := 30 } (PRE g κ sz [.ref (g.2.2 (0)), .long (a)]) (va_Ql (fun r κ' => r = f_X4_mixRoasts κ a ∧ κ' = κ) (Wp g) (fr g sz)) 0 0 (fr g sz) := by
  refine k_enter (by decide +kernel) (Nat.le_of_ble_eq_true rfl) ?_
  intro p e s m below meth c ls hM hr hl hw hsz
  subst hsz
  have hl : lv_has ls 11 [(0, .ref (g.2.2 (0))), (1, .long (a))] := hl
  have hF := f_X4_mixRoasts.eq_1 κ a
  refine lv_lload_n hM.x hM.b dX4_mixRoasts_0 rfl (lv_at hl 1 rfl) ?_
  refine lv_lstore_n (lv' := [(3, .long (a)), (0, .ref (g.2.2 (0))), (1, .long (a))]) hM.x hM.b dX4_mixRoasts_1 rfl hl (by decide) rfl (fun ls hl => ?_)
  refine lv_iconst (v := nI 0) hM.x hM.b dX4_mixRoasts_2 (by decide) ?_
  refine lv_istore (lv' := [(5, .int (nI (0))), (3, .long (a)), (0, .ref (g.2.2 (0))), (1, .long (a))]) hM.x hM.b dX4_mixRoasts_3 hl (by decide) rfl (fun ls hl => ?_)
  refine ml_X4_mixRoasts l g κ a  hM (16) (0) (by omega) (a) _ _ _ (lv_sub hl [0, 1, 2, 3] rfl) hw (fun uz1 H locs ls he hl hw => ?_)
  rw [he] at hF
  try dsimp only at hF
  refine lv_lload_n hM.x hM.b dX4_mixRoasts_182 rfl (lv_at hl 0 rfl) ?_
  exact k_lret hM hr hw (Nat.le_of_ble_eq_true rfl) (Nat.le_of_ble_eq_true rfl) ⟨hF.symm, rfl⟩ dX4_mixRoasts_183
theorem q_X4_digest : hdV yX4_digest RX4 0 := ⟨rfl, by decide +kernel, by decide +kernel, by decide +kernel⟩
def f_X4_digest (κ : Kp) : Int64 := f_X4_mixRoasts κ (f_X4_mixSpits κ (f_X4_mixFires κ (f_X4_mix (f_X4_mix (f_X4_mix (f_X4_mix (f_X4_mix (1951) ((κ (1) 6).toInt64)) ((κ (1) 7).toInt64)) ((κ (1) 3).toInt64)) ((κ (1) 4).toInt64)) ((κ (1) 5).toInt64))))
set_option maxRecDepth 100000 in
set_option maxHeartbeats 4000000 in
theorem m_X4_digest (l : Launch) (g : Gt) (κ : Kp) (sz : Nat)  : Met l yX4_digest (.code yX4_digest cX4_digest 3 (some .long) :: uW) { frames := 3, cells := 0, slots := 0, locals := 90 } (PRE g κ sz [.ref (g.2.2 (0))]) (va_Ql (fun r κ' => r = f_X4_digest κ  ∧ κ' = κ) (Wp g) (fr g sz)) 0 0 (fr g sz) := by
  refine k_enter (by decide +kernel) (Nat.le_of_ble_eq_true rfl) ?_
  intro p e s m below meth c ls hM hr hl hw hsz
  subst hsz
  have hl : lv_has ls 3 [(0, .ref (g.2.2 (0)))] := hl
  have hF := f_X4_digest.eq_1 κ 
  refine lv_ldc2 hM.x hM.b hM.ow (hM.ts _ u_kl_X4_194) dX4_digest_0 ?_
  refine lv_lstore_n (lv' := [(1, .long (1951)), (0, .ref (g.2.2 (0)))]) hM.x hM.b dX4_digest_3 rfl hl (by decide) rfl (fun ls hl => ?_)
  refine lv_lload_n hM.x hM.b dX4_digest_4 rfl (lv_at hl 0 rfl) ?_
  refine lv_aload_n hM.x hM.b dX4_digest_5 rfl (lv_at hl 1 rfl) ?_
  refine k_get4a hM hw u_fl_X4_10 dX4_digest_6 ?_
  refine k_get1 6 hM hw kd_1 (by decide) u_fl_X4_122 dX4_digest_9 ?_
  refine lv_i2l (v := (κ (1) 6).toInt64) hM.x hM.b dX4_digest_12 rfl ?_
  refine k_clp hw (k_runS [.long (1951), .long ((κ (1) 6).toInt64)] [] hM hw (m_X4_mix l g κ _ (1951) ((κ (1) 6).toInt64)) (k_gS u_ml_X4_196 u_st_X4_mix u_ini_X4 u_co_X4_mix) (q_X4_mix) rfl rfl rfl ⟨Nat.le_of_ble_eq_true rfl, Nat.le_of_ble_eq_true rfl⟩ hl.1 rfl (Nat.le_of_ble_eq_true rfl) dX4_digest_13 ⟨Nat.le_of_ble_eq_true rfl, Nat.le_of_ble_eq_true rfl⟩) (fun H locs hw => ?_)
  refine lv_lstore_n (lv' := [(1, .long (f_X4_mix (1951) ((κ (1) 6).toInt64))), (0, .ref (g.2.2 (0)))]) hM.x hM.b dX4_digest_16 rfl hl (by decide) rfl (fun ls hl => ?_)
  refine lv_lload_n hM.x hM.b dX4_digest_17 rfl (lv_at hl 0 rfl) ?_
  refine lv_aload_n hM.x hM.b dX4_digest_18 rfl (lv_at hl 1 rfl) ?_
  refine k_get4a hM hw u_fl_X4_10 dX4_digest_19 ?_
  refine k_get1 7 hM hw kd_1 (by decide) u_fl_X4_79 dX4_digest_22 ?_
  refine lv_i2l (v := (κ (1) 7).toInt64) hM.x hM.b dX4_digest_25 rfl ?_
  refine k_clp hw (k_runS [.long (f_X4_mix (1951) ((κ (1) 6).toInt64)), .long ((κ (1) 7).toInt64)] [] hM hw (m_X4_mix l g κ _ (f_X4_mix (1951) ((κ (1) 6).toInt64)) ((κ (1) 7).toInt64)) (k_gS u_ml_X4_196 u_st_X4_mix u_ini_X4 u_co_X4_mix) (q_X4_mix) rfl rfl rfl ⟨Nat.le_of_ble_eq_true rfl, Nat.le_of_ble_eq_true rfl⟩ hl.1 rfl (Nat.le_of_ble_eq_true rfl) dX4_digest_26 ⟨Nat.le_of_ble_eq_true rfl, Nat.le_of_ble_eq_true rfl⟩) (fun H locs hw => ?_)
  refine lv_lstore_n (lv' := [(1, .long (f_X4_mix (f_X4_mix (1951) ((κ (1) 6).toInt64)) ((κ (1) 7).toInt64))), (0, .ref (g.2.2 (0)))]) hM.x hM.b dX4_digest_29 rfl hl (by decide) rfl (fun ls hl => ?_)
  refine lv_lload_n hM.x hM.b dX4_digest_30 rfl (lv_at hl 0 rfl) ?_
  refine lv_aload_n hM.x hM.b dX4_digest_31 rfl (lv_at hl 1 rfl) ?_
  refine k_get4a hM hw u_fl_X4_10 dX4_digest_32 ?_
  refine k_get1 3 hM hw kd_1 (by decide) u_fl_X4_125 dX4_digest_35 ?_
  refine lv_i2l (v := (κ (1) 3).toInt64) hM.x hM.b dX4_digest_38 rfl ?_
  refine k_clp hw (k_runS [.long (f_X4_mix (f_X4_mix (1951) ((κ (1) 6).toInt64)) ((κ (1) 7).toInt64)), .long ((κ (1) 3).toInt64)] [] hM hw (m_X4_mix l g κ _ (f_X4_mix (f_X4_mix (1951) ((κ (1) 6).toInt64)) ((κ (1) 7).toInt64)) ((κ (1) 3).toInt64)) (k_gS u_ml_X4_196 u_st_X4_mix u_ini_X4 u_co_X4_mix) (q_X4_mix) rfl rfl rfl ⟨Nat.le_of_ble_eq_true rfl, Nat.le_of_ble_eq_true rfl⟩ hl.1 rfl (Nat.le_of_ble_eq_true rfl) dX4_digest_39 ⟨Nat.le_of_ble_eq_true rfl, Nat.le_of_ble_eq_true rfl⟩) (fun H locs hw => ?_)
  refine lv_lstore_n (lv' := [(1, .long (f_X4_mix (f_X4_mix (f_X4_mix (1951) ((κ (1) 6).toInt64)) ((κ (1) 7).toInt64)) ((κ (1) 3).toInt64))), (0, .ref (g.2.2 (0)))]) hM.x hM.b dX4_digest_42 rfl hl (by decide) rfl (fun ls hl => ?_)
  refine lv_lload_n hM.x hM.b dX4_digest_43 rfl (lv_at hl 0 rfl) ?_
  refine lv_aload_n hM.x hM.b dX4_digest_44 rfl (lv_at hl 1 rfl) ?_
  refine k_get4a hM hw u_fl_X4_10 dX4_digest_45 ?_
  refine k_get1 4 hM hw kd_1 (by decide) u_fl_X4_131 dX4_digest_48 ?_
  refine lv_i2l (v := (κ (1) 4).toInt64) hM.x hM.b dX4_digest_51 rfl ?_
  refine k_clp hw (k_runS [.long (f_X4_mix (f_X4_mix (f_X4_mix (1951) ((κ (1) 6).toInt64)) ((κ (1) 7).toInt64)) ((κ (1) 3).toInt64)), .long ((κ (1) 4).toInt64)] [] hM hw (m_X4_mix l g κ _ (f_X4_mix (f_X4_mix (f_X4_mix (1951) ((κ (1) 6).toInt64)) ((κ (1) 7).toInt64)) ((κ (1) 3).toInt64)) ((κ (1) 4).toInt64)) (k_gS u_ml_X4_196 u_st_X4_mix u_ini_X4 u_co_X4_mix) (q_X4_mix) rfl rfl rfl ⟨Nat.le_of_ble_eq_true rfl, Nat.le_of_ble_eq_true rfl⟩ hl.1 rfl (Nat.le_of_ble_eq_true rfl) dX4_digest_52 ⟨Nat.le_of_ble_eq_true rfl, Nat.le_of_ble_eq_true rfl⟩) (fun H locs hw => ?_)
  refine lv_lstore_n (lv' := [(1, .long (f_X4_mix (f_X4_mix (f_X4_mix (f_X4_mix (1951) ((κ (1) 6).toInt64)) ((κ (1) 7).toInt64)) ((κ (1) 3).toInt64)) ((κ (1) 4).toInt64))), (0, .ref (g.2.2 (0)))]) hM.x hM.b dX4_digest_55 rfl hl (by decide) rfl (fun ls hl => ?_)
  refine lv_lload_n hM.x hM.b dX4_digest_56 rfl (lv_at hl 0 rfl) ?_
  refine lv_aload_n hM.x hM.b dX4_digest_57 rfl (lv_at hl 1 rfl) ?_
  refine k_get4a hM hw u_fl_X4_10 dX4_digest_58 ?_
  refine k_get1 5 hM hw kd_1 (by decide) u_fl_X4_141 dX4_digest_61 ?_
  refine lv_i2l (v := (κ (1) 5).toInt64) hM.x hM.b dX4_digest_64 rfl ?_
  refine k_clp hw (k_runS [.long (f_X4_mix (f_X4_mix (f_X4_mix (f_X4_mix (1951) ((κ (1) 6).toInt64)) ((κ (1) 7).toInt64)) ((κ (1) 3).toInt64)) ((κ (1) 4).toInt64)), .long ((κ (1) 5).toInt64)] [] hM hw (m_X4_mix l g κ _ (f_X4_mix (f_X4_mix (f_X4_mix (f_X4_mix (1951) ((κ (1) 6).toInt64)) ((κ (1) 7).toInt64)) ((κ (1) 3).toInt64)) ((κ (1) 4).toInt64)) ((κ (1) 5).toInt64)) (k_gS u_ml_X4_196 u_st_X4_mix u_ini_X4 u_co_X4_mix) (q_X4_mix) rfl rfl rfl ⟨Nat.le_of_ble_eq_true rfl, Nat.le_of_ble_eq_true rfl⟩ hl.1 rfl (Nat.le_of_ble_eq_true rfl) dX4_digest_65 ⟨Nat.le_of_ble_eq_true rfl, Nat.le_of_ble_eq_true rfl⟩) (fun H locs hw => ?_)
  refine lv_lstore_n (lv' := [(1, .long (f_X4_mix (f_X4_mix (f_X4_mix (f_X4_mix (f_X4_mix (1951) ((κ (1) 6).toInt64)) ((κ (1) 7).toInt64)) ((κ (1) 3).toInt64)) ((κ (1) 4).toInt64)) ((κ (1) 5).toInt64))), (0, .ref (g.2.2 (0)))]) hM.x hM.b dX4_digest_68 rfl hl (by decide) rfl (fun ls hl => ?_)
  refine lv_aload_n hM.x hM.b dX4_digest_69 rfl (lv_at hl 1 rfl) ?_
  refine lv_lload_n hM.x hM.b dX4_digest_70 rfl (lv_at hl 0 rfl) ?_
  refine k_clp hw (k_runV [.long (f_X4_mix (f_X4_mix (f_X4_mix (f_X4_mix (f_X4_mix (1951) ((κ (1) 6).toInt64)) ((κ (1) 7).toInt64)) ((κ (1) 3).toInt64)) ((κ (1) 4).toInt64)) ((κ (1) 5).toInt64))] [] hM hw (m_X4_mixFires l g κ _ (f_X4_mix (f_X4_mix (f_X4_mix (f_X4_mix (f_X4_mix (1951) ((κ (1) 6).toInt64)) ((κ (1) 7).toInt64)) ((κ (1) 3).toInt64)) ((κ (1) 4).toInt64)) ((κ (1) 5).toInt64))) (kd_lt kd_0 (by decide)) (sh4 kd_0) rfl (k_gV u_ml_X4_200 u_im_X4_mixFires u_se_X4_mixFires u_ini_X4 u_co_X4_mixFires) (q_X4_mixFires) rfl rfl rfl ⟨Nat.le_of_ble_eq_true rfl, Nat.le_of_ble_eq_true rfl⟩ hl.1 rfl (Nat.le_of_ble_eq_true rfl) dX4_digest_71 ⟨Nat.le_of_ble_eq_true rfl, Nat.le_of_ble_eq_true rfl⟩) (fun H locs hw => ?_)
  refine lv_lstore_n (lv' := [(1, .long (f_X4_mixFires κ (f_X4_mix (f_X4_mix (f_X4_mix (f_X4_mix (f_X4_mix (1951) ((κ (1) 6).toInt64)) ((κ (1) 7).toInt64)) ((κ (1) 3).toInt64)) ((κ (1) 4).toInt64)) ((κ (1) 5).toInt64)))), (0, .ref (g.2.2 (0)))]) hM.x hM.b dX4_digest_74 rfl hl (by decide) rfl (fun ls hl => ?_)
  refine lv_aload_n hM.x hM.b dX4_digest_75 rfl (lv_at hl 1 rfl) ?_
  refine lv_lload_n hM.x hM.b dX4_digest_76 rfl (lv_at hl 0 rfl) ?_
  refine k_clp hw (k_runV [.long (f_X4_mixFires κ (f_X4_mix (f_X4_mix (f_X4_mix (f_X4_mix (f_X4_mix (1951) ((κ (1) 6).toInt64)) ((κ (1) 7).toInt64)) ((κ (1) 3).toInt64)) ((κ (1) 4).toInt64)) ((κ (1) 5).toInt64)))] [] hM hw (m_X4_mixSpits l g κ _ (f_X4_mixFires κ (f_X4_mix (f_X4_mix (f_X4_mix (f_X4_mix (f_X4_mix (1951) ((κ (1) 6).toInt64)) ((κ (1) 7).toInt64)) ((κ (1) 3).toInt64)) ((κ (1) 4).toInt64)) ((κ (1) 5).toInt64)))) (kd_lt kd_0 (by decide)) (sh4 kd_0) rfl (k_gV u_ml_X4_204 u_im_X4_mixSpits u_se_X4_mixSpits u_ini_X4 u_co_X4_mixSpits) (q_X4_mixSpits) rfl rfl rfl ⟨Nat.le_of_ble_eq_true rfl, Nat.le_of_ble_eq_true rfl⟩ hl.1 rfl (Nat.le_of_ble_eq_true rfl) dX4_digest_77 ⟨Nat.le_of_ble_eq_true rfl, Nat.le_of_ble_eq_true rfl⟩) (fun H locs hw => ?_)
  refine lv_lstore_n (lv' := [(1, .long (f_X4_mixSpits κ (f_X4_mixFires κ (f_X4_mix (f_X4_mix (f_X4_mix (f_X4_mix (f_X4_mix (1951) ((κ (1) 6).toInt64)) ((κ (1) 7).toInt64)) ((κ (1) 3).toInt64)) ((κ (1) 4).toInt64)) ((κ (1) 5).toInt64))))), (0, .ref (g.2.2 (0)))]) hM.x hM.b dX4_digest_80 rfl hl (by decide) rfl (fun ls hl => ?_)
  refine lv_aload_n hM.x hM.b dX4_digest_81 rfl (lv_at hl 1 rfl) ?_
  refine lv_lload_n hM.x hM.b dX4_digest_82 rfl (lv_at hl 0 rfl) ?_
  refine k_clp hw (k_runV [.long (f_X4_mixSpits κ (f_X4_mixFires κ (f_X4_mix (f_X4_mix (f_X4_mix (f_X4_mix (f_X4_mix (1951) ((κ (1) 6).toInt64)) ((κ (1) 7).toInt64)) ((κ (1) 3).toInt64)) ((κ (1) 4).toInt64)) ((κ (1) 5).toInt64))))] [] hM hw (m_X4_mixRoasts l g κ _ (f_X4_mixSpits κ (f_X4_mixFires κ (f_X4_mix (f_X4_mix (f_X4_mix (f_X4_mix (f_X4_mix (1951) ((κ (1) 6).toInt64)) ((κ (1) 7).toInt64)) ((κ (1) 3).toInt64)) ((κ (1) 4).toInt64)) ((κ (1) 5).toInt64))))) (kd_lt kd_0 (by decide)) (sh4 kd_0) rfl (k_gV u_ml_X4_207 u_im_X4_mixRoasts u_se_X4_mixRoasts u_ini_X4 u_co_X4_mixRoasts) (q_X4_mixRoasts) rfl rfl rfl ⟨Nat.le_of_ble_eq_true rfl, Nat.le_of_ble_eq_true rfl⟩ hl.1 rfl (Nat.le_of_ble_eq_true rfl) dX4_digest_83 ⟨Nat.le_of_ble_eq_true rfl, Nat.le_of_ble_eq_true rfl⟩) (fun H locs hw => ?_)
  exact k_lret hM hr hw (Nat.le_of_ble_eq_true rfl) (Nat.le_of_ble_eq_true rfl) ⟨hF.symm, rfl⟩ dX4_digest_86
