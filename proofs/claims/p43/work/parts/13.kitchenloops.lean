theorem q_X1_goMinute : hdV yX1_goMinute RX1 0 := ⟨rfl, by decide +kernel, by decide +kernel, by decide +kernel⟩
def lp_X1_goMinute_13 (k : Nat) : Nat → Nat → Int32 → Kp → Int32 × Kp
  | 0, j, v1, κ => (v1, κ)
  | n + 1, j, v1, κ => match f_X1_roastForAMinute κ (k) (k + 7 + (j)) with | (r1, κ1) => (if (r1) = 0 then (lp_X1_goMinute_13 (k) n (j + 1) (v1) κ1) else (lp_X1_goMinute_13 (k) n (j + 1) ((v1) + 1) κ1))
set_option maxRecDepth 100000 in
set_option maxHeartbeats 4000000 in
theorem ml_X1_goMinute_13 {p : Program} {e : Env} {s : State} {m : MethodId} {below : List Frame} {meth : Method} {c : Code} {Q : State → Prop} (l : Launch) (g : Gt) (k : Nat) (hk : kd k = 1) (hM : Mc g p s m ([.ref (g.2.2 (k))] : List Value).toArray meth c cX1_goMinute 6 yX1_goMinute.cls) : ∀ (n j : Nat), j + n = 6 → ∀ (v1 : Int32) (κ : Kp), ∀ (H : Heap) (locs : List Loc) (ls : Array Slot), lv_has ls 6 [(4, .int (nI (j))), (3, .int (nI (6))), (2, .ref (g.2.2 (k + 2))), (1, .int (v1)), (0, .ref (g.2.2 (k)))] → Ws g s κ H locs → (∀ (u1 : Int32) (κz : Kp) (H : Heap) (locs : List Loc) (ls : Array Slot), lp_X1_goMinute_13 k n j v1 κ = (u1, κz) → lv_has ls 6 [(1, .int (u1)), (0, .ref (g.2.2 (k)))] → Ws g s κz H locs → W p l e { frames := 3, cells := 0, slots := 0, locals := 90 } s m ([.ref (g.2.2 (k))] : List Value).toArray below meth c H locs 0 0 Q (F0 m 43 ls [])) → W p l e { frames := 3, cells := 0, slots := 0, locals := 90 } s m ([.ref (g.2.2 (k))] : List Value).toArray below meth c H locs 0 0 Q (F0 m 13 ls []) := by
  intro n
  induction n with
  | zero =>
    intro j hj v1 κ H locs ls hl hw hx43
    have hF := Eq.refl (lp_X1_goMinute_13 k 0 j v1 κ)
    conv at hF => rhs; rw [lp_X1_goMinute_13]
    refine lv_iload hM.x hM.b dX1_goMinute_13 (lv_at hl 0 rfl) ?_
    refine lv_iload_n hM.x hM.b dX1_goMinute_15 rfl (lv_at hl 1 rfl) ?_
    refine lv_icmp_ge (tgt := 43) hM.x hM.b dX1_goMinute_16 (by decide) (fun _ => ?_) (fun cz => absurd (nI_le (by omega) (by omega) : nI 6 ≤ nI j) cz)
    exact hx43 (v1) κ H locs ls hF (lv_sub hl [3, 4] rfl) hw
  | succ n ih =>
    intro j hj v1 κ H locs ls hl hw hx43
    have hF := Eq.refl (lp_X1_goMinute_13 k (n + 1) j v1 κ)
    conv at hF => rhs; rw [lp_X1_goMinute_13]
    refine lv_iload hM.x hM.b dX1_goMinute_13 (lv_at hl 0 rfl) ?_
    refine lv_iload_n hM.x hM.b dX1_goMinute_15 rfl (lv_at hl 1 rfl) ?_
    refine lv_icmp_ge (tgt := 43) hM.x hM.b dX1_goMinute_16 (by decide) (fun cz => absurd cz (nI_ge (by omega) (by decide) : ¬ nI 6 ≤ nI j)) (fun _ => ?_)
    refine lv_aload_n hM.x hM.b dX1_goMinute_19 rfl (lv_at hl 2 rfl) ?_
    refine lv_iload hM.x hM.b dX1_goMinute_20 (lv_at hl 0 rfl) ?_
    refine k_ald8N (i := j) hM hw hk (by omega) dX1_goMinute_22 ?_
    refine lv_astore (lv' := [(5, .ref (g.2.2 (k + 7 + (j)))), (4, .int (nI (j))), (3, .int (nI (6))), (2, .ref (g.2.2 (k + 2))), (1, .int (v1)), (0, .ref (g.2.2 (k)))]) hM.x hM.b dX1_goMinute_23 hl (by decide) rfl (fun ls hl => ?_)
    refine lv_aload_n hM.x hM.b dX1_goMinute_25 rfl (lv_at hl 5 rfl) ?_
    refine lv_aload hM.x hM.b dX1_goMinute_26 (lv_at hl 0 rfl) ?_
    refine k_ci hw (k_runV [.ref (g.2.2 (k + 7 + (j)))] [] hM hw (m_X1_roastForAMinute l g κ _ (k) (k + 7 + (j)) (hk) ((kd1_3 hk (by omega)))) (hw.dm hk (by decide)) (sh1 hk) rfl (k_gV u_ml_X1_94 u_im_X1_roastForAMinute u_se_X1_roastForAMinute u_ini_X1 u_co_X1_roastForAMinute) (q_X1_roastForAMinute) rfl rfl rfl ⟨Nat.le_of_ble_eq_true rfl, Nat.le_of_ble_eq_true rfl⟩ hl.1 rfl (Nat.le_of_ble_eq_true rfl) dX1_goMinute_28 ⟨Nat.le_of_ble_eq_true rfl, Nat.le_of_ble_eq_true rfl⟩) (fun r1 κ1 H locs hpκ1 hw => ?_)
    simp only [hpκ1] at hF
    refine lv_if_eq (tgt := 37) hM.x hM.b dX1_goMinute_31 (by decide) (fun c1 => ?_) (fun c1 => ?_)
    · rw [if_pos c1] at hF
      refine lv_iinc (v := nI (j + 1)) (lv' := [(4, .int (nI (j + 1))), (5, .ref (g.2.2 (k + 7 + (j)))), (3, .int (nI (6))), (2, .ref (g.2.2 (k + 2))), (1, .int (v1)), (0, .ref (g.2.2 (k)))]) hM.x hM.b dX1_goMinute_37 hl (k := 1) rfl (nI_1 (j)) (by decide) rfl (fun ls hl => ?_)
      refine lv_goto (tgt := 13) hM.x hM.b dX1_goMinute_40 (by decide) ?_
      exact ih (j + 1) (by omega) (v1) κ1 H locs ls (lv_sub hl [0, 2, 3, 4, 5] rfl) hw (fun u1 κz H locs ls he hl hw => hx43 u1 κz H locs ls (hF.trans he) hl hw)
    · rw [if_neg c1] at hF
      refine lv_iinc (v := (v1) + 1) (lv' := [(1, .int ((v1) + 1)), (5, .ref (g.2.2 (k + 7 + (j)))), (4, .int (nI (j))), (3, .int (nI (6))), (2, .ref (g.2.2 (k + 2))), (0, .ref (g.2.2 (k)))]) hM.x hM.b dX1_goMinute_34 hl (k := 4) rfl rfl (by decide) rfl (fun ls hl => ?_)
      refine lv_iinc (v := nI (j + 1)) (lv' := [(4, .int (nI (j + 1))), (1, .int ((v1) + 1)), (5, .ref (g.2.2 (k + 7 + (j)))), (3, .int (nI (6))), (2, .ref (g.2.2 (k + 2))), (0, .ref (g.2.2 (k)))]) hM.x hM.b dX1_goMinute_37 hl (k := 2) rfl (nI_1 (j)) (by decide) rfl (fun ls hl => ?_)
      refine lv_goto (tgt := 13) hM.x hM.b dX1_goMinute_40 (by decide) ?_
      exact ih (j + 1) (by omega) ((v1) + 1) κ1 H locs ls (lv_sub hl [0, 3, 4, 1, 5] rfl) hw (fun u1 κz H locs ls he hl hw => hx43 u1 κz H locs ls (hF.trans he) hl hw)
def lp_X1_goMinute_54 (k : Nat) : Nat → Nat → Kp → Kp
  | 0, j, κ => κ
  | n + 1, j, κ => (fun κ1 : Kp => lp_X1_goMinute_54 (k) n (j + 1) κ1) (f_X0_burn κ (k + 4 + (j)) (κ (k) 6))
set_option maxRecDepth 100000 in
set_option maxHeartbeats 4000000 in
theorem ml_X1_goMinute_54 {p : Program} {e : Env} {s : State} {m : MethodId} {below : List Frame} {meth : Method} {c : Code} {Q : State → Prop} (l : Launch) (g : Gt) (k : Nat) (hk : kd k = 1) (v1 : Int32) (hM : Mc g p s m ([.ref (g.2.2 (k))] : List Value).toArray meth c cX1_goMinute 6 yX1_goMinute.cls) : ∀ (n j : Nat), j + n = 3 → ∀ (κ : Kp), ∀ (H : Heap) (locs : List Loc) (ls : Array Slot), lv_has ls 6 [(4, .int (nI (j))), (3, .int (nI (3))), (2, .ref (g.2.2 (k + 1))), (1, .int (v1)), (0, .ref (g.2.2 (k)))] → Ws g s κ H locs → (∀ (κz : Kp) (H : Heap) (locs : List Loc) (ls : Array Slot), lp_X1_goMinute_54 k n j κ = κz → lv_has ls 6 [(1, .int (v1)), (0, .ref (g.2.2 (k)))] → Ws g s κz H locs → W p l e { frames := 3, cells := 0, slots := 0, locals := 90 } s m ([.ref (g.2.2 (k))] : List Value).toArray below meth c H locs 0 0 Q (F0 m 81 ls [])) → W p l e { frames := 3, cells := 0, slots := 0, locals := 90 } s m ([.ref (g.2.2 (k))] : List Value).toArray below meth c H locs 0 0 Q (F0 m 54 ls []) := by
  intro n
  induction n with
  | zero =>
    intro j hj κ H locs ls hl hw hx81
    have hF := Eq.refl (lp_X1_goMinute_54 k 0 j κ)
    conv at hF => rhs; rw [lp_X1_goMinute_54]
    refine lv_iload hM.x hM.b dX1_goMinute_54 (lv_at hl 0 rfl) ?_
    refine lv_iload_n hM.x hM.b dX1_goMinute_56 rfl (lv_at hl 1 rfl) ?_
    refine lv_icmp_ge (tgt := 81) hM.x hM.b dX1_goMinute_57 (by decide) (fun _ => ?_) (fun cz => absurd (nI_le (by omega) (by omega) : nI 3 ≤ nI j) cz)
    exact hx81 κ H locs ls hF (lv_sub hl [3, 4] rfl) hw
  | succ n ih =>
    intro j hj κ H locs ls hl hw hx81
    have hF := Eq.refl (lp_X1_goMinute_54 k (n + 1) j κ)
    conv at hF => rhs; rw [lp_X1_goMinute_54]
    refine lv_iload hM.x hM.b dX1_goMinute_54 (lv_at hl 0 rfl) ?_
    refine lv_iload_n hM.x hM.b dX1_goMinute_56 rfl (lv_at hl 1 rfl) ?_
    refine lv_icmp_ge (tgt := 81) hM.x hM.b dX1_goMinute_57 (by decide) (fun cz => absurd cz (nI_ge (by omega) (by decide) : ¬ nI 3 ≤ nI j)) (fun _ => ?_)
    refine lv_aload_n hM.x hM.b dX1_goMinute_60 rfl (lv_at hl 2 rfl) ?_
    refine lv_iload hM.x hM.b dX1_goMinute_61 (lv_at hl 0 rfl) ?_
    refine k_ald7N (i := j) hM hw hk (by omega) dX1_goMinute_63 ?_
    refine lv_astore (lv' := [(5, .ref (g.2.2 (k + 4 + (j)))), (4, .int (nI (j))), (3, .int (nI (3))), (2, .ref (g.2.2 (k + 1))), (1, .int (v1)), (0, .ref (g.2.2 (k)))]) hM.x hM.b dX1_goMinute_64 hl (by decide) rfl (fun ls hl => ?_)
    refine lv_aload hM.x hM.b dX1_goMinute_66 (lv_at hl 0 rfl) ?_
    refine lv_aload_n hM.x hM.b dX1_goMinute_68 rfl (lv_at hl 5 rfl) ?_
    refine k_get1 6 hM hw hk (by decide) u_fl_X1_55 dX1_goMinute_69 ?_
    refine k_cvp hw (k_runV [.int (κ (k) 6)] [] hM hw (m_X0_burn l g κ _ (k + 4 + (j)) (κ (k) 6) ((kd1_0 hk (by omega)))) (hw.dm (kd1_0 hk (by omega)) (by decide)) (sh0 (kd1_0 hk (by omega))) rfl (k_gV u_ml_X1_98 u_im_X0_burn u_se_X0_burn u_ini_X0 u_co_X0_burn) (q_X0_burn) rfl rfl rfl ⟨Nat.le_of_ble_eq_true rfl, Nat.le_of_ble_eq_true rfl⟩ hl.1 rfl (Nat.le_of_ble_eq_true rfl) dX1_goMinute_72 ⟨Nat.le_of_ble_eq_true rfl, Nat.le_of_ble_eq_true rfl⟩) (fun κ1 H locs eκ1 hw => ?_)
    rw [eκ1] at hF
    try dsimp only at hF
    refine lv_iinc (v := nI (j + 1)) (lv' := [(4, .int (nI (j + 1))), (5, .ref (g.2.2 (k + 4 + (j)))), (3, .int (nI (3))), (2, .ref (g.2.2 (k + 1))), (1, .int (v1)), (0, .ref (g.2.2 (k)))]) hM.x hM.b dX1_goMinute_75 hl (k := 1) rfl (nI_1 (j)) (by decide) rfl (fun ls hl => ?_)
    refine lv_goto (tgt := 54) hM.x hM.b dX1_goMinute_78 (by decide) ?_
    exact ih (j + 1) (by omega) κ1 H locs ls (lv_sub hl [0, 2, 3, 4, 5] rfl) hw (fun κz H locs ls he hl hw => hx81 κz H locs ls (hF.trans he) hl hw)
def f_X1_goMinute (κ : Kp) (k : Nat) : Int32 × Kp := match lp_X1_goMinute_13 k 6 0 (0) κ with | (uz1, κ1) => ((fun κ2 : Kp => (fun κ3 : Kp => (uz1, κ3)) (up2 κ2 (k) 6 (((κ2 (k) 6) + (1))))) (lp_X1_goMinute_54 k 3 0 κ1))
set_option maxRecDepth 100000 in
set_option maxHeartbeats 4000000 in
theorem m_X1_goMinute (l : Launch) (g : Gt) (κ : Kp) (sz : Nat) (k : Nat) (hk : kd k = 1) : Met l yX1_goMinute (.code yX1_goMinute cX1_goMinute 6 (some .int) :: uW) { frames := 3, cells := 0, slots := 0, locals := 90 } (PRE g κ sz [.ref (g.2.2 (k))]) (va_Qi (fun r κ' => f_X1_goMinute κ k = (r, κ')) (Wp g) (fr g sz)) 0 0 (fr g sz) := by
  refine k_enter (by decide +kernel) (Nat.le_of_ble_eq_true rfl) ?_
  intro p e s m below meth c ls hM hr hl hw hsz
  subst hsz
  have hl : lv_has ls 6 [(0, .ref (g.2.2 (k)))] := hl
  have hF := f_X1_goMinute.eq_1 κ k
  refine lv_iconst (v := 0) hM.x hM.b dX1_goMinute_0 (by decide) ?_
  refine lv_istore_n (lv' := [(1, .int (0)), (0, .ref (g.2.2 (k)))]) hM.x hM.b dX1_goMinute_1 rfl hl (by decide) rfl (fun ls hl => ?_)
  refine lv_aload_n hM.x hM.b dX1_goMinute_2 rfl (lv_at hl 1 rfl) ?_
  refine k_get1r 1 hM hw hk (by decide) u_fl_X1_19 dX1_goMinute_3 ?_
  refine lv_astore_n (lv' := [(2, .ref (g.2.2 (k + 2))), (1, .int (0)), (0, .ref (g.2.2 (k)))]) hM.x hM.b dX1_goMinute_6 rfl hl (by decide) rfl (fun ls hl => ?_)
  refine lv_aload_n hM.x hM.b dX1_goMinute_7 rfl (lv_at hl 0 rfl) ?_
  refine k_alen (v := nI 6) hM hw (hw.dm (kd1_8 hk) (by decide)) 3 (sh8 (kd1_8 hk)) rfl rfl dX1_goMinute_8 ?_
  refine lv_istore_n (lv' := [(3, .int (nI (6))), (2, .ref (g.2.2 (k + 2))), (1, .int (0)), (0, .ref (g.2.2 (k)))]) hM.x hM.b dX1_goMinute_9 rfl hl (by decide) rfl (fun ls hl => ?_)
  refine lv_iconst (v := nI 0) hM.x hM.b dX1_goMinute_10 (by decide) ?_
  refine lv_istore (lv' := [(4, .int (nI (0))), (3, .int (nI (6))), (2, .ref (g.2.2 (k + 2))), (1, .int (0)), (0, .ref (g.2.2 (k)))]) hM.x hM.b dX1_goMinute_11 hl (by decide) rfl (fun ls hl => ?_)
  refine ml_X1_goMinute_13 l g k hk hM (6) (0) (by omega) (0) κ _ _ _ (lv_sub hl [0, 1, 2, 3, 4] rfl) hw (fun uz1 κ1 H locs ls he hl hw => ?_)
  rw [he] at hF
  try dsimp only at hF
  refine lv_aload_n hM.x hM.b dX1_goMinute_43 rfl (lv_at hl 1 rfl) ?_
  refine k_get1r 0 hM hw hk (by decide) u_fl_X1_11 dX1_goMinute_44 ?_
  refine lv_astore_n (lv' := [(2, .ref (g.2.2 (k + 1))), (1, .int (uz1)), (0, .ref (g.2.2 (k)))]) hM.x hM.b dX1_goMinute_47 rfl hl (by decide) rfl (fun ls hl => ?_)
  refine lv_aload_n hM.x hM.b dX1_goMinute_48 rfl (lv_at hl 0 rfl) ?_
  refine k_alen (v := nI 3) hM hw (hw.dm (kd1_7 hk) (by decide)) 2 (sh7 (kd1_7 hk)) rfl rfl dX1_goMinute_49 ?_
  refine lv_istore_n (lv' := [(3, .int (nI (3))), (2, .ref (g.2.2 (k + 1))), (1, .int (uz1)), (0, .ref (g.2.2 (k)))]) hM.x hM.b dX1_goMinute_50 rfl hl (by decide) rfl (fun ls hl => ?_)
  refine lv_iconst (v := nI 0) hM.x hM.b dX1_goMinute_51 (by decide) ?_
  refine lv_istore (lv' := [(4, .int (nI (0))), (3, .int (nI (3))), (2, .ref (g.2.2 (k + 1))), (1, .int (uz1)), (0, .ref (g.2.2 (k)))]) hM.x hM.b dX1_goMinute_52 hl (by decide) rfl (fun ls hl => ?_)
  refine ml_X1_goMinute_54 l g k hk (uz1) hM (3) (0) (by omega) κ1 _ _ _ (lv_sub hl [0, 1, 2, 3, 4] rfl) hw (fun κ2 H locs ls he hl hw => ?_)
  rw [he] at hF
  try dsimp only at hF
  refine lv_aload_n hM.x hM.b dX1_goMinute_81 rfl (lv_at hl 1 rfl) ?_
  refine lv_dup hM.x hM.b dX1_goMinute_82 rfl ?_
  refine k_get1 6 hM hw hk (by decide) u_fl_X1_55 dX1_goMinute_83 ?_
  refine lv_iconst (v := 1) hM.x hM.b dX1_goMinute_86 (by decide) ?_
  refine lv_iadd hM.x hM.b dX1_goMinute_87 ?_
  refine k_put1 6 hM hw hk (by decide) u_fl_X1_55 dX1_goMinute_88 (fun H locs hw => ?_)
  obtain ⟨κ3, eκ3⟩ : ∃ z : Kp, up2 κ2 (k) 6 (((κ2 (k) 6) + (1))) = z := ⟨_, rfl⟩
  rw [eκ3] at hw
  rw [eκ3] at hF
  try dsimp only at hF
  refine lv_iload_n hM.x hM.b dX1_goMinute_91 rfl (lv_at hl 0 rfl) ?_
  exact k_iret hM hr hw (Nat.le_of_ble_eq_true rfl) (Nat.le_of_ble_eq_true rfl) hF dX1_goMinute_92
theorem q_X1_goMinutes : hdV yX1_goMinutes RX1 1 := ⟨rfl, by decide +kernel, by decide +kernel, by decide +kernel⟩
def lp_X1_goMinutes (k : Nat) (a : Int32) : Nat → Nat → Int32 → Kp → Int32 × Kp
  | 0, j, v2, κ => (v2, κ)
  | n + 1, j, v2, κ => match f_X1_goMinute κ (k) with | (r1, κ1) => (lp_X1_goMinutes (k) (a) n (j + 1) (((v2) + (r1))) κ1)
set_option maxRecDepth 100000 in
set_option maxHeartbeats 4000000 in
theorem ml_X1_goMinutes {p : Program} {e : Env} {s : State} {m : MethodId} {below : List Frame} {meth : Method} {c : Code} {Q : State → Prop} (l : Launch) (g : Gt) (k : Nat) (a : Int32) (hk : kd k = 1) (hM : Mc g p s m ([.ref (g.2.2 (k)), .int (a)] : List Value).toArray meth c cX1_goMinutes 4 yX1_goMinutes.cls) : ∀ (n j : Nat), j + n = a.toNatClampNeg → ∀ (v2 : Int32) (κ : Kp), ∀ (H : Heap) (locs : List Loc) (ls : Array Slot), lv_has ls 4 [(3, .int (nI (j))), (2, .int (v2)), (0, .ref (g.2.2 (k))), (1, .int (a))] → Ws g s κ H locs → (∀ (u2 : Int32) (κz : Kp) (H : Heap) (locs : List Loc) (ls : Array Slot), lp_X1_goMinutes k a n j v2 κ = (u2, κz) → lv_has ls 4 [(2, .int (u2)), (0, .ref (g.2.2 (k)))] → Ws g s κz H locs → W p l e { frames := 4, cells := 0, slots := 0, locals := 120 } s m ([.ref (g.2.2 (k)), .int (a)] : List Value).toArray below meth c H locs 0 0 Q (F0 m 22 ls [])) → W p l e { frames := 4, cells := 0, slots := 0, locals := 120 } s m ([.ref (g.2.2 (k)), .int (a)] : List Value).toArray below meth c H locs 0 0 Q (F0 m 4 ls []) := by
  intro n
  induction n with
  | zero =>
    intro j hj v2 κ H locs ls hl hw hx22
    have hF := Eq.refl (lp_X1_goMinutes k a 0 j v2 κ)
    conv at hF => rhs; rw [lp_X1_goMinutes]
    refine lv_iload_n hM.x hM.b dX1_goMinutes_4 rfl (lv_at hl 0 rfl) ?_
    refine lv_iload_n hM.x hM.b dX1_goMinutes_5 rfl (lv_at hl 3 rfl) ?_
    refine lv_icmp_ge (tgt := 22) hM.x hM.b dX1_goMinutes_6 (by decide) (fun _ => ?_) (fun cz => absurd (cl_ge hj) cz)
    exact hx22 (v2) κ H locs ls hF (lv_sub hl [1, 2] rfl) hw
  | succ n ih =>
    intro j hj v2 κ H locs ls hl hw hx22
    have hF := Eq.refl (lp_X1_goMinutes k a (n + 1) j v2 κ)
    conv at hF => rhs; rw [lp_X1_goMinutes]
    refine lv_iload_n hM.x hM.b dX1_goMinutes_4 rfl (lv_at hl 0 rfl) ?_
    refine lv_iload_n hM.x hM.b dX1_goMinutes_5 rfl (lv_at hl 3 rfl) ?_
    refine lv_icmp_ge (tgt := 22) hM.x hM.b dX1_goMinutes_6 (by decide) (fun cz => absurd cz (cl_lt hj)) (fun _ => ?_)
    refine lv_iload_n hM.x hM.b dX1_goMinutes_9 rfl (lv_at hl 1 rfl) ?_
    refine lv_aload_n hM.x hM.b dX1_goMinutes_10 rfl (lv_at hl 2 rfl) ?_
    refine k_ci hw (k_runV [] [.int (v2)] hM hw (m_X1_goMinute l g κ _ (k) (hk)) (hw.dm hk (by decide)) (sh1 hk) rfl (k_gV u_ml_X1_90 u_im_X1_goMinute u_se_X1_goMinute u_ini_X1 u_co_X1_goMinute) (q_X1_goMinute) rfl rfl rfl ⟨Nat.le_of_ble_eq_true rfl, Nat.le_of_ble_eq_true rfl⟩ hl.1 rfl (Nat.le_of_ble_eq_true rfl) dX1_goMinutes_11 ⟨Nat.le_of_ble_eq_true rfl, Nat.le_of_ble_eq_true rfl⟩) (fun r1 κ1 H locs hpκ1 hw => ?_)
    simp only [hpκ1] at hF
    refine lv_iadd hM.x hM.b dX1_goMinutes_14 ?_
    refine lv_istore_n (lv' := [(2, .int (((v2) + (r1)))), (3, .int (nI (j))), (0, .ref (g.2.2 (k))), (1, .int (a))]) hM.x hM.b dX1_goMinutes_15 rfl hl (by decide) rfl (fun ls hl => ?_)
    refine lv_iinc (v := nI (j + 1)) (lv' := [(3, .int (nI (j + 1))), (2, .int (((v2) + (r1)))), (0, .ref (g.2.2 (k))), (1, .int (a))]) hM.x hM.b dX1_goMinutes_16 hl (k := 1) rfl (nI_1 (j)) (by decide) rfl (fun ls hl => ?_)
    refine lv_goto (tgt := 4) hM.x hM.b dX1_goMinutes_19 (by decide) ?_
    exact ih (j + 1) (by omega) (((v2) + (r1))) κ1 H locs ls (lv_sub hl [0, 1, 2, 3] rfl) hw (fun u2 κz H locs ls he hl hw => hx22 u2 κz H locs ls (hF.trans he) hl hw)
def f_X1_goMinutes (κ : Kp) (k : Nat) (a : Int32) : Int32 × Kp := match lp_X1_goMinutes k a a.toNatClampNeg 0 (0) κ with | (uz1, κ1) => ((uz1, κ1))
set_option maxRecDepth 100000 in
set_option maxHeartbeats 4000000 in
theorem m_X1_goMinutes (l : Launch) (g : Gt) (κ : Kp) (sz : Nat) (k : Nat) (a : Int32) (hk : kd k = 1) : Met l yX1_goMinutes (.code yX1_goMinutes cX1_goMinutes 4 (some .int) :: uW) { frames := 4, cells := 0, slots := 0, locals := 120 } (PRE g κ sz [.ref (g.2.2 (k)), .int (a)]) (va_Qi (fun r κ' => f_X1_goMinutes κ k a = (r, κ')) (Wp g) (fr g sz)) 0 0 (fr g sz) := by
  refine k_enter (by decide +kernel) (Nat.le_of_ble_eq_true rfl) ?_
  intro p e s m below meth c ls hM hr hl hw hsz
  subst hsz
  have hl : lv_has ls 4 [(0, .ref (g.2.2 (k))), (1, .int (a))] := hl
  have hF := f_X1_goMinutes.eq_1 κ k a
  refine lv_iconst (v := 0) hM.x hM.b dX1_goMinutes_0 (by decide) ?_
  refine lv_istore_n (lv' := [(2, .int (0)), (0, .ref (g.2.2 (k))), (1, .int (a))]) hM.x hM.b dX1_goMinutes_1 rfl hl (by decide) rfl (fun ls hl => ?_)
  refine lv_iconst (v := nI 0) hM.x hM.b dX1_goMinutes_2 (by decide) ?_
  refine lv_istore_n (lv' := [(3, .int (nI (0))), (2, .int (0)), (0, .ref (g.2.2 (k))), (1, .int (a))]) hM.x hM.b dX1_goMinutes_3 rfl hl (by decide) rfl (fun ls hl => ?_)
  refine ml_X1_goMinutes l g k a hk hM (a.toNatClampNeg) (0) (by omega) (0) κ _ _ _ (lv_sub hl [0, 1, 2, 3] rfl) hw (fun uz1 κ1 H locs ls he hl hw => ?_)
  rw [he] at hF
  try dsimp only at hF
  refine lv_iload_n hM.x hM.b dX1_goMinutes_22 rfl (lv_at hl 0 rfl) ?_
  exact k_iret hM hr hw (Nat.le_of_ble_eq_true rfl) (Nat.le_of_ble_eq_true rfl) hF dX1_goMinutes_23
theorem q_X1_sumBrown : hdV yX1_sumBrown RX1 0 := ⟨rfl, by decide +kernel, by decide +kernel, by decide +kernel⟩
def lp_X1_sumBrown_38 (κ : Kp) (k : Nat) (i : Nat) : Nat → Nat → Int32 → Int32
  | 0, j, v1 => v1
  | n + 1, j, v1 => lp_X1_sumBrown_38 (κ) (k) (i) n (j + 1) (((v1) + (κ (k + 13 + 2 * (i) + 1) (j))))
set_option maxRecDepth 100000 in
set_option maxHeartbeats 4000000 in
theorem ml_X1_sumBrown_38 {p : Program} {e : Env} {s : State} {m : MethodId} {below : List Frame} {meth : Method} {c : Code} {Q : State → Prop} (l : Launch) (g : Gt) (κ : Kp) (k : Nat) (i : Nat) (hk : kd k = 1) (hi : i < 16) (hM : Mc g p s m ([.ref (g.2.2 (k))] : List Value).toArray meth c cX1_sumBrown 7 yX1_sumBrown.cls) : ∀ (n j : Nat), j + n = 4 → ∀ (v1 : Int32), ∀ (H : Heap) (locs : List Loc) (ls : Array Slot), lv_has ls 7 [(5, .int (nI (j))), (4, .int (nI (4))), (3, .ref (g.2.2 (k + 13 + 2 * (i) + 1))), (2, .int (nI (i))), (1, .int (v1)), (0, .ref (g.2.2 (k)))] → Ws g s κ H locs → (∀ (u1 : Int32) (H : Heap) (locs : List Loc) (ls : Array Slot), lp_X1_sumBrown_38 κ k i n j v1 = u1 → lv_has ls 7 [(2, .int (nI (i))), (1, .int (u1)), (0, .ref (g.2.2 (k)))] → Ws g s κ H locs → W p l e { frames := 0, cells := 0, slots := 0, locals := 0 } s m ([.ref (g.2.2 (k))] : List Value).toArray below meth c H locs 0 0 Q (F0 m 62 ls [])) → W p l e { frames := 0, cells := 0, slots := 0, locals := 0 } s m ([.ref (g.2.2 (k))] : List Value).toArray below meth c H locs 0 0 Q (F0 m 38 ls []) := by
  intro n
  induction n with
  | zero =>
    intro j hj v1 H locs ls hl hw hx62
    have hF := Eq.refl (lp_X1_sumBrown_38 κ k i 0 j v1)
    conv at hF => rhs; rw [lp_X1_sumBrown_38]
    refine lv_iload hM.x hM.b dX1_sumBrown_38 (lv_at hl 0 rfl) ?_
    refine lv_iload hM.x hM.b dX1_sumBrown_40 (lv_at hl 1 rfl) ?_
    refine lv_icmp_ge (tgt := 62) hM.x hM.b dX1_sumBrown_42 (by decide) (fun _ => ?_) (fun cz => absurd (nI_le (by omega) (by omega) : nI 4 ≤ nI j) cz)
    exact hx62 (v1) H locs ls hF (lv_sub hl [3, 4, 5] rfl) hw
  | succ n ih =>
    intro j hj v1 H locs ls hl hw hx62
    have hF := Eq.refl (lp_X1_sumBrown_38 κ k i (n + 1) j v1)
    conv at hF => rhs; rw [lp_X1_sumBrown_38]
    refine lv_iload hM.x hM.b dX1_sumBrown_38 (lv_at hl 0 rfl) ?_
    refine lv_iload hM.x hM.b dX1_sumBrown_40 (lv_at hl 1 rfl) ?_
    refine lv_icmp_ge (tgt := 62) hM.x hM.b dX1_sumBrown_42 (by decide) (fun cz => absurd cz (nI_ge (by omega) (by decide) : ¬ nI 4 ≤ nI j)) (fun _ => ?_)
    refine lv_aload_n hM.x hM.b dX1_sumBrown_45 rfl (lv_at hl 2 rfl) ?_
    refine lv_iload hM.x hM.b dX1_sumBrown_46 (lv_at hl 0 rfl) ?_
    refine k_ialdN (i := j) (n := 4) hM hw (hw.dm (kd2_6 (kd1_2 hk hi)) (by decide)) (sh6 (kd2_6 (kd1_2 hk hi))) (by omega) (by decide) dX1_sumBrown_48 ?_
    refine lv_istore (lv' := [(6, .int (κ (k + 13 + 2 * (i) + 1) (j))), (5, .int (nI (j))), (4, .int (nI (4))), (3, .ref (g.2.2 (k + 13 + 2 * (i) + 1))), (2, .int (nI (i))), (1, .int (v1)), (0, .ref (g.2.2 (k)))]) hM.x hM.b dX1_sumBrown_49 hl (by decide) rfl (fun ls hl => ?_)
    refine lv_iload_n hM.x hM.b dX1_sumBrown_51 rfl (lv_at hl 5 rfl) ?_
    refine lv_iload hM.x hM.b dX1_sumBrown_52 (lv_at hl 0 rfl) ?_
    refine lv_iadd hM.x hM.b dX1_sumBrown_54 ?_
    refine lv_istore_n (lv' := [(1, .int (((v1) + (κ (k + 13 + 2 * (i) + 1) (j))))), (6, .int (κ (k + 13 + 2 * (i) + 1) (j))), (5, .int (nI (j))), (4, .int (nI (4))), (3, .ref (g.2.2 (k + 13 + 2 * (i) + 1))), (2, .int (nI (i))), (0, .ref (g.2.2 (k)))]) hM.x hM.b dX1_sumBrown_55 rfl hl (by decide) rfl (fun ls hl => ?_)
    refine lv_iinc (v := nI (j + 1)) (lv' := [(5, .int (nI (j + 1))), (1, .int (((v1) + (κ (k + 13 + 2 * (i) + 1) (j))))), (6, .int (κ (k + 13 + 2 * (i) + 1) (j))), (4, .int (nI (4))), (3, .ref (g.2.2 (k + 13 + 2 * (i) + 1))), (2, .int (nI (i))), (0, .ref (g.2.2 (k)))]) hM.x hM.b dX1_sumBrown_56 hl (k := 2) rfl (nI_1 (j)) (by decide) rfl (fun ls hl => ?_)
    refine lv_goto (tgt := 38) hM.x hM.b dX1_sumBrown_59 (by decide) ?_
    exact ih (j + 1) (by omega) (((v1) + (κ (k + 13 + 2 * (i) + 1) (j)))) H locs ls (lv_sub hl [0, 3, 4, 5, 1, 6] rfl) hw (fun u1 H locs ls he hl hw => hx62 u1 H locs ls (hF.trans he) hl hw)
def lp_X1_sumBrown (κ : Kp) (k : Nat) : Nat → Nat → Int32 → Int32
  | 0, j, v1 => v1
  | n + 1, j, v1 => if (κ (k) 5) ≤ (nI (j)) then (v1) else ((fun uz1 : Int32 => lp_X1_sumBrown (κ) (k) n (j + 1) (uz1)) (lp_X1_sumBrown_38 κ k j 4 0 (v1)))
set_option maxRecDepth 100000 in
set_option maxHeartbeats 4000000 in
theorem ml_X1_sumBrown {p : Program} {e : Env} {s : State} {m : MethodId} {below : List Frame} {meth : Method} {c : Code} {Q : State → Prop} (l : Launch) (g : Gt) (κ : Kp) (k : Nat) (hk : kd k = 1) (hM : Mc g p s m ([.ref (g.2.2 (k))] : List Value).toArray meth c cX1_sumBrown 7 yX1_sumBrown.cls) : ∀ (n j : Nat), j + n = 16 → ∀ (v1 : Int32), ∀ (H : Heap) (locs : List Loc) (ls : Array Slot), lv_has ls 7 [(2, .int (nI (j))), (1, .int (v1)), (0, .ref (g.2.2 (k)))] → Ws g s κ H locs → (∀ (u1 : Int32) (H : Heap) (locs : List Loc) (ls : Array Slot), lp_X1_sumBrown κ k n j v1 = u1 → lv_has ls 7 [(1, .int (u1)), (0, .ref (g.2.2 (k)))] → Ws g s κ H locs → W p l e { frames := 0, cells := 0, slots := 0, locals := 0 } s m ([.ref (g.2.2 (k))] : List Value).toArray below meth c H locs 0 0 Q (F0 m 68 ls [])) → W p l e { frames := 0, cells := 0, slots := 0, locals := 0 } s m ([.ref (g.2.2 (k))] : List Value).toArray below meth c H locs 0 0 Q (F0 m 4 ls []) := by
  intro n
  induction n with
  | zero =>
    intro j hj v1 H locs ls hl hw hx68
    have hF := Eq.refl (lp_X1_sumBrown κ k 0 j v1)
    conv at hF => rhs; rw [lp_X1_sumBrown]
    refine lv_iload_n hM.x hM.b dX1_sumBrown_4 rfl (lv_at hl 0 rfl) ?_
    refine lv_aload_n hM.x hM.b dX1_sumBrown_5 rfl (lv_at hl 2 rfl) ?_
    refine k_get1r 2 hM hw hk (by decide) u_fl_X1_25 dX1_sumBrown_6 ?_
    refine k_alen (v := nI 16) hM hw (hw.dm (kd1_9 hk) (by decide)) 4 (sh9 (kd1_9 hk)) rfl rfl dX1_sumBrown_9 ?_
    refine lv_icmp_ge (tgt := 68) hM.x hM.b dX1_sumBrown_10 (by decide) (fun _ => ?_) (fun cz => absurd (nI_le (by omega) (by omega) : nI 16 ≤ nI j) cz)
    exact hx68 (v1) H locs ls hF (lv_sub hl [1, 2] rfl) hw
  | succ n ih =>
    intro j hj v1 H locs ls hl hw hx68
    have hF := Eq.refl (lp_X1_sumBrown κ k (n + 1) j v1)
    conv at hF => rhs; rw [lp_X1_sumBrown]
    refine lv_iload_n hM.x hM.b dX1_sumBrown_4 rfl (lv_at hl 0 rfl) ?_
    refine lv_aload_n hM.x hM.b dX1_sumBrown_5 rfl (lv_at hl 2 rfl) ?_
    refine k_get1r 2 hM hw hk (by decide) u_fl_X1_25 dX1_sumBrown_6 ?_
    refine k_alen (v := nI 16) hM hw (hw.dm (kd1_9 hk) (by decide)) 4 (sh9 (kd1_9 hk)) rfl rfl dX1_sumBrown_9 ?_
    refine lv_icmp_ge (tgt := 68) hM.x hM.b dX1_sumBrown_10 (by decide) (fun cz => absurd cz (nI_ge (by omega) (by decide) : ¬ nI 16 ≤ nI j)) (fun _ => ?_)
    refine lv_iload_n hM.x hM.b dX1_sumBrown_13 rfl (lv_at hl 0 rfl) ?_
    refine lv_aload_n hM.x hM.b dX1_sumBrown_14 rfl (lv_at hl 2 rfl) ?_
    refine k_get1 5 hM hw hk (by decide) u_fl_X1_52 dX1_sumBrown_15 ?_
    refine lv_icmp_ge (tgt := 68) hM.x hM.b dX1_sumBrown_18 (by decide) (fun c1 => ?_) (fun c1 => ?_)
    · rw [if_pos c1] at hF
      exact hx68 (v1) H locs ls hF (lv_sub hl [1, 2] rfl) hw
    · rw [if_neg c1] at hF
      refine lv_aload_n hM.x hM.b dX1_sumBrown_21 rfl (lv_at hl 2 rfl) ?_
      refine k_get1r 2 hM hw hk (by decide) u_fl_X1_25 dX1_sumBrown_22 ?_
      refine lv_iload_n hM.x hM.b dX1_sumBrown_25 rfl (lv_at hl 0 rfl) ?_
      refine k_ald9N (i := j) hM hw hk (by omega) dX1_sumBrown_26 ?_
      refine k_get2r hM hw (kd1_2 hk (by omega)) u_fl_X1_134 dX1_sumBrown_27 ?_
      refine lv_astore_n (lv' := [(3, .ref (g.2.2 (k + 13 + 2 * (j) + 1))), (2, .int (nI (j))), (1, .int (v1)), (0, .ref (g.2.2 (k)))]) hM.x hM.b dX1_sumBrown_30 rfl hl (by decide) rfl (fun ls hl => ?_)
      refine lv_aload_n hM.x hM.b dX1_sumBrown_31 rfl (lv_at hl 0 rfl) ?_
      refine k_alen (v := nI 4) hM hw (hw.dm (kd2_6 (kd1_2 hk (by omega))) (by decide)) 0 (sh6 (kd2_6 (kd1_2 hk (by omega)))) rfl rfl dX1_sumBrown_32 ?_
      refine lv_istore (lv' := [(4, .int (nI (4))), (3, .ref (g.2.2 (k + 13 + 2 * (j) + 1))), (2, .int (nI (j))), (1, .int (v1)), (0, .ref (g.2.2 (k)))]) hM.x hM.b dX1_sumBrown_33 hl (by decide) rfl (fun ls hl => ?_)
      refine lv_iconst (v := nI 0) hM.x hM.b dX1_sumBrown_35 (by decide) ?_
      refine lv_istore (lv' := [(5, .int (nI (0))), (4, .int (nI (4))), (3, .ref (g.2.2 (k + 13 + 2 * (j) + 1))), (2, .int (nI (j))), (1, .int (v1)), (0, .ref (g.2.2 (k)))]) hM.x hM.b dX1_sumBrown_36 hl (by decide) rfl (fun ls hl => ?_)
      refine ml_X1_sumBrown_38 l g κ k j hk (by omega) hM (4) (0) (by omega) (v1) _ _ _ (lv_sub hl [0, 1, 2, 3, 4, 5] rfl) hw (fun uz1 H locs ls he hl hw => ?_)
      rw [he] at hF
      try dsimp only at hF
      refine lv_iinc (v := nI (j + 1)) (lv' := [(2, .int (nI (j + 1))), (1, .int (uz1)), (0, .ref (g.2.2 (k)))]) hM.x hM.b dX1_sumBrown_62 hl (k := 0) rfl (nI_1 (j)) (by decide) rfl (fun ls hl => ?_)
      refine lv_goto (tgt := 4) hM.x hM.b dX1_sumBrown_65 (by decide) ?_
      exact ih (j + 1) (by omega) (uz1) H locs ls (lv_sub hl [0, 1, 2] rfl) hw (fun u1 H locs ls he hl hw => hx68 u1 H locs ls (hF.trans he) hl hw)
def f_X1_sumBrown (κ : Kp) (k : Nat) : Int32 := (fun uz1 : Int32 => uz1) (lp_X1_sumBrown κ k 16 0 (0))
set_option maxRecDepth 100000 in
set_option maxHeartbeats 4000000 in
theorem m_X1_sumBrown (l : Launch) (g : Gt) (κ : Kp) (sz : Nat) (k : Nat) (hk : kd k = 1) : Met l yX1_sumBrown (.code yX1_sumBrown cX1_sumBrown 7 (some .int) :: uW) { frames := 0, cells := 0, slots := 0, locals := 0 } (PRE g κ sz [.ref (g.2.2 (k))]) (va_Qi (fun r κ' => r = f_X1_sumBrown κ k ∧ κ' = κ) (Wp g) (fr g sz)) 0 0 (fr g sz) := by
  refine k_enter (by decide +kernel) (Nat.le_of_ble_eq_true rfl) ?_
  intro p e s m below meth c ls hM hr hl hw hsz
  subst hsz
  have hl : lv_has ls 7 [(0, .ref (g.2.2 (k)))] := hl
  have hF := f_X1_sumBrown.eq_1 κ k
  refine lv_iconst (v := 0) hM.x hM.b dX1_sumBrown_0 (by decide) ?_
  refine lv_istore_n (lv' := [(1, .int (0)), (0, .ref (g.2.2 (k)))]) hM.x hM.b dX1_sumBrown_1 rfl hl (by decide) rfl (fun ls hl => ?_)
  refine lv_iconst (v := nI 0) hM.x hM.b dX1_sumBrown_2 (by decide) ?_
  refine lv_istore_n (lv' := [(2, .int (nI (0))), (1, .int (0)), (0, .ref (g.2.2 (k)))]) hM.x hM.b dX1_sumBrown_3 rfl hl (by decide) rfl (fun ls hl => ?_)
  refine ml_X1_sumBrown l g κ k hk hM (16) (0) (by omega) (0) _ _ _ (lv_sub hl [0, 1, 2] rfl) hw (fun uz1 H locs ls he hl hw => ?_)
  rw [he] at hF
  try dsimp only at hF
  refine lv_iload_n hM.x hM.b dX1_sumBrown_68 rfl (lv_at hl 0 rfl) ?_
  exact k_iret hM hr hw (Nat.le_of_ble_eq_true rfl) (Nat.le_of_ble_eq_true rfl) ⟨hF.symm, rfl⟩ dX1_sumBrown_69
