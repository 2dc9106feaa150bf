theorem q_X5_pass : hdV yX5_pass RX5 1 := ⟨rfl, by decide +kernel, by decide +kernel, by decide +kernel⟩
def lp_X5_pass (a : Int32) : Nat → Nat → Int32 → Kp → Int32 × Kp
  | 0, j, v2, κ => (v2, κ)
  | n + 1, j, v2, κ => match f_X5_minuteOn κ with | (r1, κ1) => (lp_X5_pass (a) n (j + 1) (((v2) + (r1))) κ1)
set_option maxRecDepth 100000 in
set_option maxHeartbeats 4000000 in
theorem ml_X5_pass {p : Program} {e : Env} {s : State} {m : MethodId} {below : List Frame} {meth : Method} {c : Code} {Q : State → Prop} (l : Launch) (g : Gt) (a : Int32)  (hM : Mc g p s m ([.ref (g.2.2 (91)), .int (a)] : List Value).toArray meth c cX5_pass 4 yX5_pass.cls) : ∀ (n j : Nat), j + n = a.toNatClampNeg → ∀ (v2 : Int32) (κ : Kp), MI κ → ∀ (H : Heap) (locs : List Loc) (ls : Array Slot), lv_has ls 4 [(3, .int (nI (j))), (2, .int (v2)), (0, .ref (g.2.2 (91))), (1, .int (a))] → Ws g s κ H locs → (∀ (u2 : Int32) (κz : Kp) (H : Heap) (locs : List Loc) (ls : Array Slot), lp_X5_pass a n j v2 κ = (u2, κz) → lv_has ls 4 [(2, .int (u2)), (0, .ref (g.2.2 (91)))] → MI κz → Ws g s κz H locs → W p l e { frames := 4, cells := 0, slots := 0, locals := 120 } s m ([.ref (g.2.2 (91)), .int (a)] : List Value).toArray below meth c H locs 0 0 Q (F0 m 44 ls [])) → W p l e { frames := 4, cells := 0, slots := 0, locals := 120 } s m ([.ref (g.2.2 (91)), .int (a)] : List Value).toArray below meth c H locs 0 0 Q (F0 m 26 ls []) := by
  intro n
  induction n with
  | zero =>
    intro j hj v2 κ hinv H locs ls hl hw hx44
    have hF := Eq.refl (lp_X5_pass a 0 j v2 κ)
    conv at hF => rhs; rw [lp_X5_pass]
    refine lv_iload_n hM.x hM.b dX5_pass_26 rfl (lv_at hl 0 rfl) ?_
    refine lv_iload_n hM.x hM.b dX5_pass_27 rfl (lv_at hl 3 rfl) ?_
    refine lv_icmp_ge (tgt := 44) hM.x hM.b dX5_pass_28 (by decide) (fun _ => ?_) (fun cz => absurd (cl_ge hj) cz)
    exact hx44 (v2) κ H locs ls hF (lv_sub hl [1, 2] rfl) (hinv) hw
  | succ n ih =>
    intro j hj v2 κ hinv H locs ls hl hw hx44
    have hF := Eq.refl (lp_X5_pass a (n + 1) j v2 κ)
    conv at hF => rhs; rw [lp_X5_pass]
    refine lv_iload_n hM.x hM.b dX5_pass_26 rfl (lv_at hl 0 rfl) ?_
    refine lv_iload_n hM.x hM.b dX5_pass_27 rfl (lv_at hl 3 rfl) ?_
    refine lv_icmp_ge (tgt := 44) hM.x hM.b dX5_pass_28 (by decide) (fun cz => absurd cz (cl_lt hj)) (fun _ => ?_)
    refine lv_iload_n hM.x hM.b dX5_pass_31 rfl (lv_at hl 1 rfl) ?_
    refine lv_aload_n hM.x hM.b dX5_pass_32 rfl (lv_at hl 2 rfl) ?_
    refine k_ci hw (k_runV [] [.int (v2)] hM hw (m_X5_minuteOn l g κ _ hinv) (kd_lt kd_91 (by decide)) (sh5 kd_91) rfl (k_gV u_ml_X5_122 u_im_X5_minuteOn u_se_X5_minuteOn u_ini_X5 u_co_X5_minuteOn) (q_X5_minuteOn) rfl rfl rfl ⟨Nat.le_of_ble_eq_true rfl, Nat.le_of_ble_eq_true rfl⟩ hl.1 rfl (Nat.le_of_ble_eq_true rfl) dX5_pass_33 ⟨Nat.le_of_ble_eq_true rfl, Nat.le_of_ble_eq_true rfl⟩) (fun r1 κ1 H locs hpκ1 hw => ?_)
    simp only [hpκ1] at hF
    refine lv_iadd hM.x hM.b dX5_pass_36 ?_
    refine lv_istore_n (lv' := [(2, .int (((v2) + (r1)))), (3, .int (nI (j))), (0, .ref (g.2.2 (91))), (1, .int (a))]) hM.x hM.b dX5_pass_37 rfl hl (by decide) rfl (fun ls hl => ?_)
    refine lv_iinc (v := nI (j + 1)) (lv' := [(3, .int (nI (j + 1))), (2, .int (((v2) + (r1)))), (0, .ref (g.2.2 (91))), (1, .int (a))]) hM.x hM.b dX5_pass_38 hl (k := 1) rfl (nI_1 (j)) (by decide) rfl (fun ls hl => ?_)
    refine lv_goto (tgt := 26) hM.x hM.b dX5_pass_41 (by decide) ?_
    exact ih (j + 1) (by omega) (((v2) + (r1))) κ1 ((MI_minuteOn hpκ1 hinv)) H locs ls (lv_sub hl [0, 1, 2, 3] rfl) hw (fun u2 κz H locs ls he hl hiz hw => hx44 u2 κz H locs ls (hF.trans he) hl hiz hw)
def f_X5_pass (κ : Kp) (a : Int32) : Int32 × Kp := (fun κ1 : Kp => if (bi (f_X5_isIn (a) (1) (200))) = 0 then (match f_X5_fail κ1 (1) with | (r1, κ3) => ((r1, κ3))) else (match lp_X5_pass a a.toNatClampNeg 0 (0) κ1 with | (uz1, κ2) => ((uz1, κ2)))) (up2 κ (91) 0 (0))
set_option maxRecDepth 100000 in
set_option maxHeartbeats 4000000 in
theorem m_X5_pass (l : Launch) (g : Gt) (κ : Kp) (sz : Nat) (a : Int32) (hMI : MI κ) : Met l yX5_pass (.code yX5_pass cX5_pass 4 (some .int) :: uW) { frames := 4, cells := 0, slots := 0, locals := 120 } (PRE g κ sz [.ref (g.2.2 (91)), .int (a)]) (va_Qi (fun r κ' => f_X5_pass κ a = (r, κ')) (Wp g) (fr g sz)) 0 0 (fr g sz) := by
  refine k_enter (by decide +kernel) (Nat.le_of_ble_eq_true rfl) ?_
  intro p e s m below meth c ls hM hr hl hw hsz
  subst hsz
  have hl : lv_has ls 4 [(0, .ref (g.2.2 (91))), (1, .int (a))] := hl
  have hF := f_X5_pass.eq_1 κ a
  refine lv_aload_n hM.x hM.b dX5_pass_0 rfl (lv_at hl 0 rfl) ?_
  refine lv_iconst (v := 0) hM.x hM.b dX5_pass_1 (by decide) ?_
  refine k_put5 0 hM hw (by decide) u_fl_X5_32 dX5_pass_2 (fun H locs hw => ?_)
  obtain ⟨κ1, eκ1⟩ : ∃ z : Kp, up2 κ (91) 0 (0) = z := ⟨_, rfl⟩
  rw [eκ1] at hw
  rw [eκ1] at hF
  try dsimp only at hF
  refine lv_iload_n hM.x hM.b dX5_pass_5 rfl (lv_at hl 1 rfl) ?_
  refine lv_iconst (v := 1) hM.x hM.b dX5_pass_6 (by decide) ?_
  refine lv_sipush (v := 200) hM.x hM.b dX5_pass_7 (by decide) ?_
  refine k_cip hw (k_runS [.int (a), .int (1), .int (200)] [] hM hw (m_X5_isIn l g κ1 _ (a) (1) (200)) (k_gS u_ml_X5_38 u_st_X5_isIn u_ini_X5 u_co_X5_isIn) (q_X5_isIn) rfl rfl rfl ⟨Nat.le_of_ble_eq_true rfl, Nat.le_of_ble_eq_true rfl⟩ hl.1 rfl (Nat.le_of_ble_eq_true rfl) dX5_pass_10 ⟨Nat.le_of_ble_eq_true rfl, Nat.le_of_ble_eq_true rfl⟩) (fun H locs hw => ?_)
  refine lv_if_ne (tgt := 22) hM.x hM.b dX5_pass_13 (by decide) (fun c1 => ?_) (fun c1 => ?_)
  · rw [if_neg c1] at hF
    refine lv_iconst (v := 0) hM.x hM.b dX5_pass_22 (by decide) ?_
    refine lv_istore_n (lv' := [(2, .int (0)), (0, .ref (g.2.2 (91))), (1, .int (a))]) hM.x hM.b dX5_pass_23 rfl hl (by decide) rfl (fun ls hl => ?_)
    refine lv_iconst (v := nI 0) hM.x hM.b dX5_pass_24 (by decide) ?_
    refine lv_istore_n (lv' := [(3, .int (nI (0))), (2, .int (0)), (0, .ref (g.2.2 (91))), (1, .int (a))]) hM.x hM.b dX5_pass_25 rfl hl (by decide) rfl (fun ls hl => ?_)
    refine ml_X5_pass l g a  hM (a.toNatClampNeg) (0) (by omega) (0) κ1 ((MI_th eκ1 hMI)) _ _ _ (lv_sub hl [0, 1, 2, 3] rfl) hw (fun uz1 κ2 H locs ls he hl hiκ2 hw => ?_)
    rw [he] at hF
    try dsimp only at hF
    refine lv_iload_n hM.x hM.b dX5_pass_44 rfl (lv_at hl 0 rfl) ?_
    exact k_iret hM hr hw (Nat.le_of_ble_eq_true rfl) (Nat.le_of_ble_eq_true rfl) hF dX5_pass_45
  · rw [if_pos c1] at hF
    refine lv_aload_n hM.x hM.b dX5_pass_16 rfl (lv_at hl 0 rfl) ?_
    refine lv_iconst (v := 1) hM.x hM.b dX5_pass_17 (by decide) ?_
    refine k_ci hw (k_runV [.int (1)] [] hM hw (m_X5_fail l g κ1 _ (1)) (kd_lt kd_91 (by decide)) (sh5 kd_91) rfl (k_gV u_ml_X5_103 u_im_X5_fail u_se_X5_fail u_ini_X5 u_co_X5_fail) (q_X5_fail) rfl rfl rfl ⟨Nat.le_of_ble_eq_true rfl, Nat.le_of_ble_eq_true rfl⟩ hl.1 rfl (Nat.le_of_ble_eq_true rfl) dX5_pass_18 ⟨Nat.le_of_ble_eq_true rfl, Nat.le_of_ble_eq_true rfl⟩) (fun r1 κ3 H locs hpκ3 hw => ?_)
    simp only [hpκ3] at hF
    exact k_iret hM hr hw (Nat.le_of_ble_eq_true rfl) (Nat.le_of_ble_eq_true rfl) hF dX5_pass_21
theorem q_X5_until : hdV yX5_until RX5 2 := ⟨rfl, by decide +kernel, by decide +kernel, by decide +kernel⟩
def lp_X5_until (a : Int32) (b : Int32) : Nat → Nat → Kp → Nat × Kp
  | 0, j, κ => (j, κ)
  | n + 1, j, κ => if (b) = 0 then (if (bi (f_X5_done κ (a))) = 0 then (match f_X5_minuteOn κ with | (r1, κ1) => (lp_X5_until (a) (b) n (j + 1) κ1)) else ((j, κ))) else (if (bi (f_X5_burnt κ (a))) = 0 then (match f_X5_minuteOn κ with | (r2, κ2) => (lp_X5_until (a) (b) n (j + 1) κ2)) else ((j, κ)))
set_option maxRecDepth 100000 in
set_option maxHeartbeats 4000000 in
theorem ml_X5_until {p : Program} {e : Env} {s : State} {m : MethodId} {below : List Frame} {meth : Method} {c : Code} {Q : State → Prop} (l : Launch) (g : Gt) (a : Int32) (b : Int32) (ha : vp_in a 16) (hM : Mc g p s m ([.ref (g.2.2 (91)), .int (a), .int (b)] : List Value).toArray meth c cX5_until 4 yX5_until.cls) : ∀ (n j : Nat), j + n = 201 → ∀ (κ : Kp), MI κ → ∀ (H : Heap) (locs : List Loc) (ls : Array Slot), lv_has ls 4 [(3, .int (nI (j))), (0, .ref (g.2.2 (91))), (1, .int (a)), (2, .int (b))] → Ws g s κ H locs → (∀ (u : Nat) (κz : Kp) (H : Heap) (locs : List Loc) (ls : Array Slot), lp_X5_until a b n j κ = (u, κz) → lv_has ls 4 [(3, .int (nI (u))), (0, .ref (g.2.2 (91)))] → MI κz → Ws g s κz H locs → W p l e { frames := 4, cells := 0, slots := 0, locals := 120 } s m ([.ref (g.2.2 (91)), .int (a), .int (b)] : List Value).toArray below meth c H locs 0 0 Q (F0 m 43 ls [])) → W p l e { frames := 4, cells := 0, slots := 0, locals := 120 } s m ([.ref (g.2.2 (91)), .int (a), .int (b)] : List Value).toArray below meth c H locs 0 0 Q (F0 m 2 ls []) := by
  intro n
  induction n with
  | zero =>
    intro j hj κ hinv H locs ls hl hw hx43
    have hF := Eq.refl (lp_X5_until a b 0 j κ)
    conv at hF => rhs; rw [lp_X5_until]
    refine lv_iload_n hM.x hM.b dX5_until_2 rfl (lv_at hl 0 rfl) ?_
    refine lv_sipush (v := nI 200) hM.x hM.b dX5_until_3 (by decide) ?_
    refine lv_icmp_gt (tgt := 43) hM.x hM.b dX5_until_6 (by decide) (fun _ => ?_) (fun cz => absurd (nI_lt (by omega) (by omega) : nI 200 < nI j) cz)
    exact hx43 (j) κ H locs ls hF (lv_sub hl [0, 1] rfl) (hinv) hw
  | succ n ih =>
    intro j hj κ hinv H locs ls hl hw hx43
    have hF := Eq.refl (lp_X5_until a b (n + 1) j κ)
    conv at hF => rhs; rw [lp_X5_until]
    refine lv_iload_n hM.x hM.b dX5_until_2 rfl (lv_at hl 0 rfl) ?_
    refine lv_sipush (v := nI 200) hM.x hM.b dX5_until_3 (by decide) ?_
    refine lv_icmp_gt (tgt := 43) hM.x hM.b dX5_until_6 (by decide) (fun cz => absurd cz (nI_nlt (by omega) (by decide) : ¬ nI 200 < nI j)) (fun _ => ?_)
    refine lv_iload_n hM.x hM.b dX5_until_9 rfl (lv_at hl 3 rfl) ?_
    refine lv_if_eq (tgt := 24) hM.x hM.b dX5_until_10 (by decide) (fun c1 => ?_) (fun c1 => ?_)
    · rw [if_pos c1] at hF
      refine lv_aload_n hM.x hM.b dX5_until_24 rfl (lv_at hl 1 rfl) ?_
      refine lv_iload_n hM.x hM.b dX5_until_25 rfl (lv_at hl 2 rfl) ?_
      refine k_cip hw (k_runV [.int (a)] [] hM hw (m_X5_done l g κ _ (a) ha) (kd_lt kd_91 (by decide)) (sh5 kd_91) rfl (k_gV u_ml_X5_141 u_im_X5_done u_se_X5_done u_ini_X5 u_co_X5_done) (q_X5_done) rfl rfl rfl ⟨Nat.le_of_ble_eq_true rfl, Nat.le_of_ble_eq_true rfl⟩ hl.1 rfl (Nat.le_of_ble_eq_true rfl) dX5_until_26 ⟨Nat.le_of_ble_eq_true rfl, Nat.le_of_ble_eq_true rfl⟩) (fun H locs hw => ?_)
      refine lv_if_ne (tgt := 43) hM.x hM.b dX5_until_29 (by decide) (fun c2 => ?_) (fun c2 => ?_)
      · rw [if_neg c2] at hF
        exact hx43 (j) κ H locs ls hF (lv_sub hl [0, 1] rfl) (hinv) hw
      · rw [if_pos c2] at hF
        refine lv_aload_n hM.x hM.b dX5_until_32 rfl (lv_at hl 1 rfl) ?_
        refine k_ci hw (k_runV [] [] hM hw (m_X5_minuteOn l g κ _ hinv) (kd_lt kd_91 (by decide)) (sh5 kd_91) rfl (k_gV u_ml_X5_122 u_im_X5_minuteOn u_se_X5_minuteOn u_ini_X5 u_co_X5_minuteOn) (q_X5_minuteOn) rfl rfl rfl ⟨Nat.le_of_ble_eq_true rfl, Nat.le_of_ble_eq_true rfl⟩ hl.1 rfl (Nat.le_of_ble_eq_true rfl) dX5_until_33 ⟨Nat.le_of_ble_eq_true rfl, Nat.le_of_ble_eq_true rfl⟩) (fun r1 κ1 H locs hpκ1 hw => ?_)
        simp only [hpκ1] at hF
        refine lv_pop hM.x hM.b dX5_until_36 rfl ?_
        refine lv_iinc (v := nI (j + 1)) (lv' := [(3, .int (nI (j + 1))), (0, .ref (g.2.2 (91))), (1, .int (a)), (2, .int (b))]) hM.x hM.b dX5_until_37 hl (k := 0) rfl (nI_1 (j)) (by decide) rfl (fun ls hl => ?_)
        refine lv_goto (tgt := 2) hM.x hM.b dX5_until_40 (by decide) ?_
        exact ih (j + 1) (by omega) κ1 ((MI_minuteOn hpκ1 hinv)) H locs ls (lv_sub hl [0, 1, 2, 3] rfl) hw (fun u κz H locs ls he hl hiz hw => hx43 u κz H locs ls (hF.trans he) hl hiz hw)
    · rw [if_neg c1] at hF
      refine lv_aload_n hM.x hM.b dX5_until_13 rfl (lv_at hl 1 rfl) ?_
      refine lv_iload_n hM.x hM.b dX5_until_14 rfl (lv_at hl 2 rfl) ?_
      refine k_cip hw (k_runV [.int (a)] [] hM hw (m_X5_burnt l g κ _ (a) ha) (kd_lt kd_91 (by decide)) (sh5 kd_91) rfl (k_gV u_ml_X5_144 u_im_X5_burnt u_se_X5_burnt u_ini_X5 u_co_X5_burnt) (q_X5_burnt) rfl rfl rfl ⟨Nat.le_of_ble_eq_true rfl, Nat.le_of_ble_eq_true rfl⟩ hl.1 rfl (Nat.le_of_ble_eq_true rfl) dX5_until_15 ⟨Nat.le_of_ble_eq_true rfl, Nat.le_of_ble_eq_true rfl⟩) (fun H locs hw => ?_)
      refine lv_if_eq (tgt := 32) hM.x hM.b dX5_until_18 (by decide) (fun c3 => ?_) (fun c3 => ?_)
      · rw [if_pos c3] at hF
        refine lv_aload_n hM.x hM.b dX5_until_32 rfl (lv_at hl 1 rfl) ?_
        refine k_ci hw (k_runV [] [] hM hw (m_X5_minuteOn l g κ _ hinv) (kd_lt kd_91 (by decide)) (sh5 kd_91) rfl (k_gV u_ml_X5_122 u_im_X5_minuteOn u_se_X5_minuteOn u_ini_X5 u_co_X5_minuteOn) (q_X5_minuteOn) rfl rfl rfl ⟨Nat.le_of_ble_eq_true rfl, Nat.le_of_ble_eq_true rfl⟩ hl.1 rfl (Nat.le_of_ble_eq_true rfl) dX5_until_33 ⟨Nat.le_of_ble_eq_true rfl, Nat.le_of_ble_eq_true rfl⟩) (fun r2 κ2 H locs hpκ2 hw => ?_)
        simp only [hpκ2] at hF
        refine lv_pop hM.x hM.b dX5_until_36 rfl ?_
        refine lv_iinc (v := nI (j + 1)) (lv' := [(3, .int (nI (j + 1))), (0, .ref (g.2.2 (91))), (1, .int (a)), (2, .int (b))]) hM.x hM.b dX5_until_37 hl (k := 0) rfl (nI_1 (j)) (by decide) rfl (fun ls hl => ?_)
        refine lv_goto (tgt := 2) hM.x hM.b dX5_until_40 (by decide) ?_
        exact ih (j + 1) (by omega) κ2 ((MI_minuteOn hpκ2 hinv)) H locs ls (lv_sub hl [0, 1, 2, 3] rfl) hw (fun u κz H locs ls he hl hiz hw => hx43 u κz H locs ls (hF.trans he) hl hiz hw)
      · rw [if_neg c3] at hF
        refine lv_goto (tgt := 43) hM.x hM.b dX5_until_21 (by decide) ?_
        exact hx43 (j) κ H locs ls hF (lv_sub hl [0, 1] rfl) (hinv) hw
def f_X5_until (κ : Kp) (a : Int32) (b : Int32) : Int32 × Kp := match lp_X5_until a b 201 0 κ with | (uz1, κ1) => ((fun κ2 : Kp => if (nI (uz1)) ≤ (nI (200)) then ((nI (uz1), κ2)) else (((-1), κ2))) (f_X5_bringBack κ1))
set_option maxRecDepth 100000 in
set_option maxHeartbeats 4000000 in
theorem m_X5_until (l : Launch) (g : Gt) (κ : Kp) (sz : Nat) (a : Int32) (b : Int32) (ha : vp_in a 16) (hMI : MI κ) : Met l yX5_until (.code yX5_until cX5_until 4 (some .int) :: uW) { frames := 4, cells := 0, slots := 0, locals := 120 } (PRE g κ sz [.ref (g.2.2 (91)), .int (a), .int (b)]) (va_Qi (fun r κ' => f_X5_until κ a b = (r, κ')) (Wp g) (fr g sz)) 0 0 (fr g sz) := by
  refine k_enter (by decide +kernel) (Nat.le_of_ble_eq_true rfl) ?_
  intro p e s m below meth c ls hM hr hl hw hsz
  subst hsz
  have hl : lv_has ls 4 [(0, .ref (g.2.2 (91))), (1, .int (a)), (2, .int (b))] := hl
  have hF := f_X5_until.eq_1 κ a b
  refine lv_iconst (v := nI 0) hM.x hM.b dX5_until_0 (by decide) ?_
  refine lv_istore_n (lv' := [(3, .int (nI (0))), (0, .ref (g.2.2 (91))), (1, .int (a)), (2, .int (b))]) hM.x hM.b dX5_until_1 rfl hl (by decide) rfl (fun ls hl => ?_)
  refine ml_X5_until l g a b ha hM (201) (0) (by omega) κ (hMI) _ _ _ (lv_sub hl [0, 1, 2, 3] rfl) hw (fun uz1 κ1 H locs ls he hl hiκ1 hw => ?_)
  rw [he] at hF
  try dsimp only at hF
  refine lv_aload_n hM.x hM.b dX5_until_43 rfl (lv_at hl 1 rfl) ?_
  refine k_cvp hw (k_runV [] [] hM hw (m_X5_bringBack l g κ1 _) (kd_lt kd_91 (by decide)) (sh5 kd_91) rfl (k_gV u_ml_X5_147 u_im_X5_bringBack u_se_X5_bringBack u_ini_X5 u_co_X5_bringBack) (q_X5_bringBack) rfl rfl rfl ⟨Nat.le_of_ble_eq_true rfl, Nat.le_of_ble_eq_true rfl⟩ hl.1 rfl (Nat.le_of_ble_eq_true rfl) dX5_until_44 ⟨Nat.le_of_ble_eq_true rfl, Nat.le_of_ble_eq_true rfl⟩) (fun κ2 H locs eκ2 hw => ?_)
  rw [eκ2] at hF
  try dsimp only at hF
  refine lv_iload_n hM.x hM.b dX5_until_47 rfl (lv_at hl 0 rfl) ?_
  refine lv_sipush (v := nI 200) hM.x hM.b dX5_until_48 (by decide) ?_
  refine lv_icmp_le (tgt := 58) hM.x hM.b dX5_until_51 (by decide) (fun c1 => ?_) (fun c1 => ?_)
  · rw [if_pos c1] at hF
    refine lv_iload_n hM.x hM.b dX5_until_58 rfl (lv_at hl 0 rfl) ?_
    exact k_iret hM hr hw (Nat.le_of_ble_eq_true rfl) (Nat.le_of_ble_eq_true rfl) hF dX5_until_59
  · rw [if_neg c1] at hF
    refine lv_iconst (v := -1) hM.x hM.b dX5_until_54 (by decide) ?_
    refine lv_goto (tgt := 59) hM.x hM.b dX5_until_55 (by decide) ?_
    exact k_iret hM hr hw (Nat.le_of_ble_eq_true rfl) (Nat.le_of_ble_eq_true rfl) hF dX5_until_59
theorem q_X5_minutesUntilDone : hdV yX5_minutesUntilDone RX5 1 := ⟨rfl, by decide +kernel, by decide +kernel, by decide +kernel⟩
def f_X5_minutesUntilDone (κ : Kp) (a : Int32) : Int32 × Kp := (fun κ1 : Kp => if (bi (f_X5_isRoast κ1 (a))) = 0 then (match f_X5_fail κ1 (1) with | (r2, κ4) => ((r2, κ4))) else ((fun κ2 : Kp => match f_X5_until κ2 (a) (0) with | (r1, κ3) => ((r1, κ3))) (f_X5_keep κ1))) (up2 κ (91) 0 (0))
set_option maxRecDepth 100000 in
set_option maxHeartbeats 4000000 in
theorem m_X5_minutesUntilDone (l : Launch) (g : Gt) (κ : Kp) (sz : Nat) (a : Int32) (hMI : MI κ) : Met l yX5_minutesUntilDone (.code yX5_minutesUntilDone cX5_minutesUntilDone 2 (some .int) :: uW) { frames := 5, cells := 0, slots := 0, locals := 150 } (PRE g κ sz [.ref (g.2.2 (91)), .int (a)]) (va_Qi (fun r κ' => f_X5_minutesUntilDone κ a = (r, κ')) (Wp g) (fr g sz)) 0 0 (fr g sz) := by
  refine k_enter (by decide +kernel) (Nat.le_of_ble_eq_true rfl) ?_
  intro p e s m below meth c ls hM hr hl hw hsz
  subst hsz
  have hl : lv_has ls 2 [(0, .ref (g.2.2 (91))), (1, .int (a))] := hl
  have hF := f_X5_minutesUntilDone.eq_1 κ a
  refine lv_aload_n hM.x hM.b dX5_minutesUntilDone_0 rfl (lv_at hl 0 rfl) ?_
  refine lv_iconst (v := 0) hM.x hM.b dX5_minutesUntilDone_1 (by decide) ?_
  refine k_put5 0 hM hw (by decide) u_fl_X5_32 dX5_minutesUntilDone_2 (fun H locs hw => ?_)
  obtain ⟨κ1, eκ1⟩ : ∃ z : Kp, up2 κ (91) 0 (0) = z := ⟨_, rfl⟩
  rw [eκ1] at hw
  rw [eκ1] at hF
  try dsimp only at hF
  refine lv_aload_n hM.x hM.b dX5_minutesUntilDone_5 rfl (lv_at hl 0 rfl) ?_
  refine lv_iload_n hM.x hM.b dX5_minutesUntilDone_6 rfl (lv_at hl 1 rfl) ?_
  refine k_cip hw (k_runV [.int (a)] [] hM hw (m_X5_isRoast l g κ1 _ (a)) (kd_lt kd_91 (by decide)) (sh5 kd_91) rfl (k_gV u_ml_X5_135 u_im_X5_isRoast u_se_X5_isRoast u_ini_X5 u_co_X5_isRoast) (q_X5_isRoast) rfl rfl rfl ⟨Nat.le_of_ble_eq_true rfl, Nat.le_of_ble_eq_true rfl⟩ hl.1 rfl (Nat.le_of_ble_eq_true rfl) dX5_minutesUntilDone_7 ⟨Nat.le_of_ble_eq_true rfl, Nat.le_of_ble_eq_true rfl⟩) (fun H locs hw => ?_)
  refine lv_if_ne (tgt := 19) hM.x hM.b dX5_minutesUntilDone_10 (by decide) (fun c1 => ?_) (fun c1 => ?_)
  · rw [if_neg c1] at hF
    refine lv_aload_n hM.x hM.b dX5_minutesUntilDone_19 rfl (lv_at hl 0 rfl) ?_
    refine k_cvp hw (k_runV [] [] hM hw (m_X5_keep l g κ1 _) (kd_lt kd_91 (by decide)) (sh5 kd_91) rfl (k_gV u_ml_X5_150 u_im_X5_keep u_se_X5_keep u_ini_X5 u_co_X5_keep) (q_X5_keep) rfl rfl rfl ⟨Nat.le_of_ble_eq_true rfl, Nat.le_of_ble_eq_true rfl⟩ hl.1 rfl (Nat.le_of_ble_eq_true rfl) dX5_minutesUntilDone_20 ⟨Nat.le_of_ble_eq_true rfl, Nat.le_of_ble_eq_true rfl⟩) (fun κ2 H locs eκ2 hw => ?_)
    rw [eκ2] at hF
    try dsimp only at hF
    refine lv_aload_n hM.x hM.b dX5_minutesUntilDone_23 rfl (lv_at hl 0 rfl) ?_
    refine lv_iload_n hM.x hM.b dX5_minutesUntilDone_24 rfl (lv_at hl 1 rfl) ?_
    refine lv_iconst (v := 0) hM.x hM.b dX5_minutesUntilDone_25 (by decide) ?_
    refine k_ci hw (k_runV [.int (a), .int (0)] [] hM hw (m_X5_until l g κ2 _ (a) (0) (isRoast_in (MI_th eκ1 hMI) c1) (MI_eq eκ2 (MI_keep (MI_th eκ1 hMI)))) (kd_lt kd_91 (by decide)) (sh5 kd_91) rfl (k_gV u_ml_X5_153 u_im_X5_until u_se_X5_until u_ini_X5 u_co_X5_until) (q_X5_until) rfl rfl rfl ⟨Nat.le_of_ble_eq_true rfl, Nat.le_of_ble_eq_true rfl⟩ hl.1 rfl (Nat.le_of_ble_eq_true rfl) dX5_minutesUntilDone_26 ⟨Nat.le_of_ble_eq_true rfl, Nat.le_of_ble_eq_true rfl⟩) (fun r1 κ3 H locs hpκ3 hw => ?_)
    simp only [hpκ3] at hF
    exact k_iret hM hr hw (Nat.le_of_ble_eq_true rfl) (Nat.le_of_ble_eq_true rfl) hF dX5_minutesUntilDone_29
  · rw [if_pos c1] at hF
    refine lv_aload_n hM.x hM.b dX5_minutesUntilDone_13 rfl (lv_at hl 0 rfl) ?_
    refine lv_iconst (v := 1) hM.x hM.b dX5_minutesUntilDone_14 (by decide) ?_
    refine k_ci hw (k_runV [.int (1)] [] hM hw (m_X5_fail l g κ1 _ (1)) (kd_lt kd_91 (by decide)) (sh5 kd_91) rfl (k_gV u_ml_X5_103 u_im_X5_fail u_se_X5_fail u_ini_X5 u_co_X5_fail) (q_X5_fail) rfl rfl rfl ⟨Nat.le_of_ble_eq_true rfl, Nat.le_of_ble_eq_true rfl⟩ hl.1 rfl (Nat.le_of_ble_eq_true rfl) dX5_minutesUntilDone_15 ⟨Nat.le_of_ble_eq_true rfl, Nat.le_of_ble_eq_true rfl⟩) (fun r2 κ4 H locs hpκ4 hw => ?_)
    simp only [hpκ4] at hF
    exact k_iret hM hr hw (Nat.le_of_ble_eq_true rfl) (Nat.le_of_ble_eq_true rfl) hF dX5_minutesUntilDone_18
theorem q_X5_minutesUntilBurnt : hdV yX5_minutesUntilBurnt RX5 1 := ⟨rfl, by decide +kernel, by decide +kernel, by decide +kernel⟩
def f_X5_minutesUntilBurnt (κ : Kp) (a : Int32) : Int32 × Kp := (fun κ1 : Kp => if (bi (f_X5_isRoast κ1 (a))) = 0 then (match f_X5_fail κ1 (1) with | (r2, κ4) => ((r2, κ4))) else ((fun κ2 : Kp => match f_X5_until κ2 (a) (1) with | (r1, κ3) => ((r1, κ3))) (f_X5_keep κ1))) (up2 κ (91) 0 (0))
set_option maxRecDepth 100000 in
set_option maxHeartbeats 4000000 in
theorem m_X5_minutesUntilBurnt (l : Launch) (g : Gt) (κ : Kp) (sz : Nat) (a : Int32) (hMI : MI κ) : Met l yX5_minutesUntilBurnt (.code yX5_minutesUntilBurnt cX5_minutesUntilBurnt 2 (some .int) :: uW) { frames := 5, cells := 0, slots := 0, locals := 150 } (PRE g κ sz [.ref (g.2.2 (91)), .int (a)]) (va_Qi (fun r κ' => f_X5_minutesUntilBurnt κ a = (r, κ')) (Wp g) (fr g sz)) 0 0 (fr g sz) := by
  refine k_enter (by decide +kernel) (Nat.le_of_ble_eq_true rfl) ?_
  intro p e s m below meth c ls hM hr hl hw hsz
  subst hsz
  have hl : lv_has ls 2 [(0, .ref (g.2.2 (91))), (1, .int (a))] := hl
  have hF := f_X5_minutesUntilBurnt.eq_1 κ a
  refine lv_aload_n hM.x hM.b dX5_minutesUntilBurnt_0 rfl (lv_at hl 0 rfl) ?_
  refine lv_iconst (v := 0) hM.x hM.b dX5_minutesUntilBurnt_1 (by decide) ?_
  refine k_put5 0 hM hw (by decide) u_fl_X5_32 dX5_minutesUntilBurnt_2 (fun H locs hw => ?_)
  obtain ⟨κ1, eκ1⟩ : ∃ z : Kp, up2 κ (91) 0 (0) = z := ⟨_, rfl⟩
  rw [eκ1] at hw
  rw [eκ1] at hF
  try dsimp only at hF
  refine lv_aload_n hM.x hM.b dX5_minutesUntilBurnt_5 rfl (lv_at hl 0 rfl) ?_
  refine lv_iload_n hM.x hM.b dX5_minutesUntilBurnt_6 rfl (lv_at hl 1 rfl) ?_
  refine k_cip hw (k_runV [.int (a)] [] hM hw (m_X5_isRoast l g κ1 _ (a)) (kd_lt kd_91 (by decide)) (sh5 kd_91) rfl (k_gV u_ml_X5_135 u_im_X5_isRoast u_se_X5_isRoast u_ini_X5 u_co_X5_isRoast) (q_X5_isRoast) rfl rfl rfl ⟨Nat.le_of_ble_eq_true rfl, Nat.le_of_ble_eq_true rfl⟩ hl.1 rfl (Nat.le_of_ble_eq_true rfl) dX5_minutesUntilBurnt_7 ⟨Nat.le_of_ble_eq_true rfl, Nat.le_of_ble_eq_true rfl⟩) (fun H locs hw => ?_)
  refine lv_if_ne (tgt := 19) hM.x hM.b dX5_minutesUntilBurnt_10 (by decide) (fun c1 => ?_) (fun c1 => ?_)
  · rw [if_neg c1] at hF
    refine lv_aload_n hM.x hM.b dX5_minutesUntilBurnt_19 rfl (lv_at hl 0 rfl) ?_
    refine k_cvp hw (k_runV [] [] hM hw (m_X5_keep l g κ1 _) (kd_lt kd_91 (by decide)) (sh5 kd_91) rfl (k_gV u_ml_X5_150 u_im_X5_keep u_se_X5_keep u_ini_X5 u_co_X5_keep) (q_X5_keep) rfl rfl rfl ⟨Nat.le_of_ble_eq_true rfl, Nat.le_of_ble_eq_true rfl⟩ hl.1 rfl (Nat.le_of_ble_eq_true rfl) dX5_minutesUntilBurnt_20 ⟨Nat.le_of_ble_eq_true rfl, Nat.le_of_ble_eq_true rfl⟩) (fun κ2 H locs eκ2 hw => ?_)
    rw [eκ2] at hF
    try dsimp only at hF
    refine lv_aload_n hM.x hM.b dX5_minutesUntilBurnt_23 rfl (lv_at hl 0 rfl) ?_
    refine lv_iload_n hM.x hM.b dX5_minutesUntilBurnt_24 rfl (lv_at hl 1 rfl) ?_
    refine lv_iconst (v := 1) hM.x hM.b dX5_minutesUntilBurnt_25 (by decide) ?_
    refine k_ci hw (k_runV [.int (a), .int (1)] [] hM hw (m_X5_until l g κ2 _ (a) (1) (isRoast_in (MI_th eκ1 hMI) c1) (MI_eq eκ2 (MI_keep (MI_th eκ1 hMI)))) (kd_lt kd_91 (by decide)) (sh5 kd_91) rfl (k_gV u_ml_X5_153 u_im_X5_until u_se_X5_until u_ini_X5 u_co_X5_until) (q_X5_until) rfl rfl rfl ⟨Nat.le_of_ble_eq_true rfl, Nat.le_of_ble_eq_true rfl⟩ hl.1 rfl (Nat.le_of_ble_eq_true rfl) dX5_minutesUntilBurnt_26 ⟨Nat.le_of_ble_eq_true rfl, Nat.le_of_ble_eq_true rfl⟩) (fun r1 κ3 H locs hpκ3 hw => ?_)
    simp only [hpκ3] at hF
    exact k_iret hM hr hw (Nat.le_of_ble_eq_true rfl) (Nat.le_of_ble_eq_true rfl) hF dX5_minutesUntilBurnt_29
  · rw [if_pos c1] at hF
    refine lv_aload_n hM.x hM.b dX5_minutesUntilBurnt_13 rfl (lv_at hl 0 rfl) ?_
    refine lv_iconst (v := 1) hM.x hM.b dX5_minutesUntilBurnt_14 (by decide) ?_
    refine k_ci hw (k_runV [.int (1)] [] hM hw (m_X5_fail l g κ1 _ (1)) (kd_lt kd_91 (by decide)) (sh5 kd_91) rfl (k_gV u_ml_X5_103 u_im_X5_fail u_se_X5_fail u_ini_X5 u_co_X5_fail) (q_X5_fail) rfl rfl rfl ⟨Nat.le_of_ble_eq_true rfl, Nat.le_of_ble_eq_true rfl⟩ hl.1 rfl (Nat.le_of_ble_eq_true rfl) dX5_minutesUntilBurnt_15 ⟨Nat.le_of_ble_eq_true rfl, Nat.le_of_ble_eq_true rfl⟩) (fun r2 κ4 H locs hpκ4 hw => ?_)
    simp only [hpκ4] at hF
    exact k_iret hM hr hw (Nat.le_of_ble_eq_true rfl) (Nat.le_of_ble_eq_true rfl) hF dX5_minutesUntilBurnt_18
