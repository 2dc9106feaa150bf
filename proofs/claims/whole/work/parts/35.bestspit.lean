theorem sp_le {x : Int32} {j : Nat} (h : x ≤ nI 6) (hj : j + 0 = 6) : x ≤ nI j := by rw [show j = 6 by omega]; exact h
theorem q_X4_bestSpit : hdV yX4_bestSpit RX4 1 := ⟨rfl, by decide +kernel, by decide +kernel, by decide +kernel⟩
def lp_X4_bestSpit (a : Int32) : Nat → Nat → Int32 → Int32 → Kp → Int32 × Kp
  | 0, j, v2, v3, κ => (v2, κ)
  | n + 1, j, v2, v3, κ => if (κ (1) 4) ≤ (nI (j)) then ((v2, κ)) else (match f_X4_untilDoneHungOn κ (nI (j)) (a) with | (r1, κ1) => (if (r1) = ((-1)) then (lp_X4_bestSpit (a) n (j + 1) (v2) (v3) κ1) else (if (v3) ≤ (r1) then (lp_X4_bestSpit (a) n (j + 1) (v2) (v3) κ1) else (lp_X4_bestSpit (a) n (j + 1) (nI (j)) (r1) κ1))))
set_option maxRecDepth 100000 in
set_option maxHeartbeats 4000000 in
theorem ml_X4_bestSpit {p : Program} {e : Env} {s : State} {m : MethodId} {below : List Frame} {meth : Method} {c : Code} {Q : State → Prop} (l : Launch) (g : Gt) (a : Int32)  (hM : Mc g p s m ([.ref (g.2.2 (0)), .int (a)] : List Value).toArray meth c cX4_bestSpit 6 yX4_bestSpit.cls) : ∀ (n j : Nat), j + n = 6 → ∀ (v2 : Int32) (v3 : Int32) (κ : Kp), κ 1 4 ≤ nI 6 → ∀ (H : Heap) (locs : List Loc) (ls : Array Slot), lv_has ls 6 [(4, .int (nI (j))), (3, .int (v3)), (2, .int (v2)), (0, .ref (g.2.2 (0))), (1, .int (a))] → Ws g s κ H locs → (∀ (u2 : Int32) (κz : Kp) (H : Heap) (locs : List Loc) (ls : Array Slot), lp_X4_bestSpit a n j v2 v3 κ = (u2, κz) → lv_has ls 6 [(2, .int (u2))] → κz 1 4 ≤ nI 6 → Ws g s κz H locs → W p l e { frames := 7, cells := 2, slots := 12, locals := 210 } s m ([.ref (g.2.2 (0)), .int (a)] : List Value).toArray below meth c H locs 1 6 Q (F0 m 80 ls [])) → W p l e { frames := 7, cells := 2, slots := 12, locals := 210 } s m ([.ref (g.2.2 (0)), .int (a)] : List Value).toArray below meth c H locs 1 6 Q (F0 m 35 ls []) := by
  intro n
  induction n with
  | zero =>
    intro j hj v2 v3 κ hinv H locs ls hl hw hx80
    have hF := Eq.refl (lp_X4_bestSpit a 0 j v2 v3 κ)
    conv at hF => rhs; rw [lp_X4_bestSpit]
    refine lv_iload hM.x hM.b dX4_bestSpit_35 (lv_at hl 0 rfl) ?_
    refine lv_aload_n hM.x hM.b dX4_bestSpit_37 rfl (lv_at hl 3 rfl) ?_
    refine k_get4a hM hw u_fl_X4_10 dX4_bestSpit_38 ?_
    refine k_get1 4 hM hw kd_1 (by decide) u_fl_X4_131 dX4_bestSpit_41 ?_
    refine lv_icmp_ge (tgt := 80) hM.x hM.b dX4_bestSpit_44 (by decide) (fun _ => ?_) (fun cz => absurd (sp_le hinv hj) cz)
    exact hx80 (v2) κ H locs ls hF (lv_sub hl [2] rfl) (hinv) hw
  | succ n ih =>
    intro j hj v2 v3 κ hinv H locs ls hl hw hx80
    have hF := Eq.refl (lp_X4_bestSpit a (n + 1) j v2 v3 κ)
    conv at hF => rhs; rw [lp_X4_bestSpit]
    refine lv_iload hM.x hM.b dX4_bestSpit_35 (lv_at hl 0 rfl) ?_
    refine lv_aload_n hM.x hM.b dX4_bestSpit_37 rfl (lv_at hl 3 rfl) ?_
    refine k_get4a hM hw u_fl_X4_10 dX4_bestSpit_38 ?_
    refine k_get1 4 hM hw kd_1 (by decide) u_fl_X4_131 dX4_bestSpit_41 ?_
    refine lv_icmp_ge (tgt := 80) hM.x hM.b dX4_bestSpit_44 (by decide) (fun c1 => ?_) (fun c1 => ?_)
    · rw [if_pos c1] at hF
      exact hx80 (v2) κ H locs ls hF (lv_sub hl [2] rfl) (hinv) hw
    · rw [if_neg c1] at hF
      refine lv_aload_n hM.x hM.b dX4_bestSpit_47 rfl (lv_at hl 3 rfl) ?_
      refine lv_iload hM.x hM.b dX4_bestSpit_48 (lv_at hl 0 rfl) ?_
      refine lv_iload_n hM.x hM.b dX4_bestSpit_50 rfl (lv_at hl 4 rfl) ?_
      refine k_ci hw (k_runV [.int (nI (j)), .int (a)] [] hM hw (m_X4_untilDoneHungOn l g κ _ (nI (j)) (a)) (kd_lt kd_0 (by decide)) (sh4 kd_0) rfl (k_gV u_ml_X4_188 u_im_X4_untilDoneHungOn u_se_X4_untilDoneHungOn u_ini_X4 u_co_X4_untilDoneHungOn) (q_X4_untilDoneHungOn) rfl rfl rfl ⟨Nat.le_of_ble_eq_true rfl, Nat.le_of_ble_eq_true rfl⟩ hl.1 rfl (Nat.le_of_ble_eq_true rfl) dX4_bestSpit_51 ⟨Nat.le_of_ble_eq_true rfl, Nat.le_of_ble_eq_true rfl⟩) (fun r1 κ1 H locs hpκ1 hw => ?_)
      simp only [hpκ1] at hF
      refine lv_istore (lv' := [(5, .int (r1)), (4, .int (nI (j))), (3, .int (v3)), (2, .int (v2)), (0, .ref (g.2.2 (0))), (1, .int (a))]) hM.x hM.b dX4_bestSpit_54 hl (by decide) rfl (fun ls hl => ?_)
      refine lv_iload hM.x hM.b dX4_bestSpit_56 (lv_at hl 0 rfl) ?_
      refine lv_iconst (v := -1) hM.x hM.b dX4_bestSpit_58 (by decide) ?_
      refine lv_icmp_eq (tgt := 74) hM.x hM.b dX4_bestSpit_59 (by decide) (fun c2 => ?_) (fun c2 => ?_)
      · rw [if_pos c2] at hF
        refine lv_iinc (v := nI (j + 1)) (lv' := [(4, .int (nI (j + 1))), (5, .int (r1)), (3, .int (v3)), (2, .int (v2)), (0, .ref (g.2.2 (0))), (1, .int (a))]) hM.x hM.b dX4_bestSpit_74 hl (k := 1) rfl (nI_1 (j)) (by decide) rfl (fun ls hl => ?_)
        refine lv_goto (tgt := 35) hM.x hM.b dX4_bestSpit_77 (by decide) ?_
        exact ih (j + 1) (by omega) (v2) (v3) κ1 ((by rw [hungOn_1 hpκ1]; exact hinv)) H locs ls (lv_sub hl [0, 2, 3, 4, 5] rfl) hw (fun u2 κz H locs ls he hl hiz hw => hx80 u2 κz H locs ls (hF.trans he) hl hiz hw)
      · rw [if_neg c2] at hF
        refine lv_iload hM.x hM.b dX4_bestSpit_62 (lv_at hl 0 rfl) ?_
        refine lv_iload_n hM.x hM.b dX4_bestSpit_64 rfl (lv_at hl 2 rfl) ?_
        refine lv_icmp_ge (tgt := 74) hM.x hM.b dX4_bestSpit_65 (by decide) (fun c3 => ?_) (fun c3 => ?_)
        · rw [if_pos c3] at hF
          refine lv_iinc (v := nI (j + 1)) (lv' := [(4, .int (nI (j + 1))), (5, .int (r1)), (3, .int (v3)), (2, .int (v2)), (0, .ref (g.2.2 (0))), (1, .int (a))]) hM.x hM.b dX4_bestSpit_74 hl (k := 1) rfl (nI_1 (j)) (by decide) rfl (fun ls hl => ?_)
          refine lv_goto (tgt := 35) hM.x hM.b dX4_bestSpit_77 (by decide) ?_
          exact ih (j + 1) (by omega) (v2) (v3) κ1 ((by rw [hungOn_1 hpκ1]; exact hinv)) H locs ls (lv_sub hl [0, 2, 3, 4, 5] rfl) hw (fun u2 κz H locs ls he hl hiz hw => hx80 u2 κz H locs ls (hF.trans he) hl hiz hw)
        · rw [if_neg c3] at hF
          refine lv_iload hM.x hM.b dX4_bestSpit_68 (lv_at hl 0 rfl) ?_
          refine lv_istore_n (lv' := [(3, .int (r1)), (5, .int (r1)), (4, .int (nI (j))), (2, .int (v2)), (0, .ref (g.2.2 (0))), (1, .int (a))]) hM.x hM.b dX4_bestSpit_70 rfl hl (by decide) rfl (fun ls hl => ?_)
          refine lv_iload hM.x hM.b dX4_bestSpit_71 (lv_at hl 2 rfl) ?_
          refine lv_istore_n (lv' := [(2, .int (nI (j))), (3, .int (r1)), (5, .int (r1)), (4, .int (nI (j))), (0, .ref (g.2.2 (0))), (1, .int (a))]) hM.x hM.b dX4_bestSpit_73 rfl hl (by decide) rfl (fun ls hl => ?_)
          refine lv_iinc (v := nI (j + 1)) (lv' := [(4, .int (nI (j + 1))), (2, .int (nI (j))), (3, .int (r1)), (5, .int (r1)), (0, .ref (g.2.2 (0))), (1, .int (a))]) hM.x hM.b dX4_bestSpit_74 hl (k := 3) rfl (nI_1 (j)) (by decide) rfl (fun ls hl => ?_)
          refine lv_goto (tgt := 35) hM.x hM.b dX4_bestSpit_77 (by decide) ?_
          exact ih (j + 1) (by omega) (nI (j)) (r1) κ1 ((by rw [hungOn_1 hpκ1]; exact hinv)) H locs ls (lv_sub hl [0, 2, 1, 4, 5] rfl) hw (fun u2 κz H locs ls he hl hiz hw => hx80 u2 κz H locs ls (hF.trans he) hl hiz hw)
def f_X4_bestSpit (κ : Kp) (a : Int32) : (String × Kp) ⊕ (Int32 × Kp) := match f_X4_needPounds κ (a) with | .inl (E, κx) => .inl (E, κx) | .inr _ => (if (κ (1) 5) < (16) then (match lp_X4_bestSpit a 6 0 ((-1)) (201) κ with | (uz1, κ1) => (.inr (uz1, κ1))) else (.inl (nISE, κ)))
set_option maxRecDepth 100000 in
set_option maxHeartbeats 4000000 in
theorem m_X4_bestSpit (l : Launch) (g : Gt) (κ : Kp) (sz : Nat) (a : Int32) (hsp : κ 1 4 ≤ nI 6) (hlst : l.stackTraces = false) : vx_Met l yX4_bestSpit (.code yX4_bestSpit cX4_bestSpit 6 (some .int) :: uW) { frames := 7, cells := 2, slots := 12, locals := 210 } (PRE g κ sz [.ref (g.2.2 (0)), .int (a)]) (va_Qi (fun r κ' => f_X4_bestSpit κ a = .inr (r, κ')) (Wp g) (fr g sz)) (xC g sz (fun E κx => f_X4_bestSpit κ a = .inl (E, κx) ∧ E ∈ [nIAE, nISE])) 2 12 (fr g sz) := by
  refine k_xenter (by decide +kernel) (Nat.le_of_ble_eq_true rfl) ?_
  intro p e s m below meth c ls hM hno hr hl hw hsz
  subst hsz
  have hl : lv_has ls 6 [(0, .ref (g.2.2 (0))), (1, .int (a))] := hl
  have hF := f_X4_bestSpit.eq_1 κ a
  refine lv_iload_n hM.x hM.b dX4_bestSpit_0 rfl (lv_at hl 1 rfl) ?_
  refine k_xv hw (k_runXS [.int (a)] [] hM hw (m_X4_needPounds l g κ _ (a) hlst) (k_gS u_ml_X4_82 u_st_X4_needPounds u_ini_X4 u_co_X4_needPounds) (q_X4_needPounds) rfl rfl rfl ⟨Nat.le_of_ble_eq_true rfl, Nat.le_of_ble_eq_true rfl⟩ hl.1 rfl (Nat.le_of_ble_eq_true rfl) dX4_bestSpit_1 ⟨Nat.le_of_ble_eq_true rfl, Nat.le_of_ble_eq_true rfl⟩) (fun E κx ce q9 H locs hx hw h1 h2 h3 => ?_) (fun κz H locs hp hw => ?_)
  · simp only [hx.1] at hF
    exact k_xout hM hno hw h1 h2 h3 ⟨hF, (by decide +kernel : ∀ E ∈ [nIAE], E ∈ [nIAE, nISE]) E hx.2⟩ (Nat.le_of_ble_eq_true rfl) (Nat.le_of_ble_eq_true rfl)
  · obtain ⟨hp, hkz⟩ := hp
    rw [hkz] at hw
    simp only [hp] at hF
    refine lv_aload_n hM.x hM.b dX4_bestSpit_4 rfl (lv_at hl 0 rfl) ?_
    refine k_get4a hM hw u_fl_X4_10 dX4_bestSpit_5 ?_
    refine k_get1 5 hM hw kd_1 (by decide) u_fl_X4_141 dX4_bestSpit_8 ?_
    refine lv_bipush (v := 16) hM.x hM.b dX4_bestSpit_11 (by decide) ?_
    refine lv_icmp_lt (tgt := 26) hM.x hM.b dX4_bestSpit_13 (by decide) (fun c1 => ?_) (fun c1 => ?_)
    · rw [if_pos c1] at hF
      refine lv_iconst (v := -1) hM.x hM.b dX4_bestSpit_26 (by decide) ?_
      refine lv_istore_n (lv' := [(2, .int ((-1))), (0, .ref (g.2.2 (0))), (1, .int (a))]) hM.x hM.b dX4_bestSpit_27 rfl hl (by decide) rfl (fun ls hl => ?_)
      refine lv_sipush (v := 201) hM.x hM.b dX4_bestSpit_28 (by decide) ?_
      refine lv_istore_n (lv' := [(3, .int (201)), (2, .int ((-1))), (0, .ref (g.2.2 (0))), (1, .int (a))]) hM.x hM.b dX4_bestSpit_31 rfl hl (by decide) rfl (fun ls hl => ?_)
      refine lv_iconst (v := nI 0) hM.x hM.b dX4_bestSpit_32 (by decide) ?_
      refine lv_istore (lv' := [(4, .int (nI (0))), (3, .int (201)), (2, .int ((-1))), (0, .ref (g.2.2 (0))), (1, .int (a))]) hM.x hM.b dX4_bestSpit_33 hl (by decide) rfl (fun ls hl => ?_)
      refine ml_X4_bestSpit l g a  hM (6) (0) (by omega) ((-1)) (201) κ (hsp) _ _ _ (lv_sub hl [0, 1, 2, 3, 4] rfl) hw (fun uz1 κ1 H locs ls he hl hiκ1 hw => ?_)
      rw [he] at hF
      try dsimp only at hF
      refine lv_iload_n hM.x hM.b dX4_bestSpit_80 rfl (lv_at hl 0 rfl) ?_
      exact vx_ret (k_iret hM hr hw (Nat.le_of_ble_eq_true rfl) (Nat.le_of_ble_eq_true rfl) hF dX4_bestSpit_81)
    · rw [if_neg c1] at hF
      exact k_throw (cls := nISE) (text := "16 roasts were hung already") (is := 186) hlst hM hno hw (by decide +kernel) u_cl_X4_23 u_ini_JS (by decide +kernel) xISE1 xISE2 xISE3 hl.1 dX4_bestSpit_16 dX4_bestSpit_19 dX4_bestSpit_20 dX4_bestSpit_22 dX4_bestSpit_25 (Nat.le_of_ble_eq_true rfl) (Nat.le_of_ble_eq_true rfl) (Nat.le_of_ble_eq_true rfl) (Nat.le_of_ble_eq_true rfl) ⟨hF, by decide +kernel⟩ (Nat.le_of_ble_eq_true rfl) (Nat.le_of_ble_eq_true rfl)
theorem q_L_bestSpit : hdV yL_bestSpit yL_addFire.cls 3 := ⟨rfl, by decide +kernel, by decide +kernel, by decide +kernel⟩
def f_L_bestSpit (κ : Kp) (a : Int32) : Int32 × Kp := match f_X4_bestSpit κ (a) with | .inl (E, κx) => (if E = nIAE then (1, κx) else (2, κx)) | .inr (r1, κ1) => ((fun κ2 : Kp => (0, κ2)) (up2 κ1 98 0 (r1)))
set_option maxRecDepth 100000 in
set_option maxHeartbeats 4000000 in
theorem m_L_bestSpit (l : Launch) (g : Gt) (κ : Kp) (sz : Nat) (a : Int32) (hsp : κ 1 4 ≤ nI 6) (hlst : l.stackTraces = false) : Met l yL_bestSpit (.codeWith yL_bestSpit cL_bestSpit 4 (some .int) [(0, 9, 12, 21), (0, 9, 15, 13)] :: uW) { frames := 8, cells := 2, slots := 12, locals := 240 } (PRE g κ sz [.ref (g.2.2 (0)), .int (a), .ref (g.2.2 (98))]) (va_Qi (fun r κ' => f_L_bestSpit κ a = (r, κ')) (Wp g) (fr g sz)) 2 12 (fr g sz) := by
  refine k_lenter (by decide +kernel) (Nat.le_of_ble_eq_true rfl) ?_
  intro p e s m below meth c ls hM hT hr hl hw hsz
  subst hsz
  have hl : lv_has ls 4 [(0, .ref (g.2.2 (0))), (1, .int (a)), (2, .ref (g.2.2 (98)))] := hl
  have hF := f_L_bestSpit.eq_1 κ a
  refine lv_aload_n hM.x hM.b dL_bestSpit_0 rfl (lv_at hl 2 rfl) ?_
  refine lv_iconst (v := 0) hM.x hM.b dL_bestSpit_1 (by decide) ?_
  refine lv_aload_n hM.x hM.b dL_bestSpit_2 rfl (lv_at hl 0 rfl) ?_
  refine lv_iload_n hM.x hM.b dL_bestSpit_3 rfl (lv_at hl 1 rfl) ?_
  refine k_xi hw (k_runXV [.int (a)] [.int (0), .ref (g.2.2 (98))] hM hw (m_X4_bestSpit l g κ _ (a) hsp hlst) (kd_lt kd_0 (by decide)) (sh4 kd_0) rfl (k_gV u_ml_L_112 u_im_X4_bestSpit u_se_X4_bestSpit u_ini_X4 u_co_X4_bestSpit) (q_X4_bestSpit) rfl rfl rfl ⟨Nat.le_of_ble_eq_true rfl, Nat.le_of_ble_eq_true rfl⟩ hl.1 rfl (Nat.le_of_ble_eq_true rfl) dL_bestSpit_4 ⟨Nat.le_of_ble_eq_true rfl, Nat.le_of_ble_eq_true rfl⟩) (fun E κx ce q9 H locs hx hw h1 h2 h3 => ?_) (fun r1 κ1 H locs hp hw => ?_)
  · simp only [hx.1] at hF
    obtain ⟨hx1, hx2⟩ := hx
    simp only [List.mem_cons, List.not_mem_nil, or_false] at hx2
    rcases hx2 with rfl | rfl
    · rw [if_pos rfl] at hF
      refine k_catch (E := nIAE) hM hT [] ⟨0, 9, 12, 21⟩ [⟨0, 9, 15, 13⟩] rfl (fun z hz => nomatch hz) (by decide) (by decide) u_cl_L_21 (by decide) h1 h2 h3 ?_
      refine lv_astore_n (lv' := [(3, .ref q9), (0, .ref (g.2.2 (0))), (1, .int (a)), (2, .ref (g.2.2 (98)))]) hM.x hM.b dL_bestSpit_12 rfl hl (by decide) rfl (fun ls hl => ?_)
      refine lv_iconst (v := 1) hM.x hM.b dL_bestSpit_13 (by decide) ?_
      exact k_iret hM hr hw (Nat.le_of_ble_eq_true rfl) (Nat.le_of_ble_eq_true rfl) hF dL_bestSpit_14
    · rw [if_neg (by decide)] at hF
      refine k_catch (E := nISE) hM hT [⟨0, 9, 12, 21⟩] ⟨0, 9, 15, 13⟩ [] rfl (fun z hz => by simp only [List.mem_cons, List.not_mem_nil, or_false] at hz; rcases hz with rfl; exact k_nk hM (by decide) u_cl_L_21 (nk_SA hM)) (by decide) (by decide) u_cl_L_13 (by decide) h1 h2 h3 ?_
      refine lv_astore_n (lv' := [(3, .ref q9), (0, .ref (g.2.2 (0))), (1, .int (a)), (2, .ref (g.2.2 (98)))]) hM.x hM.b dL_bestSpit_15 rfl hl (by decide) rfl (fun ls hl => ?_)
      refine lv_iconst (v := 2) hM.x hM.b dL_bestSpit_16 (by decide) ?_
      exact k_iret hM hr hw (Nat.le_of_ble_eq_true rfl) (Nat.le_of_ble_eq_true rfl) hF dL_bestSpit_17
  · simp only [hp] at hF
    refine lv_i2l (v := (r1).toInt64) hM.x hM.b dL_bestSpit_7 rfl ?_
    refine k_last (x := r1) hM hw dL_bestSpit_8 (fun H locs hw => ?_)
    obtain ⟨κ2, eκ2⟩ : ∃ z : Kp, up2 κ1 98 0 (r1) = z := ⟨_, rfl⟩
    rw [eκ2] at hw
    rw [eκ2] at hF
    try dsimp only at hF
    refine lv_goto (tgt := 18) hM.x hM.b dL_bestSpit_9 (by decide) ?_
    refine lv_iconst (v := 0) hM.x hM.b dL_bestSpit_18 (by decide) ?_
    exact k_iret hM hr hw (Nat.le_of_ble_eq_true rfl) (Nat.le_of_ble_eq_true rfl) hF dL_bestSpit_19
