set_option maxRecDepth 100000 in
set_option maxHeartbeats 4000000 in
theorem act_hang {p : Program} {e : Env} {s : State} {m : MethodId} {args : Array Value} {below : List Frame} {meth : Method} {c : Code} {A : Nat → Prop} {D : va_G} {cA : Nat → ClassId} {L : List Nat} {ad ad0 : Nat → Nat} {nf ns nr : Nat} {κ : Kp} {x : Int32} (l : Launch) (hlst : l.stackTraces = false) (hM : Ma A D cA p s m args meth c cL_act 20 RL) (hr : meth.sig.returnType = some .boolean) (hL : Lm L ad nf ns nr []) (hR : RR nf ns nr κ) (had : ∀ k, k < 92 → ad k = ad0 k) {f0 s0 : Nat} (hf : f0 < nf) (hs : s0 < ns) {H : Heap} {locs : List Loc} {ls : Array Slot} (hw : Wa A D cA L ad s κ H locs) (hl : lv_has ls 20 [(0, .ref (ad (0))), (1, .ref (ad (91))), (2, .int (x)), (5, .int (nI (f0))), (7, .int (nI (s0))), (8, .ref (ad (98 + s0)))]) : W p l e { frames := 8, cells := 130, slots := 600, locals := 250 } s m args below meth c H locs 0 0 (MQ below (va_Qi (actP ad0) (Wu D cA A) A) args s 130 600 A) (F0 m 493 ls []) := by
  have hb := hR.b
  refine lv_aload hM.x hM.b dL_act_493 (lv_at hl 5 rfl) ?_
  refine lv_iconst (v := 3) hM.x hM.b dL_act_495 (by decide) ?_
  refine k_ialdN (i := 3) (n := 6) hM hw (hL.S hs) (sh20 (kdS _ (hL.s6 hs))) (by decide) (by decide) dL_act_496 ?_
  refine lv_if_ge (tgt := 510) hM.x hM.b dL_act_497 (by decide) (fun c1 => ?_) (fun c1 => ?_)
  · skip
    refine lv_iconst (v := 1) hM.x hM.b dL_act_510 (by decide) ?_
    exact a_zret (b := true) (u := ((L, ad), κ)) hM hr hw.2.1 (Nat.le_of_ble_eq_true rfl) (Nat.le_of_ble_eq_true rfl) ⟨rfl, ⟨nf, ns, nr, hL, hR⟩, had⟩ (fun t ht => ⟨by rw [ht]; exact hw.1, hw.2.2.1⟩) dL_act_511
  · skip
    refine lv_aload_n hM.x hM.b dL_act_500 rfl (lv_at hl 1 rfl) ?_
    refine k_get6r 2 hM hw hL.m91 (by decide) u_fl_L_59 dL_act_501 ?_
    refine k_alenD (n := nr) hM hw (hL.m94) 5 (lsh94 hL) rfl rfl dL_act_504 ?_
    refine lv_bipush (v := nI 16) hM.x hM.b dL_act_505 (by decide) ?_
    refine lv_icmp_ne (tgt := 512) hM.x hM.b dL_act_507 (by decide) (fun c2 => ?_) (fun c2 => ?_)
    · skip
      refine lv_iconst (v := nI 1) hM.x hM.b dL_act_512 (by decide) ?_
      refine lv_iload_n hM.x hM.b dL_act_513 rfl (lv_at hl 2 rfl) ?_
      refine lv_iconst (v := 4) hM.x hM.b dL_act_514 (by decide) ?_
      refine lv_ishr hM.x hM.b dL_act_515 ?_
      refine lv_iload_n hM.x hM.b dL_act_516 rfl (lv_at hl 2 rfl) ?_
      refine lv_iconst (v := nI 2) hM.x hM.b dL_act_517 (by decide) ?_
      obtain ⟨d1, hd1, ed1⟩ := below_in (x) (2) (by decide) (by omega)
      refine k_cip hw (k_runS [.int (x), .int (nI (2))] [.int (((x) >>> ((4) &&& 31))), .int (nI (1))] hM hw (m_L_below l ((D, L), cA, ad) κ _ (x) (nI (2)) (by decide)) (k_gS u_ml_L_15 u_st_L_below u_ini_L u_co_L_below) q_L_below rfl rfl rfl ⟨(Nat.le_of_ble_eq_true rfl), (Nat.le_of_ble_eq_true rfl)⟩ hl.1 rfl (Nat.le_of_ble_eq_true rfl) dL_act_518 ⟨(Nat.le_of_ble_eq_true rfl), (Nat.le_of_ble_eq_true rfl)⟩) (fun H locs hw => ?_)
      rw [ed1]
      refine lv_if_ne (tgt := 529) hM.x hM.b dL_act_521 (by decide) (fun c3 => ?_) (fun c3 => ?_)
      · skip
        refine lv_iconst (v := nI 4) hM.x hM.b dL_act_529 (by decide) ?_
        obtain ⟨d2, hd2, ed2⟩ := below_in (((x) >>> ((4) &&& 31))) (4) (by decide) (by omega)
        refine k_cip hw (k_runS [.int (((x) >>> ((4) &&& 31))), .int (nI (4))] [.int (nI (1))] hM hw (m_L_below l ((D, L), cA, ad) κ _ (((x) >>> ((4) &&& 31))) (nI (4)) (by decide)) (k_gS u_ml_L_15 u_st_L_below u_ini_L u_co_L_below) q_L_below rfl rfl rfl ⟨(Nat.le_of_ble_eq_true rfl), (Nat.le_of_ble_eq_true rfl)⟩ hl.1 rfl (Nat.le_of_ble_eq_true rfl) dL_act_530 ⟨(Nat.le_of_ble_eq_true rfl), (Nat.le_of_ble_eq_true rfl)⟩) (fun H locs hw => ?_)
        rw [ed2]
        refine k_iaddN (a := 1) (b := d2) hM dL_act_533 ?_
        refine lv_istore (lv' := [(13, .int (nI ((1 + d2)))), (0, .ref (ad (0))), (1, .ref (ad (91))), (2, .int (x)), (5, .int (nI (f0))), (7, .int (nI (s0))), (8, .ref (ad (98 + s0)))]) hM.x hM.b dL_act_534 hl (by decide) rfl (fun ls hl => ?_)
        refine lv_aload_n hM.x hM.b dL_act_536 rfl (lv_at hl 1 rfl) ?_
        refine lv_iload hM.x hM.b dL_act_537 (lv_at hl 5 rfl) ?_
        refine lv_iload hM.x hM.b dL_act_539 (lv_at hl 0 rfl) ?_
        have hn16 : nr < 16 := by
          have h16 : nr ≠ 16 := fun z => c2 (by rw [z])
          omega
        obtain ⟨κ9, he, h46, hfin⟩ := op_hang (p := (1 + d2)) hR hs (by omega) (by omega) hn16 (RR.free hR hs (Int32.not_le.mp c1))
        refine k_xiK he hw (k_runXV [.int (nI (s0)), .int (nI ((1 + d2)))] [] hM hw (m_X4_hang l ((D, L), cA, ad) κ _ (nI (s0)) (nI ((1 + d2))) hlst) (hw.dm kd_0 (by decide)) (sh4 kd_0) rfl (k_gV u_ml_L_63 u_im_X4_hang u_se_X4_hang u_ini_X4 u_co_X4_hang) (q_X4_hang) rfl rfl rfl ⟨(Nat.le_of_ble_eq_true rfl), (Nat.le_of_ble_eq_true rfl)⟩ hl.1 rfl (Nat.le_of_ble_eq_true rfl) dL_act_541 ⟨(Nat.le_of_ble_eq_true rfl), (Nat.le_of_ble_eq_true rfl)⟩) (fun H locs hw => ?_)
        refine lv_aload_n hM.x hM.b dL_act_544 rfl (lv_at hl 2 rfl) ?_
        refine lv_iload hM.x hM.b dL_act_545 (lv_at hl 5 rfl) ?_
        refine lv_iload hM.x hM.b dL_act_547 (lv_at hl 0 rfl) ?_
        refine k_cw hw (k_runV [.int (nI (s0)), .int (nI ((1 + d2)))] [.int (nI (nr))] hM hw (m_X6_hang l ((D, L), cA, ad) κ9 _ (i := s0) (pd := (1 + d2)) hL hs hn16) hL.m91 (sh15 kd_91) rfl (k_gV u_ml_L_66 u_im_X6_hang u_se_X6_hang u_ini_X6 u_co_X6_hang) q_X6_hang rfl rfl rfl ⟨(Nat.le_of_ble_eq_true rfl), (Nat.le_of_ble_eq_true rfl)⟩ hl.1 rfl (Nat.le_of_ble_eq_true rfl) dL_act_549 ⟨(Nat.le_of_ble_eq_true rfl), (Nat.le_of_ble_eq_true rfl)⟩) (fun r L3 ad3 κ3 H locs hp hw => ?_)
        obtain ⟨rfl, hL3, ha3, q1, q2, q3, q4, q5, q6, q7, q8, q9, q10⟩ := hp
        have hR3 : RR nf ns (nr + 1) κ3 := hfin κ3 q1 (fun y y1 y2 => (q2 y y1 y2).trans (congrFun (h46 _ (by omega)) y)) q3 q4 q5 q6 q7 q8 q9 q10
        refine lv_icmp_ne (tgt := 559) hM.x hM.b dL_act_552 (by decide) (fun cz => absurd rfl cz) (fun _ => ?_)
        refine lv_iconst (v := 1) hM.x hM.b dL_act_555 (by decide) ?_
        refine lv_goto (tgt := 560) hM.x hM.b dL_act_556 (by decide) ?_
        exact a_zret (b := true) (u := ((L3, ad3), κ3)) hM hr hw.2.1 (Nat.le_of_ble_eq_true rfl) (Nat.le_of_ble_eq_true rfl) ⟨rfl, ⟨nf, ns, nr + 1, hL3, hR3⟩, (fun k hk => (ha3 k hk).trans (had k hk))⟩ (fun t ht => ⟨by rw [ht]; exact hw.1, hw.2.2.1⟩) dL_act_560
      · skip
        refine lv_bipush (v := nI 12) hM.x hM.b dL_act_524 (by decide) ?_
        refine lv_goto (tgt := 530) hM.x hM.b dL_act_526 (by decide) ?_
        obtain ⟨d3, hd3, ed3⟩ := below_in (((x) >>> ((4) &&& 31))) (12) (by decide) (by omega)
        refine k_cip hw (k_runS [.int (((x) >>> ((4) &&& 31))), .int (nI (12))] [.int (nI (1))] hM hw (m_L_below l ((D, L), cA, ad) κ _ (((x) >>> ((4) &&& 31))) (nI (12)) (by decide)) (k_gS u_ml_L_15 u_st_L_below u_ini_L u_co_L_below) q_L_below rfl rfl rfl ⟨(Nat.le_of_ble_eq_true rfl), (Nat.le_of_ble_eq_true rfl)⟩ hl.1 rfl (Nat.le_of_ble_eq_true rfl) dL_act_530 ⟨(Nat.le_of_ble_eq_true rfl), (Nat.le_of_ble_eq_true rfl)⟩) (fun H locs hw => ?_)
        rw [ed3]
        refine k_iaddN (a := 1) (b := d3) hM dL_act_533 ?_
        refine lv_istore (lv' := [(13, .int (nI ((1 + d3)))), (0, .ref (ad (0))), (1, .ref (ad (91))), (2, .int (x)), (5, .int (nI (f0))), (7, .int (nI (s0))), (8, .ref (ad (98 + s0)))]) hM.x hM.b dL_act_534 hl (by decide) rfl (fun ls hl => ?_)
        refine lv_aload_n hM.x hM.b dL_act_536 rfl (lv_at hl 1 rfl) ?_
        refine lv_iload hM.x hM.b dL_act_537 (lv_at hl 5 rfl) ?_
        refine lv_iload hM.x hM.b dL_act_539 (lv_at hl 0 rfl) ?_
        have hn16 : nr < 16 := by
          have h16 : nr ≠ 16 := fun z => c2 (by rw [z])
          omega
        obtain ⟨κ9, he, h46, hfin⟩ := op_hang (p := (1 + d3)) hR hs (by omega) (by omega) hn16 (RR.free hR hs (Int32.not_le.mp c1))
        refine k_xiK he hw (k_runXV [.int (nI (s0)), .int (nI ((1 + d3)))] [] hM hw (m_X4_hang l ((D, L), cA, ad) κ _ (nI (s0)) (nI ((1 + d3))) hlst) (hw.dm kd_0 (by decide)) (sh4 kd_0) rfl (k_gV u_ml_L_63 u_im_X4_hang u_se_X4_hang u_ini_X4 u_co_X4_hang) (q_X4_hang) rfl rfl rfl ⟨(Nat.le_of_ble_eq_true rfl), (Nat.le_of_ble_eq_true rfl)⟩ hl.1 rfl (Nat.le_of_ble_eq_true rfl) dL_act_541 ⟨(Nat.le_of_ble_eq_true rfl), (Nat.le_of_ble_eq_true rfl)⟩) (fun H locs hw => ?_)
        refine lv_aload_n hM.x hM.b dL_act_544 rfl (lv_at hl 2 rfl) ?_
        refine lv_iload hM.x hM.b dL_act_545 (lv_at hl 5 rfl) ?_
        refine lv_iload hM.x hM.b dL_act_547 (lv_at hl 0 rfl) ?_
        refine k_cw hw (k_runV [.int (nI (s0)), .int (nI ((1 + d3)))] [.int (nI (nr))] hM hw (m_X6_hang l ((D, L), cA, ad) κ9 _ (i := s0) (pd := (1 + d3)) hL hs hn16) hL.m91 (sh15 kd_91) rfl (k_gV u_ml_L_66 u_im_X6_hang u_se_X6_hang u_ini_X6 u_co_X6_hang) q_X6_hang rfl rfl rfl ⟨(Nat.le_of_ble_eq_true rfl), (Nat.le_of_ble_eq_true rfl)⟩ hl.1 rfl (Nat.le_of_ble_eq_true rfl) dL_act_549 ⟨(Nat.le_of_ble_eq_true rfl), (Nat.le_of_ble_eq_true rfl)⟩) (fun r L3 ad3 κ3 H locs hp hw => ?_)
        obtain ⟨rfl, hL3, ha3, q1, q2, q3, q4, q5, q6, q7, q8, q9, q10⟩ := hp
        have hR3 : RR nf ns (nr + 1) κ3 := hfin κ3 q1 (fun y y1 y2 => (q2 y y1 y2).trans (congrFun (h46 _ (by omega)) y)) q3 q4 q5 q6 q7 q8 q9 q10
        refine lv_icmp_ne (tgt := 559) hM.x hM.b dL_act_552 (by decide) (fun cz => absurd rfl cz) (fun _ => ?_)
        refine lv_iconst (v := 1) hM.x hM.b dL_act_555 (by decide) ?_
        refine lv_goto (tgt := 560) hM.x hM.b dL_act_556 (by decide) ?_
        exact a_zret (b := true) (u := ((L3, ad3), κ3)) hM hr hw.2.1 (Nat.le_of_ble_eq_true rfl) (Nat.le_of_ble_eq_true rfl) ⟨rfl, ⟨nf, ns, nr + 1, hL3, hR3⟩, (fun k hk => (ha3 k hk).trans (had k hk))⟩ (fun t ht => ⟨by rw [ht]; exact hw.1, hw.2.2.1⟩) dL_act_560
    · skip
      refine lv_iconst (v := 1) hM.x hM.b dL_act_510 (by decide) ?_
      exact a_zret (b := true) (u := ((L, ad), κ)) hM hr hw.2.1 (Nat.le_of_ble_eq_true rfl) (Nat.le_of_ble_eq_true rfl) ⟨rfl, ⟨nf, ns, nr, hL, hR⟩, had⟩ (fun t ht => ⟨by rw [ht]; exact hw.1, hw.2.2.1⟩) dL_act_511
set_option maxRecDepth 100000 in
set_option maxHeartbeats 4000000 in
theorem act_pass_at {p : Program} {e : Env} {s : State} {m : MethodId} {args : Array Value} {below : List Frame} {meth : Method} {c : Code} {A : Nat → Prop} {D : va_G} {cA : Nat → ClassId} {L : List Nat} {ad ad0 : Nat → Nat} {nf ns nr : Nat} {κ : Kp} {x : Int32} (l : Launch) (hlst : l.stackTraces = false) (hM : Ma A D cA p s m args meth c cL_act 20 RL) (hr : meth.sig.returnType = some .boolean) (hL : Lm L ad nf ns nr []) (hR : RR nf ns nr κ) (had : ∀ k, k < 92 → ad k = ad0 k) {k : Nat} (h1 : 1 ≤ k) (h60 : k ≤ 60) {H : Heap} {locs : List Loc} {ls : Array Slot} (hw : Wa A D cA L ad s κ H locs) (hl : lv_has ls 20 [(19, .int (nI 0)), (18, .int 0), (17, .int (nI k)), (0, .ref (ad 0)), (1, .ref (ad 91))]) : W p l e { frames := 8, cells := 130, slots := 600, locals := 250 } s m args below meth c H locs 0 0 (MQ below (va_Qi (actP ad0) (Wu D cA A) A) args s 130 600 A) (F0 m 798 ls []) := by
  have hb := hR.b
  have loop : ∀ (n j : Nat) (v : Int32) (μ κc : Kp), j + n = k → Iv nf ns nr κc → Rl nf ns nr κc μ → ∀ (H : Heap) (locs : List Loc) (ls : Array Slot), lv_has ls 20 [(19, .int (nI j)), (18, .int v), (17, .int (nI k)), (0, .ref (ad 0)), (1, .ref (ad 91))] → Wa A D cA L ad s μ H locs → ∀ Q : State → Prop, (∀ (H : Heap) (locs : List Loc) (ls : Array Slot) (w : Int32) (μ' : Kp), lpS nf ns nr n v μ = (w, μ') → lv_has ls 20 [(18, .int w), (17, .int (nI k)), (0, .ref (ad 0)), (1, .ref (ad 91))] → Wa A D cA L ad s μ' H locs → W p l e { frames := 8, cells := 130, slots := 600, locals := 250 } s m args below meth c H locs (2 * k) (9 * k) Q (F0 m 820 ls [])) → W p l e { frames := 8, cells := 130, slots := 600, locals := 250 } s m args below meth c H locs (2 * j) (9 * j) Q (F0 m 798 ls []) := by
    intro n
    induction n with
    | zero =>
      intro j v μ κc hj hI hRl H locs ls hl hw Q kk
      obtain rfl : j = k := by omega
      refine lv_iload hM.x hM.b dL_act_798 (lv_at hl 0 rfl) ?_
      refine lv_iload hM.x hM.b dL_act_800 (lv_at hl 2 rfl) ?_
      refine lv_icmp_ge (tgt := 820) hM.x hM.b dL_act_802 (by decide) (fun _ => ?_) (fun cz => absurd (nI_le (by omega) (by omega)) cz)
      exact kk H locs ls v μ rfl (lv_sub hl [1, 2, 3, 4] rfl) hw
    | succ n ih =>
      intro j v μ κc hj hI hRl H locs ls hl hw Q kk
      refine lv_iload hM.x hM.b dL_act_798 (lv_at hl 0 rfl) ?_
      refine lv_iload hM.x hM.b dL_act_800 (lv_at hl 2 rfl) ?_
      refine lv_icmp_ge (tgt := 820) hM.x hM.b dL_act_802 (by decide) (fun cz => absurd cz (nI_ge (by omega) (by omega))) (fun _ => ?_)
      refine lv_iload hM.x hM.b dL_act_805 (lv_at hl 1 rfl) ?_
      refine lv_aload_n hM.x hM.b dL_act_807 rfl (lv_at hl 4 rfl) ?_
      refine k_ci hw (k_runV [] [.int v] hM hw (m_X6_pass l ((D, L), cA, ad) μ _ hL TD.nil (SI_of hI hRl)) hL.m91 (sh15 kd_91) rfl (k_gV u_ml_L_90 u_im_X6_pass u_se_X6_pass u_ini_X6 u_co_X6_pass) q_X6_pass rfl rfl rfl ⟨(Nat.le_of_ble_eq_true rfl), (Nat.le_of_ble_eq_true rfl)⟩ hl.1 rfl (Nat.le_of_ble_eq_true rfl) dL_act_808 ⟨by show 2 * j + 2 ≤ 130; omega, by show 9 * j + 9 ≤ 600; omega⟩) (fun r μ1 H locs hp hw => ?_)
      obtain ⟨r', κ1, e1, hC⟩ := class_minute hI
      obtain ⟨m', e2, hR1, -⟩ := sim_minute hI hRl hC
      obtain ⟨rfl, rfl⟩ := Prod.mk.inj (e2.symm.trans hp)
      refine lv_iadd hM.x hM.b dL_act_811 ?_
      refine lv_istore (lv' := [(18, .int (v + r')), (19, .int (nI j)), (17, .int (nI k)), (0, .ref (ad 0)), (1, .ref (ad 91))]) hM.x hM.b dL_act_812 hl (by decide) rfl (fun ls hl => ?_)
      refine lv_iinc (v := nI (j + 1)) (lv' := [(19, .int (nI (j + 1))), (18, .int (v + r')), (17, .int (nI k)), (0, .ref (ad 0)), (1, .ref (ad 91))]) hM.x hM.b dL_act_814 hl (k := 1) rfl (nI_up j) (by decide) rfl (fun ls hl => ?_)
      refine lv_goto (tgt := 798) hM.x hM.b dL_act_817 (by decide) ?_
      refine ih (j + 1) (v + r') m' κ1 (by omega) (CM_Iv hI hC) hR1 H locs ls hl hw Q (fun H locs ls w μ2 he hl hw => kk H locs ls w μ2 ?_ hl hw)
      rw [lpS, hp]; exact he
  refine loop k 0 0 κ κ (by omega) hR.1 hR.2 H locs ls hl hw _ (fun H locs ls w μ' hlp hl hw => ?_)
  obtain ⟨w2, κ1, κ2, b1, he, hR9⟩ := op_pass hR h1 (by omega : k ≤ 200)
  obtain ⟨rfl, rfl⟩ := Prod.mk.inj (b1.symm.trans hlp)
  refine lv_aload_n hM.x hM.b dL_act_820 rfl (lv_at hl 2 rfl) ?_
  refine lv_iload hM.x hM.b dL_act_821 (lv_at hl 1 rfl) ?_
  refine k_xiK he hw (k_runXV [.int (nI k)] [] hM hw (m_X4_pass l ((D, L), cA, ad) κ1 _ (nI k) hlst) (hw.dm kd_0 (by decide)) (sh4 kd_0) rfl (k_gV u_ml_L_93 u_im_X4_pass u_se_X4_pass u_ini_X4 u_co_X4_pass) q_X4_pass rfl rfl rfl ⟨(Nat.le_of_ble_eq_true rfl), (Nat.le_of_ble_eq_true rfl)⟩ hl.1 rfl (Nat.le_of_ble_eq_true rfl) dL_act_823 ⟨by show 2 * k + 1 ≤ 130; omega, by show 9 * k + 6 ≤ 600; omega⟩) (fun H locs hw => ?_)
  refine lv_iload hM.x hM.b dL_act_826 (lv_at hl 0 rfl) ?_
  refine lv_icmp_ne (tgt := 835) hM.x hM.b dL_act_828 (by decide) (fun cz => absurd rfl cz) (fun _ => ?_)
  refine lv_iconst (v := 1) hM.x hM.b dL_act_831 (by decide) ?_
  refine lv_goto (tgt := 836) hM.x hM.b dL_act_832 (by decide) ?_
  exact a_zret (b := true) (u := ((L, ad), κ2)) hM hr hw.2.1 (by show 2 * k + 1 ≤ 130; omega) (by show 9 * k + 6 ≤ 600; omega) ⟨rfl, ⟨nf, ns, nr, hL, hR9⟩, had⟩ (fun t ht => ⟨by rw [ht]; exact hw.1, hw.2.2.1⟩) dL_act_836
set_option maxRecDepth 100000 in
set_option maxHeartbeats 4000000 in
theorem act_pass {p : Program} {e : Env} {s : State} {m : MethodId} {args : Array Value} {below : List Frame} {meth : Method} {c : Code} {A : Nat → Prop} {D : va_G} {cA : Nat → ClassId} {L : List Nat} {ad ad0 : Nat → Nat} {nf ns nr : Nat} {κ : Kp} {x : Int32} (l : Launch) (hlst : l.stackTraces = false) (hM : Ma A D cA p s m args meth c cL_act 20 RL) (hr : meth.sig.returnType = some .boolean) (hL : Lm L ad nf ns nr []) (hR : RR nf ns nr κ) (had : ∀ k, k < 92 → ad k = ad0 k)  {H : Heap} {locs : List Loc} {ls : Array Slot} (hw : Wa A D cA L ad s κ H locs) (hl : lv_has ls 20 [(0, .ref (ad (0))), (1, .ref (ad (91))), (2, .int (x))]) : W p l e { frames := 8, cells := 130, slots := 600, locals := 250 } s m args below meth c H locs 0 0 (MQ below (va_Qi (actP ad0) (Wu D cA A) A) args s 130 600 A) (F0 m 766 ls []) := by
  have hb := hR.b
  refine lv_iconst (v := nI 1) hM.x hM.b dL_act_766 (by decide) ?_
  refine lv_iload_n hM.x hM.b dL_act_767 rfl (lv_at hl 2 rfl) ?_
  refine lv_iconst (v := 2) hM.x hM.b dL_act_768 (by decide) ?_
  refine lv_ishr hM.x hM.b dL_act_769 ?_
  refine lv_iload_n hM.x hM.b dL_act_770 rfl (lv_at hl 2 rfl) ?_
  refine lv_bipush (v := nI 6) hM.x hM.b dL_act_771 (by decide) ?_
  obtain ⟨d1, hd1, ed1⟩ := below_in (x) (6) (by decide) (by omega)
  refine k_cip hw (k_runS [.int (x), .int (nI (6))] [.int (((x) >>> ((2) &&& 31))), .int (nI (1))] hM hw (m_L_below l ((D, L), cA, ad) κ _ (x) (nI (6)) (by decide)) (k_gS u_ml_L_15 u_st_L_below u_ini_L u_co_L_below) q_L_below rfl rfl rfl ⟨(Nat.le_of_ble_eq_true rfl), (Nat.le_of_ble_eq_true rfl)⟩ hl.1 rfl (Nat.le_of_ble_eq_true rfl) dL_act_773 ⟨(Nat.le_of_ble_eq_true rfl), (Nat.le_of_ble_eq_true rfl)⟩) (fun H locs hw => ?_)
  rw [ed1]
  refine lv_if_ne (tgt := 784) hM.x hM.b dL_act_776 (by decide) (fun c1 => ?_) (fun c1 => ?_)
  · skip
    refine lv_bipush (v := nI 9) hM.x hM.b dL_act_784 (by decide) ?_
    obtain ⟨d2, hd2, ed2⟩ := below_in (((x) >>> ((2) &&& 31))) (9) (by decide) (by omega)
    refine k_cip hw (k_runS [.int (((x) >>> ((2) &&& 31))), .int (nI (9))] [.int (nI (1))] hM hw (m_L_below l ((D, L), cA, ad) κ _ (((x) >>> ((2) &&& 31))) (nI (9)) (by decide)) (k_gS u_ml_L_15 u_st_L_below u_ini_L u_co_L_below) q_L_below rfl rfl rfl ⟨(Nat.le_of_ble_eq_true rfl), (Nat.le_of_ble_eq_true rfl)⟩ hl.1 rfl (Nat.le_of_ble_eq_true rfl) dL_act_786 ⟨(Nat.le_of_ble_eq_true rfl), (Nat.le_of_ble_eq_true rfl)⟩) (fun H locs hw => ?_)
    rw [ed2]
    refine k_iaddN (a := 1) (b := d2) hM dL_act_789 ?_
    refine lv_istore (lv' := [(17, .int (nI ((1 + d2)))), (0, .ref (ad (0))), (1, .ref (ad (91))), (2, .int (x))]) hM.x hM.b dL_act_790 hl (by decide) rfl (fun ls hl => ?_)
    refine lv_iconst (v := 0) hM.x hM.b dL_act_792 (by decide) ?_
    refine lv_istore (lv' := [(18, .int (0)), (17, .int (nI ((1 + d2)))), (0, .ref (ad (0))), (1, .ref (ad (91))), (2, .int (x))]) hM.x hM.b dL_act_793 hl (by decide) rfl (fun ls hl => ?_)
    refine lv_iconst (v := nI 0) hM.x hM.b dL_act_795 (by decide) ?_
    refine lv_istore (lv' := [(19, .int (nI (0))), (18, .int (0)), (17, .int (nI ((1 + d2)))), (0, .ref (ad (0))), (1, .ref (ad (91))), (2, .int (x))]) hM.x hM.b dL_act_796 hl (by decide) rfl (fun ls hl => ?_)
    exact act_pass_at (x := x) (k := (1 + d2)) l hlst hM hr hL hR had (by omega) (by omega) hw (lv_sub hl [0, 1, 2, 3, 4] rfl)
  · skip
    refine lv_bipush (v := nI 60) hM.x hM.b dL_act_779 (by decide) ?_
    refine lv_goto (tgt := 786) hM.x hM.b dL_act_781 (by decide) ?_
    obtain ⟨d3, hd3, ed3⟩ := below_in (((x) >>> ((2) &&& 31))) (60) (by decide) (by omega)
    refine k_cip hw (k_runS [.int (((x) >>> ((2) &&& 31))), .int (nI (60))] [.int (nI (1))] hM hw (m_L_below l ((D, L), cA, ad) κ _ (((x) >>> ((2) &&& 31))) (nI (60)) (by decide)) (k_gS u_ml_L_15 u_st_L_below u_ini_L u_co_L_below) q_L_below rfl rfl rfl ⟨(Nat.le_of_ble_eq_true rfl), (Nat.le_of_ble_eq_true rfl)⟩ hl.1 rfl (Nat.le_of_ble_eq_true rfl) dL_act_786 ⟨(Nat.le_of_ble_eq_true rfl), (Nat.le_of_ble_eq_true rfl)⟩) (fun H locs hw => ?_)
    rw [ed3]
    refine k_iaddN (a := 1) (b := d3) hM dL_act_789 ?_
    refine lv_istore (lv' := [(17, .int (nI ((1 + d3)))), (0, .ref (ad (0))), (1, .ref (ad (91))), (2, .int (x))]) hM.x hM.b dL_act_790 hl (by decide) rfl (fun ls hl => ?_)
    refine lv_iconst (v := 0) hM.x hM.b dL_act_792 (by decide) ?_
    refine lv_istore (lv' := [(18, .int (0)), (17, .int (nI ((1 + d3)))), (0, .ref (ad (0))), (1, .ref (ad (91))), (2, .int (x))]) hM.x hM.b dL_act_793 hl (by decide) rfl (fun ls hl => ?_)
    refine lv_iconst (v := nI 0) hM.x hM.b dL_act_795 (by decide) ?_
    refine lv_istore (lv' := [(19, .int (nI (0))), (18, .int (0)), (17, .int (nI ((1 + d3)))), (0, .ref (ad (0))), (1, .ref (ad (91))), (2, .int (x))]) hM.x hM.b dL_act_796 hl (by decide) rfl (fun ls hl => ?_)
    exact act_pass_at (x := x) (k := (1 + d3)) l hlst hM hr hL hR had (by omega) (by omega) hw (lv_sub hl [0, 1, 2, 3, 4] rfl)
set_option maxRecDepth 100000 in
set_option maxHeartbeats 4000000 in
theorem act_addfire {p : Program} {e : Env} {s : State} {m : MethodId} {args : Array Value} {below : List Frame} {meth : Method} {c : Code} {A : Nat → Prop} {D : va_G} {cA : Nat → ClassId} {L : List Nat} {ad ad0 : Nat → Nat} {nf ns nr : Nat} {κ : Kp} {x : Int32} (l : Launch) (hlst : l.stackTraces = false) (hM : Ma A D cA p s m args meth c cL_act 20 RL) (hr : meth.sig.returnType = some .boolean) (hL : Lm L ad nf ns nr []) (hR : RR nf ns nr κ) (had : ∀ k, k < 92 → ad k = ad0 k) (hn : nf < 3) {H : Heap} {locs : List Loc} {ls : Array Slot} (hw : Wa A D cA L ad s κ H locs) (hl : lv_has ls 20 [(3, .int (nI (nf))), (0, .ref (ad (0))), (1, .ref (ad (91)))]) : W p l e { frames := 8, cells := 130, slots := 600, locals := 250 } s m args below meth c H locs 0 0 (MQ below (va_Qi (actP ad0) (Wu D cA A) A) args s 130 600 A) (F0 m 33 ls []) := by
  have hb := hR.b
  have nk : 95 + nf ∉ L := hL.noN (by omega)
  have hlL := hw.2.2.1.2.2.2.2
  refine lv_aload_n hM.x hM.b dL_act_33 rfl (lv_at hl 2 rfl) ?_
  refine lv_aload_n hM.x hM.b dL_act_34 rfl (lv_at hl 2 rfl) ?_
  refine k_get6r 0 hM hw hL.m91 (by decide) u_fl_L_9 dL_act_35 ?_
  refine lv_iconst (v := nI 2) hM.x hM.b dL_act_38 (by decide) ?_
  refine a_newI (N := 2) (95 + nf) hM hw nk (by omega) (fun j hj x hx => hL.depA (by omega) (by omega) nk hj hx) (fun ad2 h r => sh19 (kdF nf (by omega))) rfl (by omega) (Nat.le_of_ble_eq_true rfl) (Nat.le_of_ble_eq_true rfl) dL_act_39 (fun ad1 H hX hw => ?_)
  rw [show ad (92 + 0) = ad1 92 from (hX.1 92 (by omega) (by omega)).symm, ← hX.1 91 (by omega) (by omega)]
  have hl : lv_has ls 20 [(3, .int (nI (nf))), (0, .ref (ad1 0)), (1, .ref (ad1 91))] := by rw [hX.1 0 (by omega) (by omega), hX.1 91 (by omega) (by omega)]; exact hl
  have mk : 95 + nf ∈ L ++ [95 + nf] := List.mem_append_right _ (List.mem_singleton_self _)
  refine lv_dup hM.x hM.b dL_act_41 rfl ?_
  refine lv_iconst (v := nI 0) hM.x hM.b dL_act_42 (by decide) ?_
  refine lv_iconst (v := 0) hM.x hM.b dL_act_43 (by decide) ?_
  refine k_iastN (i := 0) (n := 2) hM hw mk (fun r => sh19 (kdF nf (by omega))) (by decide) (by decide) dL_act_44 (fun H locs hw => ?_)
  refine lv_dup hM.x hM.b dL_act_45 rfl ?_
  refine lv_iconst (v := nI 1) hM.x hM.b dL_act_46 (by decide) ?_
  refine lv_iconst (v := 0) hM.x hM.b dL_act_47 (by decide) ?_
  refine k_iastN (i := 1) (n := 2) hM hw mk (fun r => sh19 (kdF nf (by omega))) (by decide) (by decide) dL_act_48 (fun H locs hw => ?_)
  obtain ⟨κ1, e1⟩ : ∃ κ1, up2 (up2 (va_up κ (95 + nf) (fun _ => 0)) (95 + nf) 0 0) (95 + nf) 1 0 = κ1 := ⟨_, rfl⟩
  rw [e1] at hw
  have ko : ∀ q, q ≠ 95 + nf → κ1 q = κ q := fun q hq => by rw [← e1, up2_row hq, up2_row hq, va_up_ne _ _ hq]
  have kv0 : κ1 (95 + nf) 0 = 0 := by rw [← e1, up2_ne _ _ (by omega), up2_self]
  have kv1 : κ1 (95 + nf) 1 = 0 := by rw [← e1, up2_self]
  have inL : ∀ j, j ∈ L ++ [95 + nf] → j ∈ L ∨ j = 95 + nf := fun j hj => (List.mem_append.mp hj).imp id (fun z => List.mem_singleton.mp z)
  have mL : ∀ j, j ∈ L → j ∈ L ++ [95 + nf] := fun j hj => List.mem_append_left _ hj
  have hlt : ∀ j ∈ L ++ [95 + nf], j < 136 := fun j hj => by
    rcases inL j hj with h | h
    · rcases (hL.1 j).mp h with z | z | z | z | z
      · omega
      · omega
      · omega
      · omega
      · cases z
    · omega
  have n163 : 163 ∉ L ++ [95 + nf] := fun q => by have := hlt 163 q; omega
  have hd163 : ∀ j ∈ L ++ [95 + nf], ∀ x, dep ad1 j (κ1 j) x → x ≠ 163 ∧ x ≠ 1000 + 163 := by
    intro j hj x hx
    rcases inL j hj with h | h
    · have hjc : j ≠ 95 + nf := fun z => nk (z ▸ h)
      have hj1 := hlt j hj
      have hx2 : dep ad j (κ1 j) x := by
        unfold dep at hx ⊢
        rw [show ad1 (1000 + j) = ad (1000 + j) from hX.1 _ (by omega) (by omega)] at hx
        exact hx
      exact hL.depA (by decide) (by decide) (hL.noN (by omega)) h hx2
    · subst h
      unfold dep at hx
      rw [(kdF nf (by omega))] at hx
      exact hx.elim
  have len1 : ad1 1092 = nf ∧ ad1 1093 = ns ∧ ad1 1094 = nr := ⟨by rw [hX.1 _ (by omega) (by omega)]; exact hL.2.1.1, by rw [hX.1 _ (by omega) (by omega)]; exact hL.2.1.2.1, by rw [hX.1 _ (by omega) (by omega)]; exact hL.2.1.2.2⟩
  have shr : sh cA ad1 92 (κ1 92) = .inl (cA 1, nf, Qr (fun i => if i < nf then some (ad1 (95 + i)) else none)) := by rw [sh16 kd_92, show ad1 (1000 + 92) = nf from len1.1]
  refine k_cwr (tr := fun u => u.1.2 163) hw (k_runS [.ref (ad1 92), .ref (ad1 (95 + nf))] [.ref (ad1 91)] hM hw (m_X6_with l ((D, L ++ [95 + nf]), cA, ad1) κ1 _ (kr := 92) (n := nf) (n2 := 2) (base := 95) (mL _ hL.m92) shr (fun i hi => ⟨?_, ?_⟩) n163 hd163 (by omega) (by decide)) (k_gS u_ml_L_21 u_st_X6_with u_ini_X6 u_co_X6_with) q_X6_with rfl rfl rfl ⟨(Nat.le_of_ble_eq_true rfl), (Nat.le_of_ble_eq_true rfl)⟩ hl.1 rfl (Nat.le_of_ble_eq_true rfl) dL_act_49 ⟨(Nat.le_of_ble_eq_true rfl), (Nat.le_of_ble_eq_true rfl)⟩) (fun L2 ad2 κ2 H locs hp hw => ?_)
  · by_cases q : i = nf
    · subst q; exact mk
    · exact mL _ (hL.F (by omega))
  · exact sh19 (kdF i (by omega))
  obtain ⟨hL2, hX2, hκ2⟩ := hp
  replace hL2 : L2 = L ++ [95 + nf] ++ [163] := hL2
  replace hκ2 : κ2 = va_up κ1 163 (rr (nf + 1) 95) := hκ2
  replace hX2 : AdX ad1 ad2 163 (nf + 1) := hX2
  subst hL2
  subst hκ2
  have hl : lv_has ls 20 [(3, .int (nI (nf))), (0, .ref (ad2 0)), (1, .ref (ad2 91))] := by rw [hX2.1 0 (by omega) (by omega), hX2.1 91 (by omega) (by omega)]; exact hl
  rw [← hX2.1 91 (by omega) (by omega)]
  have m163 : 163 ∈ L ++ [95 + nf] ++ [163] := List.mem_append_right _ (List.mem_singleton_self _)
  have len2 : ad2 1092 = nf ∧ ad2 1093 = ns ∧ ad2 1094 = nr := ⟨by rw [hX2.1 _ (by omega) (by omega)]; exact len1.1, by rw [hX2.1 _ (by omega) (by omega)]; exact len1.2.1, by rw [hX2.1 _ (by omega) (by omega)]; exact len1.2.2⟩
  have in2 : ∀ j, j ∈ L ++ [95 + nf] ++ [163] → j ∈ L ++ [95 + nf] ∨ j = 163 := fun j hj => (List.mem_append.mp hj).imp id (fun z => List.mem_singleton.mp z)
  refine W.eq (g2 := F0 m (49 + 3) ls [.ref (ad2 163), .ref (ad2 91)]) rfl ?_
  refine k_relab 92 163 (nf + 1) hM hw (List.mem_append_left _ (mL _ hL.m91)) ⟨by omega, by omega, by omega⟩ ⟨by decide, by decide⟩ m163 (by decide) (fun k hk hk2 => (in2 k hk).elim (hlt k) (fun z => absurd z hk2)) ?_ u_fl_L_9 dL_act_52 (fun H locs hw => ?_)
  · rw [va_up_self, sh163 hX2.2 (by omega) (by decide), sh16 kd_92, show lab ad2 92 163 (nf + 1) (1000 + 92) = nf + 1 from lab_len]
    exact congrArg (fun z => Sum.inl (cA 1, nf + 1, Qr z)) (qr_congr (fun i2 hi2 => lab_ne (by omega) (by omega)))
  have hL3 : Lm ((L ++ [95 + nf] ++ [163]).filter (fun x => x != 163)) (lab ad2 92 163 (nf + 1)) (nf + 1) ns nr []  := by
    refine ⟨fun k => ?_, ⟨lab_len, by rw [lab_ne (by decide) (by decide)]; exact len2.2.1, by rw [lab_ne (by decide) (by decide)]; exact len2.2.2⟩, ⟨by omega, by omega, by omega⟩, fun k hk => by cases hk⟩
    rw [List.mem_filter]
    constructor
    · rintro ⟨h1, h2⟩
      have h2 : k ≠ 163 := by simpa using h2
      rcases in2 k h1 with h | h
      · rcases inL k h with h | h
        · rcases (hL.1 k).mp h with z | z | z | z | z
          · exact Or.inl z
          · exact Or.inr (Or.inl (by omega))
          · exact Or.inr (Or.inr (Or.inl (by omega)))
          · exact Or.inr (Or.inr (Or.inr (Or.inl (by omega))))
          · cases z
        · exact Or.inr (Or.inl (by omega))
      · exact absurd h h2
    · intro h
      have h163 : k ≠ 163 := by
        rcases h with z | z | z | z | z
        · omega
        · omega
        · omega
        · omega
        · cases z
      refine ⟨List.mem_append_left _ ?_, by simpa using h163⟩
      by_cases q : k = 95 + nf
      · subst q; exact mk
      · refine mL k ((hL.1 k).mpr ?_)
        rcases h with z | z | z | z | z
        · exact Or.inl z
        · exact Or.inr (Or.inl (by omega))
        · exact Or.inr (Or.inr (Or.inl (by omega)))
        · exact Or.inr (Or.inr (Or.inr (Or.inl z)))
        · cases z
  have a3 : ∀ k, k < 92 → lab ad2 92 163 (nf + 1) k = ad k := fun k hk => by rw [lab_ne (by omega) (by omega), hX2.1 k (by omega) (by omega), hX.1 k (by omega) (by omega)]
  have a30 : lab ad2 92 163 (nf + 1) 0 = ad2 0 := lab_ne (by omega) (by omega)
  have e163 : ∀ q, q ≠ 163 → va_up κ1 163 (rr (nf + 1) 95) q = κ1 q := fun q hq => va_up_ne _ _ hq
  generalize (L ++ [95 + nf] ++ [163]).filter (fun x => x != 163) = L3 at hw hL3
  generalize lab ad2 92 163 (nf + 1) = ad3 at hw hL3 a3 a30
  generalize va_up κ1 163 (rr (nf + 1) 95) = κ3 at hw e163
  have hl : lv_has ls 20 [(3, .int (nI (nf))), (0, .ref (ad3 0)), (1, .ref (ad2 91))] := by rw [a30]; exact hl
  refine lv_aload_n hM.x hM.b dL_act_55 rfl (lv_at hl 1 rfl) ?_
  obtain ⟨κ9, he, hR9, -⟩ := op_addFire (κ1 := κ3) hR hn (fun q q1 q2 => (e163 q (by omega)).trans (ko q q2)) (by rw [e163 _ (by omega)]; exact kv0) (by rw [e163 _ (by omega)]; exact kv1)
  refine k_xiK he hw (k_runXV [] [] hM hw (m_X4_addFire l ((D, L3), cA, ad3) κ3 _ hlst) (hw.dm kd_0 (by decide)) (sh4 kd_0) rfl (k_gV u_ml_L_25 u_im_X4_addFire u_se_X4_addFire u_ini_X4 u_co_X4_addFire) q_X4_addFire rfl rfl rfl ⟨(Nat.le_of_ble_eq_true rfl), (Nat.le_of_ble_eq_true rfl)⟩ hl.1 rfl (Nat.le_of_ble_eq_true rfl) dL_act_56 ⟨(Nat.le_of_ble_eq_true rfl), (Nat.le_of_ble_eq_true rfl)⟩) (fun H locs hw => ?_)
  refine lv_iload_n hM.x hM.b dL_act_59 rfl (lv_at hl 0 rfl) ?_
  refine lv_icmp_ne (tgt := 67) hM.x hM.b dL_act_60 (by decide) (fun cz => absurd rfl cz) (fun _ => ?_)
  refine lv_iconst (v := 1) hM.x hM.b dL_act_63 (by decide) ?_
  refine lv_goto (tgt := 68) hM.x hM.b dL_act_64 (by decide) ?_
  exact a_zret (b := true) (u := ((L3, ad3), κ9)) hM hr hw.2.1 (Nat.le_of_ble_eq_true rfl) (Nat.le_of_ble_eq_true rfl) ⟨rfl, ⟨nf + 1, ns, nr, hL3, hR9⟩, (fun k hk => (a3 k hk).trans (had k hk))⟩ (fun t ht => ⟨by rw [ht]; exact hw.1, hw.2.2.1⟩) dL_act_68
set_option maxRecDepth 100000 in
set_option maxHeartbeats 4000000 in
theorem act_addspit {p : Program} {e : Env} {s : State} {m : MethodId} {args : Array Value} {below : List Frame} {meth : Method} {c : Code} {A : Nat → Prop} {D : va_G} {cA : Nat → ClassId} {L : List Nat} {ad ad0 : Nat → Nat} {nf ns nr : Nat} {κ : Kp} {x : Int32} (l : Launch) (hlst : l.stackTraces = false) (hM : Ma A D cA p s m args meth c cL_act 20 RL) (hr : meth.sig.returnType = some .boolean) (hL : Lm L ad nf ns nr []) (hR : RR nf ns nr κ) (had : ∀ k, k < 92 → ad k = ad0 k) {f0 : Nat} (hf : f0 < nf) (hn : ns < 6) {H : Heap} {locs : List Loc} {ls : Array Slot} (hw : Wa A D cA L ad s κ H locs) (hl : lv_has ls 20 [(6, .int (nI (ns))), (5, .int (nI (f0))), (0, .ref (ad (0))), (1, .ref (ad (91))), (2, .int (x))]) : W p l e { frames := 8, cells := 130, slots := 600, locals := 250 } s m args below meth c H locs 0 0 (MQ below (va_Qi (actP ad0) (Wu D cA A) A) args s 130 600 A) (F0 m 105 ls []) := by
  have hb := hR.b
  have nk : 98 + ns ∉ L := hL.noN (by omega)
  have hlL := hw.2.2.1.2.2.2.2
  refine lv_aload_n hM.x hM.b dL_act_105 rfl (lv_at hl 3 rfl) ?_
  refine lv_aload_n hM.x hM.b dL_act_106 rfl (lv_at hl 3 rfl) ?_
  refine k_get6r 1 hM hw hL.m91 (by decide) u_fl_L_31 dL_act_107 ?_
  refine lv_bipush (v := nI 6) hM.x hM.b dL_act_110 (by decide) ?_
  refine a_newI (N := 6) (98 + ns) hM hw nk (by omega) (fun j hj x hx => hL.depA (by omega) (by omega) nk hj hx) (fun ad2 h r => sh20 (kdS ns (by omega))) rfl (by omega) (Nat.le_of_ble_eq_true rfl) (Nat.le_of_ble_eq_true rfl) dL_act_112 (fun ad1 H hX hw => ?_)
  rw [show ad (92 + 1) = ad1 93 from (hX.1 93 (by omega) (by omega)).symm, ← hX.1 91 (by omega) (by omega)]
  have hl : lv_has ls 20 [(6, .int (nI (ns))), (5, .int (nI (f0))), (0, .ref (ad1 0)), (1, .ref (ad1 91)), (2, .int (x))] := by rw [hX.1 0 (by omega) (by omega), hX.1 91 (by omega) (by omega)]; exact hl
  have mk : 98 + ns ∈ L ++ [98 + ns] := List.mem_append_right _ (List.mem_singleton_self _)
  refine lv_dup hM.x hM.b dL_act_114 rfl ?_
  refine lv_iconst (v := nI 0) hM.x hM.b dL_act_115 (by decide) ?_
  refine lv_iload hM.x hM.b dL_act_116 (lv_at hl 1 rfl) ?_
  refine k_iastN (i := 0) (n := 6) hM hw mk (fun r => sh20 (kdS ns (by omega))) (by decide) (by decide) dL_act_118 (fun H locs hw => ?_)
  refine lv_dup hM.x hM.b dL_act_119 rfl ?_
  refine lv_iconst (v := nI 1) hM.x hM.b dL_act_120 (by decide) ?_
  refine lv_iconst (v := nI 1) hM.x hM.b dL_act_121 (by decide) ?_
  refine lv_iload_n hM.x hM.b dL_act_122 rfl (lv_at hl 4 rfl) ?_
  refine lv_iconst (v := 3) hM.x hM.b dL_act_123 (by decide) ?_
  refine lv_ishr hM.x hM.b dL_act_124 ?_
  refine lv_iconst (v := nI 3) hM.x hM.b dL_act_125 (by decide) ?_
  obtain ⟨d, hd, ed⟩ := below_in (x >>> (3 &&& 31)) 3 (by decide) (by decide)
  refine k_cip hw (k_runS [.int (x >>> (3 &&& 31)), .int (nI 3)] [.int (nI 1), .int (nI 1), .ref (ad1 (98 + ns)), .ref (ad1 (98 + ns)), .ref (ad1 93), .ref (ad1 91)] hM hw (m_L_below l ((D, L ++ [98 + ns]), cA, ad1) (up2 (va_up κ (98 + ns) (fun _ => 0)) (98 + ns) 0 (nI f0)) _ (x >>> (3 &&& 31)) (nI 3) (by decide)) (k_gS u_ml_L_15 u_st_L_below u_ini_L u_co_L_below) q_L_below rfl rfl rfl ⟨(Nat.le_of_ble_eq_true rfl), (Nat.le_of_ble_eq_true rfl)⟩ hl.1 rfl (Nat.le_of_ble_eq_true rfl) dL_act_126 ⟨(Nat.le_of_ble_eq_true rfl), (Nat.le_of_ble_eq_true rfl)⟩) (fun H locs hw => ?_)
  rw [ed]
  refine k_iaddN (a := 1) (b := d) hM dL_act_129 ?_
  refine k_iastN (i := 1) (n := 6) hM hw mk (fun r => sh20 (kdS ns (by omega))) (by decide) (by decide) dL_act_130 (fun H locs hw => ?_)
  refine lv_dup hM.x hM.b dL_act_131 rfl ?_
  refine lv_iconst (v := nI 2) hM.x hM.b dL_act_132 (by decide) ?_
  refine lv_iconst (v := 0) hM.x hM.b dL_act_133 (by decide) ?_
  refine k_iastN (i := 2) (n := 6) hM hw mk (fun r => sh20 (kdS ns (by omega))) (by decide) (by decide) dL_act_134 (fun H locs hw => ?_)
  refine lv_dup hM.x hM.b dL_act_135 rfl ?_
  refine lv_iconst (v := nI 3) hM.x hM.b dL_act_136 (by decide) ?_
  refine lv_iconst (v := (-1)) hM.x hM.b dL_act_137 (by decide) ?_
  refine k_iastN (i := 3) (n := 6) hM hw mk (fun r => sh20 (kdS ns (by omega))) (by decide) (by decide) dL_act_138 (fun H locs hw => ?_)
  refine lv_dup hM.x hM.b dL_act_139 rfl ?_
  refine lv_iconst (v := nI 4) hM.x hM.b dL_act_140 (by decide) ?_
  refine lv_iconst (v := 0) hM.x hM.b dL_act_141 (by decide) ?_
  refine k_iastN (i := 4) (n := 6) hM hw mk (fun r => sh20 (kdS ns (by omega))) (by decide) (by decide) dL_act_142 (fun H locs hw => ?_)
  refine lv_dup hM.x hM.b dL_act_143 rfl ?_
  refine lv_iconst (v := nI 5) hM.x hM.b dL_act_144 (by decide) ?_
  refine lv_iconst (v := 0) hM.x hM.b dL_act_145 (by decide) ?_
  refine k_iastN (i := 5) (n := 6) hM hw mk (fun r => sh20 (kdS ns (by omega))) (by decide) (by decide) dL_act_146 (fun H locs hw => ?_)
  obtain ⟨κ1, e1⟩ : ∃ κ1, up2 (up2 (up2 (up2 (up2 (up2 (va_up κ (98 + ns) (fun _ => 0)) (98 + ns) 0 (nI f0)) (98 + ns) 1 (nI (1 + d))) (98 + ns) 2 (0)) (98 + ns) 3 ((-1))) (98 + ns) 4 (0)) (98 + ns) 5 (0) = κ1 := ⟨_, rfl⟩
  rw [e1] at hw
  have ko : ∀ q, q ≠ 98 + ns → κ1 q = κ q := fun q hq => by rw [← e1, up2_row hq, up2_row hq, up2_row hq, up2_row hq, up2_row hq, up2_row hq, va_up_ne _ _ hq]
  have kv0 : κ1 (98 + ns) 0 = nI f0 := by rw [← e1, up2_ne _ _ (by omega), up2_ne _ _ (by omega), up2_ne _ _ (by omega), up2_ne _ _ (by omega), up2_ne _ _ (by omega), up2_self]
  have kv1 : κ1 (98 + ns) 1 = nI (1 + d) := by rw [← e1, up2_ne _ _ (by omega), up2_ne _ _ (by omega), up2_ne _ _ (by omega), up2_ne _ _ (by omega), up2_self]
  have kv2 : κ1 (98 + ns) 2 = 0 := by rw [← e1, up2_ne _ _ (by omega), up2_ne _ _ (by omega), up2_ne _ _ (by omega), up2_self]
  have kv3 : κ1 (98 + ns) 3 = -1 := by rw [← e1, up2_ne _ _ (by omega), up2_ne _ _ (by omega), up2_self]
  have kv4 : κ1 (98 + ns) 4 = 0 := by rw [← e1, up2_ne _ _ (by omega), up2_self]
  have kv5 : κ1 (98 + ns) 5 = 0 := by rw [← e1, up2_self]
  have inL : ∀ j, j ∈ L ++ [98 + ns] → j ∈ L ∨ j = 98 + ns := fun j hj => (List.mem_append.mp hj).imp id (fun z => List.mem_singleton.mp z)
  have mL : ∀ j, j ∈ L → j ∈ L ++ [98 + ns] := fun j hj => List.mem_append_left _ hj
  have hlt : ∀ j ∈ L ++ [98 + ns], j < 136 := fun j hj => by
    rcases inL j hj with h | h
    · rcases (hL.1 j).mp h with z | z | z | z | z
      · omega
      · omega
      · omega
      · omega
      · cases z
    · omega
  have n163 : 163 ∉ L ++ [98 + ns] := fun q => by have := hlt 163 q; omega
  have hd163 : ∀ j ∈ L ++ [98 + ns], ∀ x, dep ad1 j (κ1 j) x → x ≠ 163 ∧ x ≠ 1000 + 163 := by
    intro j hj x hx
    rcases inL j hj with h | h
    · have hjc : j ≠ 98 + ns := fun z => nk (z ▸ h)
      have hj1 := hlt j hj
      have hx2 : dep ad j (κ1 j) x := by
        unfold dep at hx ⊢
        rw [show ad1 (1000 + j) = ad (1000 + j) from hX.1 _ (by omega) (by omega)] at hx
        exact hx
      exact hL.depA (by decide) (by decide) (hL.noN (by omega)) h hx2
    · subst h
      unfold dep at hx
      rw [(kdS ns (by omega))] at hx
      exact hx.elim
  have len1 : ad1 1092 = nf ∧ ad1 1093 = ns ∧ ad1 1094 = nr := ⟨by rw [hX.1 _ (by omega) (by omega)]; exact hL.2.1.1, by rw [hX.1 _ (by omega) (by omega)]; exact hL.2.1.2.1, by rw [hX.1 _ (by omega) (by omega)]; exact hL.2.1.2.2⟩
  have shr : sh cA ad1 93 (κ1 93) = .inl (cA 1, ns, Qr (fun i => if i < ns then some (ad1 (98 + i)) else none)) := by rw [sh17 kd_93, show ad1 (1000 + 93) = ns from len1.2.1]
  refine k_cwr (tr := fun u => u.1.2 163) hw (k_runS [.ref (ad1 93), .ref (ad1 (98 + ns))] [.ref (ad1 91)] hM hw (m_X6_with l ((D, L ++ [98 + ns]), cA, ad1) κ1 _ (kr := 93) (n := ns) (n2 := 6) (base := 98) (mL _ hL.m93) shr (fun i hi => ⟨?_, ?_⟩) n163 hd163 (by omega) (by decide)) (k_gS u_ml_L_21 u_st_X6_with u_ini_X6 u_co_X6_with) q_X6_with rfl rfl rfl ⟨(Nat.le_of_ble_eq_true rfl), (Nat.le_of_ble_eq_true rfl)⟩ hl.1 rfl (Nat.le_of_ble_eq_true rfl) dL_act_147 ⟨(Nat.le_of_ble_eq_true rfl), (Nat.le_of_ble_eq_true rfl)⟩) (fun L2 ad2 κ2 H locs hp hw => ?_)
  · by_cases q : i = ns
    · subst q; exact mk
    · exact mL _ (hL.S (by omega))
  · exact sh20 (kdS i (by omega))
  obtain ⟨hL2, hX2, hκ2⟩ := hp
  replace hL2 : L2 = L ++ [98 + ns] ++ [163] := hL2
  replace hκ2 : κ2 = va_up κ1 163 (rr (ns + 1) 98) := hκ2
  replace hX2 : AdX ad1 ad2 163 (ns + 1) := hX2
  subst hL2
  subst hκ2
  have hl : lv_has ls 20 [(6, .int (nI (ns))), (5, .int (nI (f0))), (0, .ref (ad2 0)), (1, .ref (ad2 91)), (2, .int (x))] := by rw [hX2.1 0 (by omega) (by omega), hX2.1 91 (by omega) (by omega)]; exact hl
  rw [← hX2.1 91 (by omega) (by omega)]
  have m163 : 163 ∈ L ++ [98 + ns] ++ [163] := List.mem_append_right _ (List.mem_singleton_self _)
  have len2 : ad2 1092 = nf ∧ ad2 1093 = ns ∧ ad2 1094 = nr := ⟨by rw [hX2.1 _ (by omega) (by omega)]; exact len1.1, by rw [hX2.1 _ (by omega) (by omega)]; exact len1.2.1, by rw [hX2.1 _ (by omega) (by omega)]; exact len1.2.2⟩
  have in2 : ∀ j, j ∈ L ++ [98 + ns] ++ [163] → j ∈ L ++ [98 + ns] ∨ j = 163 := fun j hj => (List.mem_append.mp hj).imp id (fun z => List.mem_singleton.mp z)
  refine W.eq (g2 := F0 m (147 + 3) ls [.ref (ad2 163), .ref (ad2 91)]) rfl ?_
  refine k_relab 93 163 (ns + 1) hM hw (List.mem_append_left _ (mL _ hL.m91)) ⟨by omega, by omega, by omega⟩ ⟨by decide, by decide⟩ m163 (by decide) (fun k hk hk2 => (in2 k hk).elim (hlt k) (fun z => absurd z hk2)) ?_ u_fl_L_31 dL_act_150 (fun H locs hw => ?_)
  · rw [va_up_self, sh163 hX2.2 (by omega) (by decide), sh17 kd_93, show lab ad2 93 163 (ns + 1) (1000 + 93) = ns + 1 from lab_len]
    exact congrArg (fun z => Sum.inl (cA 1, ns + 1, Qr z)) (qr_congr (fun i2 hi2 => lab_ne (by omega) (by omega)))
  have hL3 : Lm ((L ++ [98 + ns] ++ [163]).filter (fun x => x != 163)) (lab ad2 93 163 (ns + 1)) nf (ns + 1) nr []  := by
    refine ⟨fun k => ?_, ⟨by rw [lab_ne (by decide) (by decide)]; exact len2.1, lab_len, by rw [lab_ne (by decide) (by decide)]; exact len2.2.2⟩, ⟨by omega, by omega, by omega⟩, fun k hk => by cases hk⟩
    rw [List.mem_filter]
    constructor
    · rintro ⟨h1, h2⟩
      have h2 : k ≠ 163 := by simpa using h2
      rcases in2 k h1 with h | h
      · rcases inL k h with h | h
        · rcases (hL.1 k).mp h with z | z | z | z | z
          · exact Or.inl z
          · exact Or.inr (Or.inl (by omega))
          · exact Or.inr (Or.inr (Or.inl (by omega)))
          · exact Or.inr (Or.inr (Or.inr (Or.inl (by omega))))
          · cases z
        · exact Or.inr (Or.inr (Or.inl (by omega)))
      · exact absurd h h2
    · intro h
      have h163 : k ≠ 163 := by
        rcases h with z | z | z | z | z
        · omega
        · omega
        · omega
        · omega
        · cases z
      refine ⟨List.mem_append_left _ ?_, by simpa using h163⟩
      by_cases q : k = 98 + ns
      · subst q; exact mk
      · refine mL k ((hL.1 k).mpr ?_)
        rcases h with z | z | z | z | z
        · exact Or.inl z
        · exact Or.inr (Or.inl (by omega))
        · exact Or.inr (Or.inr (Or.inl (by omega)))
        · exact Or.inr (Or.inr (Or.inr (Or.inl z)))
        · cases z
  have a3 : ∀ k, k < 92 → lab ad2 93 163 (ns + 1) k = ad k := fun k hk => by rw [lab_ne (by omega) (by omega), hX2.1 k (by omega) (by omega), hX.1 k (by omega) (by omega)]
  have a30 : lab ad2 93 163 (ns + 1) 0 = ad2 0 := lab_ne (by omega) (by omega)
  have e163 : ∀ q, q ≠ 163 → va_up κ1 163 (rr (ns + 1) 98) q = κ1 q := fun q hq => va_up_ne _ _ hq
  generalize (L ++ [98 + ns] ++ [163]).filter (fun x => x != 163) = L3 at hw hL3
  generalize lab ad2 93 163 (ns + 1) = ad3 at hw hL3 a3 a30
  generalize va_up κ1 163 (rr (ns + 1) 98) = κ3 at hw e163
  have hl : lv_has ls 20 [(6, .int (nI (ns))), (5, .int (nI (f0))), (0, .ref (ad3 0)), (1, .ref (ad2 91)), (2, .int (x))] := by rw [a30]; exact hl
  refine lv_aload_n hM.x hM.b dL_act_153 rfl (lv_at hl 2 rfl) ?_
  obtain ⟨κ9, he, hR9, -⟩ := op_addSpit (κ1 := κ3) (f := f0) (w := 1 + d) hR hf (by omega) (by omega) hn (fun q q1 q2 => (e163 q (by omega)).trans (ko q q2)) (by rw [e163 _ (by omega)]; exact kv0) (by rw [e163 _ (by omega)]; exact kv1) (by rw [e163 _ (by omega)]; exact kv2) (by rw [e163 _ (by omega)]; exact kv3) (by rw [e163 _ (by omega)]; exact kv4) (by rw [e163 _ (by omega)]; exact kv5)
  refine lv_iload hM.x hM.b dL_act_154 (lv_at hl 1 rfl) ?_
  refine lv_iconst (v := nI 1) hM.x hM.b dL_act_156 (by decide) ?_
  refine lv_iload_n hM.x hM.b dL_act_157 rfl (lv_at hl 4 rfl) ?_
  refine lv_iconst (v := 3) hM.x hM.b dL_act_158 (by decide) ?_
  refine lv_ishr hM.x hM.b dL_act_159 ?_
  refine lv_iconst (v := nI 3) hM.x hM.b dL_act_160 (by decide) ?_
  refine k_cip hw (k_runS [.int (x >>> (3 &&& 31)), .int (nI 3)] [.int (nI 1), .int (nI f0), .ref (ad3 0)] hM hw (m_L_below l ((D, L3), cA, ad3) κ3 _ (x >>> (3 &&& 31)) (nI 3) (by decide)) (k_gS u_ml_L_15 u_st_L_below u_ini_L u_co_L_below) q_L_below rfl rfl rfl ⟨(Nat.le_of_ble_eq_true rfl), (Nat.le_of_ble_eq_true rfl)⟩ hl.1 rfl (Nat.le_of_ble_eq_true rfl) dL_act_161 ⟨(Nat.le_of_ble_eq_true rfl), (Nat.le_of_ble_eq_true rfl)⟩) (fun H locs hw => ?_)
  rw [ed]
  refine k_iaddN (a := 1) (b := d) hM dL_act_164 ?_
  refine k_xiK he hw (k_runXV [.int (nI f0), .int (nI (1 + d))] [] hM hw (m_X4_addSpit l ((D, L3), cA, ad3) κ3 _ (nI f0) (nI (1 + d)) hlst) (hw.dm kd_0 (by decide)) (sh4 kd_0) rfl (k_gV u_ml_L_34 u_im_X4_addSpit u_se_X4_addSpit u_ini_X4 u_co_X4_addSpit) q_X4_addSpit rfl rfl rfl ⟨(Nat.le_of_ble_eq_true rfl), (Nat.le_of_ble_eq_true rfl)⟩ hl.1 rfl (Nat.le_of_ble_eq_true rfl) dL_act_165 ⟨(Nat.le_of_ble_eq_true rfl), (Nat.le_of_ble_eq_true rfl)⟩) (fun H locs hw => ?_)
  refine lv_iload hM.x hM.b dL_act_168 (lv_at hl 0 rfl) ?_
  refine lv_icmp_ne (tgt := 177) hM.x hM.b dL_act_170 (by decide) (fun cz => absurd rfl cz) (fun _ => ?_)
  refine lv_iconst (v := 1) hM.x hM.b dL_act_173 (by decide) ?_
  refine lv_goto (tgt := 178) hM.x hM.b dL_act_174 (by decide) ?_
  exact a_zret (b := true) (u := ((L3, ad3), κ9)) hM hr hw.2.1 (Nat.le_of_ble_eq_true rfl) (Nat.le_of_ble_eq_true rfl) ⟨rfl, ⟨nf, ns + 1, nr, hL3, hR9⟩, (fun k hk => (a3 k hk).trans (had k hk))⟩ (fun t ht => ⟨by rw [ht]; exact hw.1, hw.2.2.1⟩) dL_act_178
