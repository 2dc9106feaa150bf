theorem q_L_act : hdV yL_act RL 3 := ⟨rfl, by decide +kernel, by decide +kernel, by decide +kernel⟩
set_option maxRecDepth 100000 in
set_option maxHeartbeats 4000000 in
theorem m_L_act (l : Launch) (g : Gt) (κ : Kp) (sz : Nat) {nf ns nr : Nat} (x : Int32) (hlst : l.stackTraces = false) (hL : Lm g.1.2 g.2.2 nf ns nr []) (hR : RR nf ns nr κ) : Met l yL_act (.code yL_act cL_act 20 (some .boolean) :: uW) { frames := 8, cells := 130, slots := 600, locals := 250 } (PRE g κ sz [.ref (g.2.2 0), .ref (g.2.2 91), .int x]) (va_Qi (actP g.2.2) (Wu g.1.1 g.2.1 (fr g sz)) (fr g sz)) 130 600 (fr g sz) := by
  refine k_enter (by decide +kernel) (Nat.le_of_ble_eq_true rfl) ?_
  intro p e s m below meth c ls hM hr hl hw hsz
  subst hsz
  have hl : lv_has ls 20 [(0, .ref (g.2.2 0)), (1, .ref (g.2.2 91)), (2, .int x)] := hl
  have hb := hR.b
  have had : ∀ k, k < 92 → g.2.2 k = g.2.2 k := fun _ _ => rfl
  refine lv_aload_n hM.x hM.b dL_act_0 rfl (lv_at hl 1 rfl) ?_
  refine k_get6r 0 hM hw hL.m91 (by decide) u_fl_L_9 dL_act_1 ?_
  refine k_alenD (n := nf) hM hw (hL.m92) 1 (lsh92 hL) rfl rfl dL_act_4 ?_
  refine lv_istore_n (lv' := [(3, .int (nI (nf))), (0, .ref (g.2.2 (0))), (1, .ref (g.2.2 (91))), (2, .int (x))]) hM.x hM.b dL_act_5 rfl hl (by decide) rfl (fun ls hl => ?_)
  refine lv_iload_n hM.x hM.b dL_act_6 rfl (lv_at hl 3 rfl) ?_
  refine lv_bipush (v := 9) hM.x hM.b dL_act_7 (by decide) ?_
  refine lv_ishr hM.x hM.b dL_act_9 ?_
  refine lv_bipush (v := nI 24) hM.x hM.b dL_act_10 (by decide) ?_
  obtain ⟨d1, hd1, ed1⟩ := below_in (((x) >>> ((9) &&& 31))) (24) (by decide) (by omega)
  refine k_cip hw (k_runS [.int (((x) >>> ((9) &&& 31))), .int (nI (24))] [] hM hw (m_L_below l ((g.1.1, g.1.2), g.2.1, g.2.2) κ _ (((x) >>> ((9) &&& 31))) (nI (24)) (by decide)) (k_gS u_ml_L_15 u_st_L_below u_ini_L u_co_L_below) q_L_below rfl rfl rfl ⟨(Nat.le_of_ble_eq_true rfl), (Nat.le_of_ble_eq_true rfl)⟩ hl.1 rfl (Nat.le_of_ble_eq_true rfl) dL_act_12 ⟨(Nat.le_of_ble_eq_true rfl), (Nat.le_of_ble_eq_true rfl)⟩) (fun H locs hw => ?_)
  rw [ed1]
  refine lv_istore (lv' := [(4, .int (nI (d1))), (3, .int (nI (nf))), (0, .ref (g.2.2 (0))), (1, .ref (g.2.2 (91))), (2, .int (x))]) hM.x hM.b dL_act_15 hl (by decide) rfl (fun ls hl => ?_)
  refine lv_iload_n hM.x hM.b dL_act_17 rfl (lv_at hl 1 rfl) ?_
  refine lv_if_eq (tgt := 26) hM.x hM.b dL_act_18 (by decide) (fun c1 => ?_) (fun c1 => ?_)
  · skip
    refine lv_iload_n hM.x hM.b dL_act_26 rfl (lv_at hl 1 rfl) ?_
    refine lv_iconst (v := 3) hM.x hM.b dL_act_27 (by decide) ?_
    refine lv_icmp_ne (tgt := 33) hM.x hM.b dL_act_28 (by decide) (fun c2 => ?_) (fun c2 => ?_)
    · skip
      have h3 : nf ≠ 3 := fun z => c2 (congrArg nI z)
      exact act_addfire (x := x) l hlst hM hr hL hR had (by omega) hw (lv_sub hl [1, 2, 3] rfl)
    · skip
      refine lv_iconst (v := 1) hM.x hM.b dL_act_31 (by decide) ?_
      exact a_zret (b := true) (u := ((g.1.2, g.2.2), κ)) hM hr hw.2.1 (Nat.le_of_ble_eq_true rfl) (Nat.le_of_ble_eq_true rfl) ⟨rfl, ⟨nf, ns, nr, hL, hR⟩, had⟩ (fun t ht => ⟨by rw [ht]; exact hw.1, hw.2.2.1⟩) dL_act_32
  · skip
    refine lv_iload hM.x hM.b dL_act_21 (lv_at hl 0 rfl) ?_
    refine lv_if_ne (tgt := 69) hM.x hM.b dL_act_23 (by decide) (fun c3 => ?_) (fun c3 => ?_)
    · skip
      have hnf0 : 0 < nf := Nat.pos_of_ne_zero (fun z => c1 (congrArg nI z))
      refine lv_iload_n hM.x hM.b dL_act_69 rfl (lv_at hl 4 rfl) ?_
      refine lv_iconst (v := 1) hM.x hM.b dL_act_70 (by decide) ?_
      refine lv_ishr hM.x hM.b dL_act_71 ?_
      refine lv_iload_n hM.x hM.b dL_act_72 rfl (lv_at hl 1 rfl) ?_
      obtain ⟨d2, hd2, ed2⟩ := below_in (((x) >>> ((1) &&& 31))) (nf) (by omega) (by omega)
      refine k_cip hw (k_runS [.int (((x) >>> ((1) &&& 31))), .int (nI (nf))] [] hM hw (m_L_below l ((g.1.1, g.1.2), g.2.1, g.2.2) κ _ (((x) >>> ((1) &&& 31))) (nI (nf)) c1) (k_gS u_ml_L_15 u_st_L_below u_ini_L u_co_L_below) q_L_below rfl rfl rfl ⟨(Nat.le_of_ble_eq_true rfl), (Nat.le_of_ble_eq_true rfl)⟩ hl.1 rfl (Nat.le_of_ble_eq_true rfl) dL_act_73 ⟨(Nat.le_of_ble_eq_true rfl), (Nat.le_of_ble_eq_true rfl)⟩) (fun H locs hw => ?_)
      rw [ed2]
      refine lv_istore (lv' := [(5, .int (nI (d2))), (4, .int (nI (d1))), (3, .int (nI (nf))), (0, .ref (g.2.2 (0))), (1, .ref (g.2.2 (91))), (2, .int (x))]) hM.x hM.b dL_act_76 hl (by decide) rfl (fun ls hl => ?_)
      refine lv_aload_n hM.x hM.b dL_act_78 rfl (lv_at hl 4 rfl) ?_
      refine k_get6r 1 hM hw hL.m91 (by decide) u_fl_L_31 dL_act_79 ?_
      refine k_alenD (n := ns) hM hw (hL.m93) 1 (lsh93 hL) rfl rfl dL_act_82 ?_
      refine lv_istore (lv' := [(6, .int (nI (ns))), (5, .int (nI (d2))), (4, .int (nI (d1))), (3, .int (nI (nf))), (0, .ref (g.2.2 (0))), (1, .ref (g.2.2 (91))), (2, .int (x))]) hM.x hM.b dL_act_83 hl (by decide) rfl (fun ls hl => ?_)
      refine lv_iload hM.x hM.b dL_act_85 (lv_at hl 0 rfl) ?_
      refine lv_if_eq (tgt := 96) hM.x hM.b dL_act_87 (by decide) (fun c4 => ?_) (fun c4 => ?_)
      · skip
        refine lv_iload hM.x hM.b dL_act_96 (lv_at hl 0 rfl) ?_
        refine lv_bipush (v := 6) hM.x hM.b dL_act_98 (by decide) ?_
        refine lv_icmp_ne (tgt := 105) hM.x hM.b dL_act_100 (by decide) (fun c5 => ?_) (fun c5 => ?_)
        · skip
          have h6 : ns ≠ 6 := fun z => c5 (congrArg nI z)
          exact act_addspit (x := x) l hlst hM hr hL hR had (f0 := d2) hd2 (by omega) hw (lv_sub hl [0, 1, 4, 5, 6] rfl)
        · skip
          refine lv_iconst (v := 1) hM.x hM.b dL_act_103 (by decide) ?_
          exact a_zret (b := true) (u := ((g.1.2, g.2.2), κ)) hM hr hw.2.1 (Nat.le_of_ble_eq_true rfl) (Nat.le_of_ble_eq_true rfl) ⟨rfl, ⟨nf, ns, nr, hL, hR⟩, had⟩ (fun t ht => ⟨by rw [ht]; exact hw.1, hw.2.2.1⟩) dL_act_104
      · skip
        refine lv_iload hM.x hM.b dL_act_90 (lv_at hl 2 rfl) ?_
        refine lv_iconst (v := nI 3) hM.x hM.b dL_act_92 (by decide) ?_
        refine lv_icmp_ge (tgt := 179) hM.x hM.b dL_act_93 (by decide) (fun c6 => ?_) (fun c6 => ?_)
        · skip
          have hns0 : 0 < ns := Nat.pos_of_ne_zero (fun z => c4 (congrArg nI z))
          refine lv_iload_n hM.x hM.b dL_act_179 rfl (lv_at hl 6 rfl) ?_
          refine lv_iconst (v := 2) hM.x hM.b dL_act_180 (by decide) ?_
          refine lv_ishr hM.x hM.b dL_act_181 ?_
          refine lv_iload hM.x hM.b dL_act_182 (lv_at hl 0 rfl) ?_
          obtain ⟨d3, hd3, ed3⟩ := below_in (((x) >>> ((2) &&& 31))) (ns) (by omega) (by omega)
          refine k_cip hw (k_runS [.int (((x) >>> ((2) &&& 31))), .int (nI (ns))] [] hM hw (m_L_below l ((g.1.1, g.1.2), g.2.1, g.2.2) κ _ (((x) >>> ((2) &&& 31))) (nI (ns)) c4) (k_gS u_ml_L_15 u_st_L_below u_ini_L u_co_L_below) q_L_below rfl rfl rfl ⟨(Nat.le_of_ble_eq_true rfl), (Nat.le_of_ble_eq_true rfl)⟩ hl.1 rfl (Nat.le_of_ble_eq_true rfl) dL_act_184 ⟨(Nat.le_of_ble_eq_true rfl), (Nat.le_of_ble_eq_true rfl)⟩) (fun H locs hw => ?_)
          rw [ed3]
          refine lv_istore (lv' := [(7, .int (nI (d3))), (6, .int (nI (ns))), (5, .int (nI (d2))), (4, .int (nI (d1))), (3, .int (nI (nf))), (0, .ref (g.2.2 (0))), (1, .ref (g.2.2 (91))), (2, .int (x))]) hM.x hM.b dL_act_187 hl (by decide) rfl (fun ls hl => ?_)
          refine lv_aload_n hM.x hM.b dL_act_189 rfl (lv_at hl 6 rfl) ?_
          refine k_get6r 1 hM hw hL.m91 (by decide) u_fl_L_31 dL_act_190 ?_
          refine lv_iload hM.x hM.b dL_act_193 (lv_at hl 0 rfl) ?_
          refine k_aldaN (i := d3) (n := ns) (t := 1) (x := g.2.2 (98 + (d3))) hM hw (hL.m93) (lsh93 hL) rfl hd3 (by omega) (if_pos hd3) dL_act_195 ?_
          refine lv_astore (lv' := [(8, .ref (g.2.2 (98 + (d3)))), (7, .int (nI (d3))), (6, .int (nI (ns))), (5, .int (nI (d2))), (4, .int (nI (d1))), (3, .int (nI (nf))), (0, .ref (g.2.2 (0))), (1, .ref (g.2.2 (91))), (2, .int (x))]) hM.x hM.b dL_act_196 hl (by decide) rfl (fun ls hl => ?_)
          refine lv_iload hM.x hM.b dL_act_198 (lv_at hl 4 rfl) ?_
          have h3 : 3 ≤ d1 := (nIle (a := 3) (b := d1) (by decide) (by omega)).mp c6
          have hcs : d1 = 3 ∨ d1 = 4 ∨ d1 = 5 ∨ d1 = 6 ∨ d1 = 7 ∨ d1 = 8 ∨ d1 = 9 ∨ d1 = 10 ∨ d1 = 11 ∨ d1 = 12 ∨ d1 = 13 ∨ d1 = 14 ∨ d1 = 15 ∨ d1 = 16 ∨ d1 = 17 ∨ d1 = 18 ∨ 19 ≤ d1 := by omega
          rcases hcs with rfl | rfl | rfl | rfl | rfl | rfl | rfl | rfl | rfl | rfl | rfl | rfl | rfl | rfl | rfl | rfl | hdd
          · refine lv_tableIn (tgt := 280) hM.x hM.b dL_act_200 (by decide) (by decide) rfl (by decide) ?_
            exact act_layLogs l hlst hM hr hL hR had (f0 := d2) (s0 := d3) hd2 hd3 hw (lv_sub hl [6, 7, 8, 3, 1, 0] rfl)
          · refine lv_tableIn (tgt := 280) hM.x hM.b dL_act_200 (by decide) (by decide) rfl (by decide) ?_
            exact act_layLogs l hlst hM hr hL hR had (f0 := d2) (s0 := d3) hd2 hd3 hw (lv_sub hl [6, 7, 8, 3, 1, 0] rfl)
          · refine lv_tableIn (tgt := 280) hM.x hM.b dL_act_200 (by decide) (by decide) rfl (by decide) ?_
            exact act_layLogs l hlst hM hr hL hR had (f0 := d2) (s0 := d3) hd2 hd3 hw (lv_sub hl [6, 7, 8, 3, 1, 0] rfl)
          · refine lv_tableIn (tgt := 357) hM.x hM.b dL_act_200 (by decide) (by decide) rfl (by decide) ?_
            exact act_moveSpit l hlst hM hr hL hR had (f0 := d2) (s0 := d3) hd2 hd3 hw (lv_sub hl [6, 7, 8, 3, 1, 0] rfl)
          · refine lv_tableIn (tgt := 397) hM.x hM.b dL_act_200 (by decide) (by decide) rfl (by decide) ?_
            exact act_turnEach l hlst hM hr hL hR had (f0 := d2) (s0 := d3) hd2 hd3 hw (lv_sub hl [6, 7, 8, 3, 1, 0] rfl)
          · refine lv_tableIn (tgt := 397) hM.x hM.b dL_act_200 (by decide) (by decide) rfl (by decide) ?_
            exact act_turnEach l hlst hM hr hL hR had (f0 := d2) (s0 := d3) hd2 hd3 hw (lv_sub hl [6, 7, 8, 3, 1, 0] rfl)
          · refine lv_tableIn (tgt := 397) hM.x hM.b dL_act_200 (by decide) (by decide) rfl (by decide) ?_
            exact act_turnEach l hlst hM hr hL hR had (f0 := d2) (s0 := d3) hd2 hd3 hw (lv_sub hl [6, 7, 8, 3, 1, 0] rfl)
          · refine lv_tableIn (tgt := 441) hM.x hM.b dL_act_200 (by decide) (by decide) rfl (by decide) ?_
            exact act_setFeast l hlst hM hr hL hR had (f0 := d2) (s0 := d3) hd2 hd3 hw (lv_sub hl [6, 7, 8, 3, 1, 0] rfl)
          · refine lv_tableIn (tgt := 493) hM.x hM.b dL_act_200 (by decide) (by decide) rfl (by decide) ?_
            exact act_hang l hlst hM hr hL hR had (f0 := d2) (s0 := d3) hd2 hd3 hw (lv_sub hl [6, 7, 8, 3, 1, 0] rfl)
          · refine lv_tableIn (tgt := 493) hM.x hM.b dL_act_200 (by decide) (by decide) rfl (by decide) ?_
            exact act_hang l hlst hM hr hL hR had (f0 := d2) (s0 := d3) hd2 hd3 hw (lv_sub hl [6, 7, 8, 3, 1, 0] rfl)
          · refine lv_tableIn (tgt := 493) hM.x hM.b dL_act_200 (by decide) (by decide) rfl (by decide) ?_
            exact act_hang l hlst hM hr hL hR had (f0 := d2) (s0 := d3) hd2 hd3 hw (lv_sub hl [6, 7, 8, 3, 1, 0] rfl)
          · refine lv_tableIn (tgt := 561) hM.x hM.b dL_act_200 (by decide) (by decide) rfl (by decide) ?_
            exact act_turnNow l hlst hM hr hL hR had (f0 := d2) (s0 := d3) hd2 hd3 hw (lv_sub hl [6, 7, 8, 3, 1, 0] rfl)
          · refine lv_tableIn (tgt := 615) hM.x hM.b dL_act_200 (by decide) (by decide) rfl (by decide) ?_
            exact act_baste l hlst hM hr hL hR had (f0 := d2) (s0 := d3) hd2 hd3 hw (lv_sub hl [6, 7, 8, 3, 1, 0] rfl)
          · refine lv_tableIn (tgt := 615) hM.x hM.b dL_act_200 (by decide) (by decide) rfl (by decide) ?_
            exact act_baste l hlst hM hr hL hR had (f0 := d2) (s0 := d3) hd2 hd3 hw (lv_sub hl [6, 7, 8, 3, 1, 0] rfl)
          · refine lv_tableIn (tgt := 672) hM.x hM.b dL_act_200 (by decide) (by decide) rfl (by decide) ?_
            exact act_takeDown l hlst hM hr hL hR had (f0 := d2) (s0 := d3) hd2 hd3 hw (lv_sub hl [6, 7, 8, 3, 1, 0] rfl)
          · refine lv_tableIn (tgt := 728) hM.x hM.b dL_act_200 (by decide) (by decide) rfl (by decide) ?_
            exact act_emptyPan l hlst hM hr hL hR had (f0 := d2) (s0 := d3) hd2 hd3 hw (lv_sub hl [6, 7, 8, 3, 1, 0] rfl)
          · refine lv_tableOut (tgt := 766) hM.x hM.b dL_act_200 (Or.inr (by rw [nI_toInt (by omega)]; omega)) (by decide) ?_
            exact act_pass l hlst hM hr hL hR had hw (lv_sub hl [6, 7, 8] rfl)
        · skip
          refine lv_iload hM.x hM.b dL_act_96 (lv_at hl 0 rfl) ?_
          refine lv_bipush (v := 6) hM.x hM.b dL_act_98 (by decide) ?_
          refine lv_icmp_ne (tgt := 105) hM.x hM.b dL_act_100 (by decide) (fun c7 => ?_) (fun c7 => ?_)
          · skip
            have h6 : ns ≠ 6 := fun z => c7 (congrArg nI z)
            exact act_addspit (x := x) l hlst hM hr hL hR had (f0 := d2) hd2 (by omega) hw (lv_sub hl [0, 1, 4, 5, 6] rfl)
          · skip
            refine lv_iconst (v := 1) hM.x hM.b dL_act_103 (by decide) ?_
            exact a_zret (b := true) (u := ((g.1.2, g.2.2), κ)) hM hr hw.2.1 (Nat.le_of_ble_eq_true rfl) (Nat.le_of_ble_eq_true rfl) ⟨rfl, ⟨nf, ns, nr, hL, hR⟩, had⟩ (fun t ht => ⟨by rw [ht]; exact hw.1, hw.2.2.1⟩) dL_act_104
    · skip
      refine lv_iload_n hM.x hM.b dL_act_26 rfl (lv_at hl 1 rfl) ?_
      refine lv_iconst (v := 3) hM.x hM.b dL_act_27 (by decide) ?_
      refine lv_icmp_ne (tgt := 33) hM.x hM.b dL_act_28 (by decide) (fun c8 => ?_) (fun c8 => ?_)
      · skip
        have h3 : nf ≠ 3 := fun z => c8 (congrArg nI z)
        exact act_addfire (x := x) l hlst hM hr hL hR had (by omega) hw (lv_sub hl [1, 2, 3] rfl)
      · skip
        refine lv_iconst (v := 1) hM.x hM.b dL_act_31 (by decide) ?_
        exact a_zret (b := true) (u := ((g.1.2, g.2.2), κ)) hM hr hw.2.1 (Nat.le_of_ble_eq_true rfl) (Nat.le_of_ble_eq_true rfl) ⟨rfl, ⟨nf, ns, nr, hL, hR⟩, had⟩ (fun t ht => ⟨by rw [ht]; exact hw.1, hw.2.2.1⟩) dL_act_32
