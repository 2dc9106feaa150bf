/-- what an act leaves: 1, and both kitchens tell the same -/
def actP (ad0 : Nat → Nat) (r : Int32) (u : GS) : Prop := r = 1 ∧ (∃ nf ns nr, Lm u.1.1 u.1.2 nf ns nr [] ∧ RR nf ns nr u.2) ∧ ∀ k, k < 92 → u.1.2 k = ad0 k
theorem RR.hung {nf ns nr i : Nat} {κ : Kp} (h : RR nf ns nr κ) (hi : i < ns) (hn : ¬ κ (98 + i) 3 < 0) : ∃ j, j < nr ∧ κ (98 + i) 3 = nI j := by
  have hb := h.b
  have e := (h.2.2.2.1 i hi).2.2.2.2.2
  rw [← e] at hn ⊢
  rcases h.1.2.2.2.2.1 i (by omega) with q | ⟨_, j, b, c, _⟩
  · rw [q] at hn; exact absurd n1_neg hn
  · exact ⟨j, b, c⟩
theorem RR.free {nf ns nr i : Nat} {κ : Kp} (h : RR nf ns nr κ) (hi : i < ns) (hn : κ (98 + i) 3 < 0) : κ (98 + i) 3 = -1 := by
  have hb := h.b
  have e := (h.2.2.2.1 i hi).2.2.2.2.2
  rw [← e] at hn ⊢
  rcases h.1.2.2.2.2.1 i (by omega) with q | ⟨_, j, b, c, _⟩
  · exact q
  · rw [c] at hn; exact absurd hn (nI0 (by omega))
theorem SI_of {nf ns nr : Nat} {κ m : Kp} (hI : Iv nf ns nr κ) (hR : Rl nf ns nr κ m) : SI nf ns nr m := by
  obtain ⟨⟨hnf, hns, hnr, hpos⟩, hC, hRg, hZ, hM⟩ := hI
  refine ⟨fun i hi => ?_, fun j hj => ?_⟩
  · obtain ⟨e0, e1, -, -, -, e5⟩ := hR.2.2.1 i hi
    rw [← e0, ← e1, ← e5]
    refine ⟨hRg.fire hi hns (by omega), hZ.1 i hi, fun hn => ?_⟩
    rcases hM.1 i (by omega) with q | ⟨_, j, b, c, _⟩
    · rw [q] at hn; exact absurd n1_neg hn
    · rw [c]; exact vp_in_nI b (by omega)
  · have e1 := (hR.2.2.2 j hj).1 1 (by decide)
    have e2 := (hR.2.2.2 j hj).1 2 (by decide)
    rw [← e1, ← e2]
    have hs := hRg.side (j := j) (by omega)
    rw [if_pos hj] at hs
    refine ⟨fun hn => ?_, hs⟩
    rcases hM.2 j (by omega) with q | ⟨_, i, b, c, _⟩
    · rw [show κ (14 + 2 * j) (1 + 1) = κ (14 + 2 * j) 2 from rfl, q] at hn; exact absurd n1_neg hn
    · rw [show κ (14 + 2 * j) (1 + 1) = κ (14 + 2 * j) 2 from rfl, c]; exact vp_in_nI b (by omega)
set_option maxRecDepth 100000 in
set_option maxHeartbeats 4000000 in
theorem act_layLogs {p : Program} {e : Env} {s : State} {m : MethodId} {args : Array Value} {below : List Frame} {meth : Method} {c : Code} {A : Nat → Prop} {D : va_G} {cA : Nat → ClassId} {L : List Nat} {ad ad0 : Nat → Nat} {nf ns nr : Nat} {κ : Kp} {x : Int32} (l : Launch) (hlst : l.stackTraces = false) (hM : Ma A D cA p s m args meth c cL_act 20 RL) (hr : meth.sig.returnType = some .boolean) (hL : Lm L ad nf ns nr []) (hR : RR nf ns nr κ) (had : ∀ k, k < 92 → ad k = ad0 k) {f0 s0 : Nat} (hf : f0 < nf) (hs : s0 < ns) {H : Heap} {locs : List Loc} {ls : Array Slot} (hw : Wa A D cA L ad s κ H locs) (hl : lv_has ls 20 [(0, .ref (ad (0))), (1, .ref (ad (91))), (2, .int (x)), (5, .int (nI (f0))), (7, .int (nI (s0))), (8, .ref (ad (98 + s0)))]) : W p l e { frames := 8, cells := 130, slots := 600, locals := 250 } s m args below meth c H locs 0 0 (MQ below (va_Qi (actP ad0) (Wu D cA A) A) args s 130 600 A) (F0 m 280 ls []) := by
  have hb := hR.b
  refine lv_iconst (v := nI 1) hM.x hM.b dL_act_280 (by decide) ?_
  refine lv_iload_n hM.x hM.b dL_act_281 rfl (lv_at hl 2 rfl) ?_
  refine lv_iconst (v := 4) hM.x hM.b dL_act_282 (by decide) ?_
  refine lv_ishr hM.x hM.b dL_act_283 ?_
  refine lv_iload_n hM.x hM.b dL_act_284 rfl (lv_at hl 2 rfl) ?_
  refine lv_iconst (v := nI 3) hM.x hM.b dL_act_285 (by decide) ?_
  obtain ⟨d1, hd1, ed1⟩ := below_in (x) (3) (by decide) (by omega)
  refine k_cip hw (k_runS [.int (x), .int (nI (3))] [.int (((x) >>> ((4) &&& 31))), .int (nI (1))] hM hw (m_L_below l ((D, L), cA, ad) κ _ (x) (nI (3)) (by decide)) (k_gS u_ml_L_15 u_st_L_below u_ini_L u_co_L_below) q_L_below rfl rfl rfl ⟨(Nat.le_of_ble_eq_true rfl), (Nat.le_of_ble_eq_true rfl)⟩ hl.1 rfl (Nat.le_of_ble_eq_true rfl) dL_act_286 ⟨(Nat.le_of_ble_eq_true rfl), (Nat.le_of_ble_eq_true rfl)⟩) (fun H locs hw => ?_)
  rw [ed1]
  refine lv_if_ne (tgt := 297) hM.x hM.b dL_act_289 (by decide) (fun c1 => ?_) (fun c1 => ?_)
  · skip
    refine lv_bipush (v := nI 12) hM.x hM.b dL_act_297 (by decide) ?_
    obtain ⟨d2, hd2, ed2⟩ := below_in (((x) >>> ((4) &&& 31))) (12) (by decide) (by omega)
    refine k_cip hw (k_runS [.int (((x) >>> ((4) &&& 31))), .int (nI (12))] [.int (nI (1))] hM hw (m_L_below l ((D, L), cA, ad) κ _ (((x) >>> ((4) &&& 31))) (nI (12)) (by decide)) (k_gS u_ml_L_15 u_st_L_below u_ini_L u_co_L_below) q_L_below rfl rfl rfl ⟨(Nat.le_of_ble_eq_true rfl), (Nat.le_of_ble_eq_true rfl)⟩ hl.1 rfl (Nat.le_of_ble_eq_true rfl) dL_act_299 ⟨(Nat.le_of_ble_eq_true rfl), (Nat.le_of_ble_eq_true rfl)⟩) (fun H locs hw => ?_)
    rw [ed2]
    refine k_iaddN (a := 1) (b := d2) hM dL_act_302 ?_
    refine lv_istore (lv' := [(9, .int (nI ((1 + d2)))), (0, .ref (ad (0))), (1, .ref (ad (91))), (2, .int (x)), (5, .int (nI (f0))), (7, .int (nI (s0))), (8, .ref (ad (98 + s0)))]) hM.x hM.b dL_act_303 hl (by decide) rfl (fun ls hl => ?_)
    refine lv_aload_n hM.x hM.b dL_act_305 rfl (lv_at hl 2 rfl) ?_
    refine k_get6r 0 hM hw hL.m91 (by decide) u_fl_L_9 dL_act_306 ?_
    refine lv_iload hM.x hM.b dL_act_309 (lv_at hl 4 rfl) ?_
    refine k_aldaN (i := f0) (n := nf) (t := 1) (x := ad (95 + (f0))) hM hw (hL.m92) (lsh92 hL) rfl hf (by omega) (if_pos hf) dL_act_311 ?_
    refine lv_iconst (v := 0) hM.x hM.b dL_act_312 (by decide) ?_
    refine lv_bipush (v := 40) hM.x hM.b dL_act_313 (by decide) ?_
    refine lv_aload_n hM.x hM.b dL_act_315 rfl (lv_at hl 2 rfl) ?_
    refine k_get6r 0 hM hw hL.m91 (by decide) u_fl_L_9 dL_act_316 ?_
    refine lv_iload hM.x hM.b dL_act_319 (lv_at hl 4 rfl) ?_
    refine k_aldaN (i := f0) (n := nf) (t := 1) (x := ad (95 + (f0))) hM hw (hL.m92) (lsh92 hL) rfl hf (by omega) (if_pos hf) dL_act_321 ?_
    refine lv_iconst (v := 0) hM.x hM.b dL_act_322 (by decide) ?_
    refine k_ialdN (i := 0) (n := 2) hM hw (hL.F hf) (sh19 (kdF _ (hL.f3 hf))) (by decide) (by decide) dL_act_323 ?_
    refine lv_iload hM.x hM.b dL_act_324 (lv_at hl 0 rfl) ?_
    refine lv_iadd hM.x hM.b dL_act_326 ?_
    refine va_mmin hM.x hM.b (hM.ml.trans hl.1.symm) hM.ow (hM.ts _ u_ml_L_37) (hM.ts _ u_st_JM_min) (hM.ts _ u_ini_JM) (hM.ts _ u_co_JM_min) (Nat.le_of_ble_eq_true rfl) (Nat.le_of_ble_eq_true rfl) (Nat.le_of_ble_eq_true rfl) (Nat.le_of_ble_eq_true rfl) dL_act_327 ?_
    refine k_iastN (i := 0) (n := 2) hM hw (hL.F hf) (fun r => sh19 (kdF _ (hL.f3 hf))) (by decide) (by decide) dL_act_330 (fun H locs hw => ?_)
    obtain ⟨κ1, eκ1⟩ : ∃ z : Kp, up2 κ (95 + (f0)) (0) ((if (((κ (95 + (f0)) (0)) + (nI ((1 + d2))))) < (40) then (((κ (95 + (f0)) (0)) + (nI ((1 + d2))))) else (40))) = z := ⟨_, rfl⟩
    rw [eκ1] at hw
    refine lv_aload_n hM.x hM.b dL_act_331 rfl (lv_at hl 1 rfl) ?_
    refine lv_iload hM.x hM.b dL_act_332 (lv_at hl 4 rfl) ?_
    refine lv_iload hM.x hM.b dL_act_334 (lv_at hl 0 rfl) ?_
    obtain ⟨κ9, he, hR9⟩ := op_layLogs (b := (1 + d2)) hR hf (by omega) (by omega) (show up2 κ (95 + f0) 0 (if κ (95 + f0) 0 + nI ((1 + d2)) < 40 then κ (95 + f0) 0 + nI ((1 + d2)) else 40) = κ1 from eκ1)
    refine k_xiK he hw (k_runXV [.int (nI (f0)), .int (nI ((1 + d2)))] [] hM hw (m_X4_layLogs l ((D, L), cA, ad) κ1 _ (nI (f0)) (nI ((1 + d2))) hlst) (hw.dm kd_0 (by decide)) (sh4 kd_0) rfl (k_gV u_ml_L_42 u_im_X4_layLogs u_se_X4_layLogs u_ini_X4 u_co_X4_layLogs) (q_X4_layLogs) rfl rfl rfl ⟨(Nat.le_of_ble_eq_true rfl), (Nat.le_of_ble_eq_true rfl)⟩ hl.1 rfl (Nat.le_of_ble_eq_true rfl) dL_act_336 ⟨(Nat.le_of_ble_eq_true rfl), (Nat.le_of_ble_eq_true rfl)⟩) (fun H locs hw => ?_)
    refine lv_aload_n hM.x hM.b dL_act_339 rfl (lv_at hl 2 rfl) ?_
    refine k_get6r 0 hM hw hL.m91 (by decide) u_fl_L_9 dL_act_340 ?_
    refine lv_iload hM.x hM.b dL_act_343 (lv_at hl 4 rfl) ?_
    refine k_aldaN (i := f0) (n := nf) (t := 1) (x := ad (95 + (f0))) hM hw (hL.m92) (lsh92 hL) rfl hf (by omega) (if_pos hf) dL_act_345 ?_
    refine lv_iconst (v := 0) hM.x hM.b dL_act_346 (by decide) ?_
    refine k_ialdN (i := 0) (n := 2) hM hw (hL.F hf) (sh19 (kdF _ (hL.f3 hf))) (by decide) (by decide) dL_act_347 ?_
    refine lv_icmp_ne (tgt := 355) hM.x hM.b dL_act_348 (by decide) (fun cz => absurd rfl cz) (fun _ => ?_)
    refine lv_iconst (v := 1) hM.x hM.b dL_act_351 (by decide) ?_
    refine lv_goto (tgt := 356) hM.x hM.b dL_act_352 (by decide) ?_
    exact a_zret (b := true) (u := ((L, ad), κ9)) hM hr hw.2.1 (Nat.le_of_ble_eq_true rfl) (Nat.le_of_ble_eq_true rfl) ⟨rfl, ⟨nf, ns, nr, hL, hR9⟩, had⟩ (fun t ht => ⟨by rw [ht]; exact hw.1, hw.2.2.1⟩) dL_act_356
  · skip
    refine lv_bipush (v := nI 40) hM.x hM.b dL_act_292 (by decide) ?_
    refine lv_goto (tgt := 299) hM.x hM.b dL_act_294 (by decide) ?_
    obtain ⟨d3, hd3, ed3⟩ := below_in (((x) >>> ((4) &&& 31))) (40) (by decide) (by omega)
    refine k_cip hw (k_runS [.int (((x) >>> ((4) &&& 31))), .int (nI (40))] [.int (nI (1))] hM hw (m_L_below l ((D, L), cA, ad) κ _ (((x) >>> ((4) &&& 31))) (nI (40)) (by decide)) (k_gS u_ml_L_15 u_st_L_below u_ini_L u_co_L_below) q_L_below rfl rfl rfl ⟨(Nat.le_of_ble_eq_true rfl), (Nat.le_of_ble_eq_true rfl)⟩ hl.1 rfl (Nat.le_of_ble_eq_true rfl) dL_act_299 ⟨(Nat.le_of_ble_eq_true rfl), (Nat.le_of_ble_eq_true rfl)⟩) (fun H locs hw => ?_)
    rw [ed3]
    refine k_iaddN (a := 1) (b := d3) hM dL_act_302 ?_
    refine lv_istore (lv' := [(9, .int (nI ((1 + d3)))), (0, .ref (ad (0))), (1, .ref (ad (91))), (2, .int (x)), (5, .int (nI (f0))), (7, .int (nI (s0))), (8, .ref (ad (98 + s0)))]) hM.x hM.b dL_act_303 hl (by decide) rfl (fun ls hl => ?_)
    refine lv_aload_n hM.x hM.b dL_act_305 rfl (lv_at hl 2 rfl) ?_
    refine k_get6r 0 hM hw hL.m91 (by decide) u_fl_L_9 dL_act_306 ?_
    refine lv_iload hM.x hM.b dL_act_309 (lv_at hl 4 rfl) ?_
    refine k_aldaN (i := f0) (n := nf) (t := 1) (x := ad (95 + (f0))) hM hw (hL.m92) (lsh92 hL) rfl hf (by omega) (if_pos hf) dL_act_311 ?_
    refine lv_iconst (v := 0) hM.x hM.b dL_act_312 (by decide) ?_
    refine lv_bipush (v := 40) hM.x hM.b dL_act_313 (by decide) ?_
    refine lv_aload_n hM.x hM.b dL_act_315 rfl (lv_at hl 2 rfl) ?_
    refine k_get6r 0 hM hw hL.m91 (by decide) u_fl_L_9 dL_act_316 ?_
    refine lv_iload hM.x hM.b dL_act_319 (lv_at hl 4 rfl) ?_
    refine k_aldaN (i := f0) (n := nf) (t := 1) (x := ad (95 + (f0))) hM hw (hL.m92) (lsh92 hL) rfl hf (by omega) (if_pos hf) dL_act_321 ?_
    refine lv_iconst (v := 0) hM.x hM.b dL_act_322 (by decide) ?_
    refine k_ialdN (i := 0) (n := 2) hM hw (hL.F hf) (sh19 (kdF _ (hL.f3 hf))) (by decide) (by decide) dL_act_323 ?_
    refine lv_iload hM.x hM.b dL_act_324 (lv_at hl 0 rfl) ?_
    refine lv_iadd hM.x hM.b dL_act_326 ?_
    refine va_mmin hM.x hM.b (hM.ml.trans hl.1.symm) hM.ow (hM.ts _ u_ml_L_37) (hM.ts _ u_st_JM_min) (hM.ts _ u_ini_JM) (hM.ts _ u_co_JM_min) (Nat.le_of_ble_eq_true rfl) (Nat.le_of_ble_eq_true rfl) (Nat.le_of_ble_eq_true rfl) (Nat.le_of_ble_eq_true rfl) dL_act_327 ?_
    refine k_iastN (i := 0) (n := 2) hM hw (hL.F hf) (fun r => sh19 (kdF _ (hL.f3 hf))) (by decide) (by decide) dL_act_330 (fun H locs hw => ?_)
    obtain ⟨κ2, eκ2⟩ : ∃ z : Kp, up2 κ (95 + (f0)) (0) ((if (((κ (95 + (f0)) (0)) + (nI ((1 + d3))))) < (40) then (((κ (95 + (f0)) (0)) + (nI ((1 + d3))))) else (40))) = z := ⟨_, rfl⟩
    rw [eκ2] at hw
    refine lv_aload_n hM.x hM.b dL_act_331 rfl (lv_at hl 1 rfl) ?_
    refine lv_iload hM.x hM.b dL_act_332 (lv_at hl 4 rfl) ?_
    refine lv_iload hM.x hM.b dL_act_334 (lv_at hl 0 rfl) ?_
    obtain ⟨κ9, he, hR9⟩ := op_layLogs (b := (1 + d3)) hR hf (by omega) (by omega) (show up2 κ (95 + f0) 0 (if κ (95 + f0) 0 + nI ((1 + d3)) < 40 then κ (95 + f0) 0 + nI ((1 + d3)) else 40) = κ2 from eκ2)
    refine k_xiK he hw (k_runXV [.int (nI (f0)), .int (nI ((1 + d3)))] [] hM hw (m_X4_layLogs l ((D, L), cA, ad) κ2 _ (nI (f0)) (nI ((1 + d3))) hlst) (hw.dm kd_0 (by decide)) (sh4 kd_0) rfl (k_gV u_ml_L_42 u_im_X4_layLogs u_se_X4_layLogs u_ini_X4 u_co_X4_layLogs) (q_X4_layLogs) rfl rfl rfl ⟨(Nat.le_of_ble_eq_true rfl), (Nat.le_of_ble_eq_true rfl)⟩ hl.1 rfl (Nat.le_of_ble_eq_true rfl) dL_act_336 ⟨(Nat.le_of_ble_eq_true rfl), (Nat.le_of_ble_eq_true rfl)⟩) (fun H locs hw => ?_)
    refine lv_aload_n hM.x hM.b dL_act_339 rfl (lv_at hl 2 rfl) ?_
    refine k_get6r 0 hM hw hL.m91 (by decide) u_fl_L_9 dL_act_340 ?_
    refine lv_iload hM.x hM.b dL_act_343 (lv_at hl 4 rfl) ?_
    refine k_aldaN (i := f0) (n := nf) (t := 1) (x := ad (95 + (f0))) hM hw (hL.m92) (lsh92 hL) rfl hf (by omega) (if_pos hf) dL_act_345 ?_
    refine lv_iconst (v := 0) hM.x hM.b dL_act_346 (by decide) ?_
    refine k_ialdN (i := 0) (n := 2) hM hw (hL.F hf) (sh19 (kdF _ (hL.f3 hf))) (by decide) (by decide) dL_act_347 ?_
    refine lv_icmp_ne (tgt := 355) hM.x hM.b dL_act_348 (by decide) (fun cz => absurd rfl cz) (fun _ => ?_)
    refine lv_iconst (v := 1) hM.x hM.b dL_act_351 (by decide) ?_
    refine lv_goto (tgt := 356) hM.x hM.b dL_act_352 (by decide) ?_
    exact a_zret (b := true) (u := ((L, ad), κ9)) hM hr hw.2.1 (Nat.le_of_ble_eq_true rfl) (Nat.le_of_ble_eq_true rfl) ⟨rfl, ⟨nf, ns, nr, hL, hR9⟩, had⟩ (fun t ht => ⟨by rw [ht]; exact hw.1, hw.2.2.1⟩) dL_act_356
set_option maxRecDepth 100000 in
set_option maxHeartbeats 4000000 in
theorem act_moveSpit {p : Program} {e : Env} {s : State} {m : MethodId} {args : Array Value} {below : List Frame} {meth : Method} {c : Code} {A : Nat → Prop} {D : va_G} {cA : Nat → ClassId} {L : List Nat} {ad ad0 : Nat → Nat} {nf ns nr : Nat} {κ : Kp} {x : Int32} (l : Launch) (hlst : l.stackTraces = false) (hM : Ma A D cA p s m args meth c cL_act 20 RL) (hr : meth.sig.returnType = some .boolean) (hL : Lm L ad nf ns nr []) (hR : RR nf ns nr κ) (had : ∀ k, k < 92 → ad k = ad0 k) {f0 s0 : Nat} (hf : f0 < nf) (hs : s0 < ns) {H : Heap} {locs : List Loc} {ls : Array Slot} (hw : Wa A D cA L ad s κ H locs) (hl : lv_has ls 20 [(0, .ref (ad (0))), (1, .ref (ad (91))), (2, .int (x)), (5, .int (nI (f0))), (7, .int (nI (s0))), (8, .ref (ad (98 + s0)))]) : W p l e { frames := 8, cells := 130, slots := 600, locals := 250 } s m args below meth c H locs 0 0 (MQ below (va_Qi (actP ad0) (Wu D cA A) A) args s 130 600 A) (F0 m 357 ls []) := by
  have hb := hR.b
  refine lv_aload hM.x hM.b dL_act_357 (lv_at hl 5 rfl) ?_
  refine lv_iconst (v := 1) hM.x hM.b dL_act_359 (by decide) ?_
  refine k_ialdN (i := 1) (n := 6) hM hw (hL.S hs) (sh20 (kdS _ (hL.s6 hs))) (by decide) (by decide) dL_act_360 ?_
  refine lv_istore (lv' := [(10, .int (κ (98 + s0) (1))), (0, .ref (ad (0))), (1, .ref (ad (91))), (2, .int (x)), (5, .int (nI (f0))), (7, .int (nI (s0))), (8, .ref (ad (98 + s0)))]) hM.x hM.b dL_act_361 hl (by decide) rfl (fun ls hl => ?_)
  refine lv_aload hM.x hM.b dL_act_363 (lv_at hl 6 rfl) ?_
  refine lv_iconst (v := 1) hM.x hM.b dL_act_365 (by decide) ?_
  refine lv_iconst (v := nI 1) hM.x hM.b dL_act_366 (by decide) ?_
  refine lv_iload_n hM.x hM.b dL_act_367 rfl (lv_at hl 3 rfl) ?_
  refine lv_iconst (v := 4) hM.x hM.b dL_act_368 (by decide) ?_
  refine lv_ishr hM.x hM.b dL_act_369 ?_
  refine lv_iconst (v := nI 3) hM.x hM.b dL_act_370 (by decide) ?_
  obtain ⟨d1, hd1, ed1⟩ := below_in (((x) >>> ((4) &&& 31))) (3) (by decide) (by omega)
  refine k_cip hw (k_runS [.int (((x) >>> ((4) &&& 31))), .int (nI (3))] [.int (nI (1)), .int (1), .ref (ad (98 + s0))] hM hw (m_L_below l ((D, L), cA, ad) κ _ (((x) >>> ((4) &&& 31))) (nI (3)) (by decide)) (k_gS u_ml_L_15 u_st_L_below u_ini_L u_co_L_below) q_L_below rfl rfl rfl ⟨(Nat.le_of_ble_eq_true rfl), (Nat.le_of_ble_eq_true rfl)⟩ hl.1 rfl (Nat.le_of_ble_eq_true rfl) dL_act_371 ⟨(Nat.le_of_ble_eq_true rfl), (Nat.le_of_ble_eq_true rfl)⟩) (fun H locs hw => ?_)
  rw [ed1]
  refine k_iaddN (a := 1) (b := d1) hM dL_act_374 ?_
  refine k_iastN (i := 1) (n := 6) hM hw (hL.S hs) (fun r => sh20 (kdS _ (hL.s6 hs))) (by decide) (by decide) dL_act_375 (fun H locs hw => ?_)
  obtain ⟨κ1, eκ1⟩ : ∃ z : Kp, up2 κ (98 + s0) (1) (nI ((1 + d1))) = z := ⟨_, rfl⟩
  rw [eκ1] at hw
  refine lv_aload_n hM.x hM.b dL_act_376 rfl (lv_at hl 1 rfl) ?_
  refine lv_iload hM.x hM.b dL_act_377 (lv_at hl 5 rfl) ?_
  refine lv_aload hM.x hM.b dL_act_379 (lv_at hl 6 rfl) ?_
  refine lv_iconst (v := 1) hM.x hM.b dL_act_381 (by decide) ?_
  refine k_ialdN (i := 1) (n := 6) hM hw (hL.S hs) (sh20 (kdS _ (hL.s6 hs))) (by decide) (by decide) dL_act_382 ?_
  rw [show κ1 (98 + s0) (1) = nI ((1 + d1)) from (by rw [← eκ1]; exact up2_self _ _ _ _)]
  obtain ⟨κ9, he, hR9⟩ := op_moveSpit (w := (1 + d1)) hR hs (by omega) (by omega) eκ1
  refine k_xiK he hw (k_runXV [.int (nI (s0)), .int (nI ((1 + d1)))] [] hM hw (m_X4_moveSpit l ((D, L), cA, ad) κ1 _ (nI (s0)) (nI ((1 + d1))) hlst) (hw.dm kd_0 (by decide)) (sh4 kd_0) rfl (k_gV u_ml_L_45 u_im_X4_moveSpit u_se_X4_moveSpit u_ini_X4 u_co_X4_moveSpit) (q_X4_moveSpit) rfl rfl rfl ⟨(Nat.le_of_ble_eq_true rfl), (Nat.le_of_ble_eq_true rfl)⟩ hl.1 rfl (Nat.le_of_ble_eq_true rfl) dL_act_383 ⟨(Nat.le_of_ble_eq_true rfl), (Nat.le_of_ble_eq_true rfl)⟩) (fun H locs hw => ?_)
  refine lv_iload hM.x hM.b dL_act_386 (lv_at hl 0 rfl) ?_
  refine lv_icmp_ne (tgt := 395) hM.x hM.b dL_act_388 (by decide) (fun cz => absurd rfl cz) (fun _ => ?_)
  refine lv_iconst (v := 1) hM.x hM.b dL_act_391 (by decide) ?_
  refine lv_goto (tgt := 396) hM.x hM.b dL_act_392 (by decide) ?_
  exact a_zret (b := true) (u := ((L, ad), κ9)) hM hr hw.2.1 (Nat.le_of_ble_eq_true rfl) (Nat.le_of_ble_eq_true rfl) ⟨rfl, ⟨nf, ns, nr, hL, hR9⟩, had⟩ (fun t ht => ⟨by rw [ht]; exact hw.1, hw.2.2.1⟩) dL_act_396
set_option maxRecDepth 100000 in
set_option maxHeartbeats 4000000 in
theorem act_turnEach {p : Program} {e : Env} {s : State} {m : MethodId} {args : Array Value} {below : List Frame} {meth : Method} {c : Code} {A : Nat → Prop} {D : va_G} {cA : Nat → ClassId} {L : List Nat} {ad ad0 : Nat → Nat} {nf ns nr : Nat} {κ : Kp} {x : Int32} (l : Launch) (hlst : l.stackTraces = false) (hM : Ma A D cA p s m args meth c cL_act 20 RL) (hr : meth.sig.returnType = some .boolean) (hL : Lm L ad nf ns nr []) (hR : RR nf ns nr κ) (had : ∀ k, k < 92 → ad k = ad0 k) {f0 s0 : Nat} (hf : f0 < nf) (hs : s0 < ns) {H : Heap} {locs : List Loc} {ls : Array Slot} (hw : Wa A D cA L ad s κ H locs) (hl : lv_has ls 20 [(0, .ref (ad (0))), (1, .ref (ad (91))), (2, .int (x)), (5, .int (nI (f0))), (7, .int (nI (s0))), (8, .ref (ad (98 + s0)))]) : W p l e { frames := 8, cells := 130, slots := 600, locals := 250 } s m args below meth c H locs 0 0 (MQ below (va_Qi (actP ad0) (Wu D cA A) A) args s 130 600 A) (F0 m 397 ls []) := by
  have hb := hR.b
  refine lv_aload hM.x hM.b dL_act_397 (lv_at hl 5 rfl) ?_
  refine lv_iconst (v := 5) hM.x hM.b dL_act_399 (by decide) ?_
  refine k_ialdN (i := 5) (n := 6) hM hw (hL.S hs) (sh20 (kdS _ (hL.s6 hs))) (by decide) (by decide) dL_act_400 ?_
  refine lv_istore (lv' := [(11, .int (κ (98 + s0) (5))), (0, .ref (ad (0))), (1, .ref (ad (91))), (2, .int (x)), (5, .int (nI (f0))), (7, .int (nI (s0))), (8, .ref (ad (98 + s0)))]) hM.x hM.b dL_act_401 hl (by decide) rfl (fun ls hl => ?_)
  refine lv_aload hM.x hM.b dL_act_403 (lv_at hl 6 rfl) ?_
  refine lv_iconst (v := 5) hM.x hM.b dL_act_405 (by decide) ?_
  refine lv_iload_n hM.x hM.b dL_act_406 rfl (lv_at hl 3 rfl) ?_
  refine lv_iconst (v := 4) hM.x hM.b dL_act_407 (by decide) ?_
  refine lv_ishr hM.x hM.b dL_act_408 ?_
  refine lv_bipush (v := nI 10) hM.x hM.b dL_act_409 (by decide) ?_
  obtain ⟨d1, hd1, ed1⟩ := below_in (((x) >>> ((4) &&& 31))) (10) (by decide) (by omega)
  refine k_cip hw (k_runS [.int (((x) >>> ((4) &&& 31))), .int (nI (10))] [.int (5), .ref (ad (98 + s0))] hM hw (m_L_below l ((D, L), cA, ad) κ _ (((x) >>> ((4) &&& 31))) (nI (10)) (by decide)) (k_gS u_ml_L_15 u_st_L_below u_ini_L u_co_L_below) q_L_below rfl rfl rfl ⟨(Nat.le_of_ble_eq_true rfl), (Nat.le_of_ble_eq_true rfl)⟩ hl.1 rfl (Nat.le_of_ble_eq_true rfl) dL_act_411 ⟨(Nat.le_of_ble_eq_true rfl), (Nat.le_of_ble_eq_true rfl)⟩) (fun H locs hw => ?_)
  rw [ed1]
  refine k_iastN (i := 5) (n := 6) hM hw (hL.S hs) (fun r => sh20 (kdS _ (hL.s6 hs))) (by decide) (by decide) dL_act_414 (fun H locs hw => ?_)
  obtain ⟨κ1, eκ1⟩ : ∃ z : Kp, up2 κ (98 + s0) (5) (nI (d1)) = z := ⟨_, rfl⟩
  rw [eκ1] at hw
  refine lv_aload hM.x hM.b dL_act_415 (lv_at hl 6 rfl) ?_
  refine lv_iconst (v := 4) hM.x hM.b dL_act_417 (by decide) ?_
  refine lv_iconst (v := 0) hM.x hM.b dL_act_418 (by decide) ?_
  refine k_iastN (i := 4) (n := 6) hM hw (hL.S hs) (fun r => sh20 (kdS _ (hL.s6 hs))) (by decide) (by decide) dL_act_419 (fun H locs hw => ?_)
  obtain ⟨κ2, eκ2⟩ : ∃ z : Kp, up2 κ1 (98 + s0) (4) (0) = z := ⟨_, rfl⟩
  rw [eκ2] at hw
  refine lv_aload_n hM.x hM.b dL_act_420 rfl (lv_at hl 1 rfl) ?_
  refine lv_iload hM.x hM.b dL_act_421 (lv_at hl 5 rfl) ?_
  refine lv_aload hM.x hM.b dL_act_423 (lv_at hl 6 rfl) ?_
  refine lv_iconst (v := 5) hM.x hM.b dL_act_425 (by decide) ?_
  refine k_ialdN (i := 5) (n := 6) hM hw (hL.S hs) (sh20 (kdS _ (hL.s6 hs))) (by decide) (by decide) dL_act_426 ?_
  rw [show κ2 (98 + s0) (5) = nI (d1) from (by rw [← eκ2, up2_ne _ _ (by omega), ← eκ1]; exact up2_self _ _ _ _)]
  obtain ⟨κ9, he, hR9⟩ := op_turnEach (w := d1) (κ1 := κ2) hR hs (by omega) (by rw [← eκ2, ← eκ1])
  refine k_xiK he hw (k_runXV [.int (nI (s0)), .int (nI (d1))] [] hM hw (m_X4_turnEach l ((D, L), cA, ad) κ2 _ (nI (s0)) (nI (d1)) hlst) (hw.dm kd_0 (by decide)) (sh4 kd_0) rfl (k_gV u_ml_L_48 u_im_X4_turnEach u_se_X4_turnEach u_ini_X4 u_co_X4_turnEach) (q_X4_turnEach) rfl rfl rfl ⟨(Nat.le_of_ble_eq_true rfl), (Nat.le_of_ble_eq_true rfl)⟩ hl.1 rfl (Nat.le_of_ble_eq_true rfl) dL_act_427 ⟨(Nat.le_of_ble_eq_true rfl), (Nat.le_of_ble_eq_true rfl)⟩) (fun H locs hw => ?_)
  refine lv_iload hM.x hM.b dL_act_430 (lv_at hl 0 rfl) ?_
  refine lv_icmp_ne (tgt := 439) hM.x hM.b dL_act_432 (by decide) (fun cz => absurd rfl cz) (fun _ => ?_)
  refine lv_iconst (v := 1) hM.x hM.b dL_act_435 (by decide) ?_
  refine lv_goto (tgt := 440) hM.x hM.b dL_act_436 (by decide) ?_
  exact a_zret (b := true) (u := ((L, ad), κ9)) hM hr hw.2.1 (Nat.le_of_ble_eq_true rfl) (Nat.le_of_ble_eq_true rfl) ⟨rfl, ⟨nf, ns, nr, hL, hR9⟩, had⟩ (fun t ht => ⟨by rw [ht]; exact hw.1, hw.2.2.1⟩) dL_act_440
set_option maxRecDepth 100000 in
set_option maxHeartbeats 4000000 in
theorem act_setFeast {p : Program} {e : Env} {s : State} {m : MethodId} {args : Array Value} {below : List Frame} {meth : Method} {c : Code} {A : Nat → Prop} {D : va_G} {cA : Nat → ClassId} {L : List Nat} {ad ad0 : Nat → Nat} {nf ns nr : Nat} {κ : Kp} {x : Int32} (l : Launch) (hlst : l.stackTraces = false) (hM : Ma A D cA p s m args meth c cL_act 20 RL) (hr : meth.sig.returnType = some .boolean) (hL : Lm L ad nf ns nr []) (hR : RR nf ns nr κ) (had : ∀ k, k < 92 → ad k = ad0 k) {f0 s0 : Nat} (hf : f0 < nf) (hs : s0 < ns) {H : Heap} {locs : List Loc} {ls : Array Slot} (hw : Wa A D cA L ad s κ H locs) (hl : lv_has ls 20 [(0, .ref (ad (0))), (1, .ref (ad (91))), (2, .int (x)), (5, .int (nI (f0))), (7, .int (nI (s0))), (8, .ref (ad (98 + s0)))]) : W p l e { frames := 8, cells := 130, slots := 600, locals := 250 } s m args below meth c H locs 0 0 (MQ below (va_Qi (actP ad0) (Wu D cA A) A) args s 130 600 A) (F0 m 441 ls []) := by
  have hb := hR.b
  refine lv_aload_n hM.x hM.b dL_act_441 rfl (lv_at hl 1 rfl) ?_
  refine k_get6 1 hM hw hL.m91 (by decide) u_fl_L_51 dL_act_442 ?_
  refine lv_istore (lv' := [(12, .int (κ (91) 1)), (0, .ref (ad (0))), (1, .ref (ad (91))), (2, .int (x)), (5, .int (nI (f0))), (7, .int (nI (s0))), (8, .ref (ad (98 + s0)))]) hM.x hM.b dL_act_445 hl (by decide) rfl (fun ls hl => ?_)
  refine lv_aload_n hM.x hM.b dL_act_447 rfl (lv_at hl 2 rfl) ?_
  refine lv_iload_n hM.x hM.b dL_act_448 rfl (lv_at hl 3 rfl) ?_
  refine lv_iconst (v := 3) hM.x hM.b dL_act_449 (by decide) ?_
  refine lv_ishr hM.x hM.b dL_act_450 ?_
  refine lv_iload_n hM.x hM.b dL_act_451 rfl (lv_at hl 3 rfl) ?_
  refine lv_iconst (v := nI 2) hM.x hM.b dL_act_452 (by decide) ?_
  obtain ⟨d1, hd1, ed1⟩ := below_in (x) (2) (by decide) (by omega)
  refine k_cip hw (k_runS [.int (x), .int (nI (2))] [.int (((x) >>> ((3) &&& 31))), .ref (ad (91))] hM hw (m_L_below l ((D, L), cA, ad) κ _ (x) (nI (2)) (by decide)) (k_gS u_ml_L_15 u_st_L_below u_ini_L u_co_L_below) q_L_below rfl rfl rfl ⟨(Nat.le_of_ble_eq_true rfl), (Nat.le_of_ble_eq_true rfl)⟩ hl.1 rfl (Nat.le_of_ble_eq_true rfl) dL_act_453 ⟨(Nat.le_of_ble_eq_true rfl), (Nat.le_of_ble_eq_true rfl)⟩) (fun H locs hw => ?_)
  rw [ed1]
  refine lv_if_ne (tgt := 465) hM.x hM.b dL_act_456 (by decide) (fun c1 => ?_) (fun c1 => ?_)
  · skip
    refine lv_sipush (v := nI 400) hM.x hM.b dL_act_465 (by decide) ?_
    obtain ⟨d2, hd2, ed2⟩ := below_in (((x) >>> ((3) &&& 31))) (400) (by decide) (by omega)
    refine k_cip hw (k_runS [.int (((x) >>> ((3) &&& 31))), .int (nI (400))] [.ref (ad (91))] hM hw (m_L_below l ((D, L), cA, ad) κ _ (((x) >>> ((3) &&& 31))) (nI (400)) (by decide)) (k_gS u_ml_L_15 u_st_L_below u_ini_L u_co_L_below) q_L_below rfl rfl rfl ⟨(Nat.le_of_ble_eq_true rfl), (Nat.le_of_ble_eq_true rfl)⟩ hl.1 rfl (Nat.le_of_ble_eq_true rfl) dL_act_468 ⟨(Nat.le_of_ble_eq_true rfl), (Nat.le_of_ble_eq_true rfl)⟩) (fun H locs hw => ?_)
    rw [ed2]
    refine k_put6 1 hM hw hL.m91 (by decide) u_fl_L_51 dL_act_471 (fun H locs hw => ?_)
    obtain ⟨κ1, eκ1⟩ : ∃ z : Kp, up2 κ (91) 1 (nI (d2)) = z := ⟨_, rfl⟩
    rw [eκ1] at hw
    refine lv_aload_n hM.x hM.b dL_act_474 rfl (lv_at hl 1 rfl) ?_
    refine lv_aload_n hM.x hM.b dL_act_475 rfl (lv_at hl 2 rfl) ?_
    refine k_get6 1 hM hw hL.m91 (by decide) u_fl_L_51 dL_act_476 ?_
    rw [show κ1 (91) 1 = nI (d2) from (by rw [← eκ1]; exact up2_self _ _ _ _)]
    obtain ⟨κ9, he, hR9⟩ := op_setFeast (w := d2) hR (by omega) eκ1
    refine k_xiK he hw (k_runXV [.int (nI (d2))] [] hM hw (m_X4_setFeast l ((D, L), cA, ad) κ1 _ (nI (d2)) hlst) (hw.dm kd_0 (by decide)) (sh4 kd_0) rfl (k_gV u_ml_L_55 u_im_X4_setFeast u_se_X4_setFeast u_ini_X4 u_co_X4_setFeast) (q_X4_setFeast) rfl rfl rfl ⟨(Nat.le_of_ble_eq_true rfl), (Nat.le_of_ble_eq_true rfl)⟩ hl.1 rfl (Nat.le_of_ble_eq_true rfl) dL_act_479 ⟨(Nat.le_of_ble_eq_true rfl), (Nat.le_of_ble_eq_true rfl)⟩) (fun H locs hw => ?_)
    refine lv_iload hM.x hM.b dL_act_482 (lv_at hl 0 rfl) ?_
    refine lv_icmp_ne (tgt := 491) hM.x hM.b dL_act_484 (by decide) (fun cz => absurd rfl cz) (fun _ => ?_)
    refine lv_iconst (v := 1) hM.x hM.b dL_act_487 (by decide) ?_
    refine lv_goto (tgt := 492) hM.x hM.b dL_act_488 (by decide) ?_
    exact a_zret (b := true) (u := ((L, ad), κ9)) hM hr hw.2.1 (Nat.le_of_ble_eq_true rfl) (Nat.le_of_ble_eq_true rfl) ⟨rfl, ⟨nf, ns, nr, hL, hR9⟩, had⟩ (fun t ht => ⟨by rw [ht]; exact hw.1, hw.2.2.1⟩) dL_act_492
  · skip
    refine lv_sipush (v := nI 5001) hM.x hM.b dL_act_459 (by decide) ?_
    refine lv_goto (tgt := 468) hM.x hM.b dL_act_462 (by decide) ?_
    obtain ⟨d3, hd3, ed3⟩ := below_in (((x) >>> ((3) &&& 31))) (5001) (by decide) (by omega)
    refine k_cip hw (k_runS [.int (((x) >>> ((3) &&& 31))), .int (nI (5001))] [.ref (ad (91))] hM hw (m_L_below l ((D, L), cA, ad) κ _ (((x) >>> ((3) &&& 31))) (nI (5001)) (by decide)) (k_gS u_ml_L_15 u_st_L_below u_ini_L u_co_L_below) q_L_below rfl rfl rfl ⟨(Nat.le_of_ble_eq_true rfl), (Nat.le_of_ble_eq_true rfl)⟩ hl.1 rfl (Nat.le_of_ble_eq_true rfl) dL_act_468 ⟨(Nat.le_of_ble_eq_true rfl), (Nat.le_of_ble_eq_true rfl)⟩) (fun H locs hw => ?_)
    rw [ed3]
    refine k_put6 1 hM hw hL.m91 (by decide) u_fl_L_51 dL_act_471 (fun H locs hw => ?_)
    obtain ⟨κ2, eκ2⟩ : ∃ z : Kp, up2 κ (91) 1 (nI (d3)) = z := ⟨_, rfl⟩
    rw [eκ2] at hw
    refine lv_aload_n hM.x hM.b dL_act_474 rfl (lv_at hl 1 rfl) ?_
    refine lv_aload_n hM.x hM.b dL_act_475 rfl (lv_at hl 2 rfl) ?_
    refine k_get6 1 hM hw hL.m91 (by decide) u_fl_L_51 dL_act_476 ?_
    rw [show κ2 (91) 1 = nI (d3) from (by rw [← eκ2]; exact up2_self _ _ _ _)]
    obtain ⟨κ9, he, hR9⟩ := op_setFeast (w := d3) hR (by omega) eκ2
    refine k_xiK he hw (k_runXV [.int (nI (d3))] [] hM hw (m_X4_setFeast l ((D, L), cA, ad) κ2 _ (nI (d3)) hlst) (hw.dm kd_0 (by decide)) (sh4 kd_0) rfl (k_gV u_ml_L_55 u_im_X4_setFeast u_se_X4_setFeast u_ini_X4 u_co_X4_setFeast) (q_X4_setFeast) rfl rfl rfl ⟨(Nat.le_of_ble_eq_true rfl), (Nat.le_of_ble_eq_true rfl)⟩ hl.1 rfl (Nat.le_of_ble_eq_true rfl) dL_act_479 ⟨(Nat.le_of_ble_eq_true rfl), (Nat.le_of_ble_eq_true rfl)⟩) (fun H locs hw => ?_)
    refine lv_iload hM.x hM.b dL_act_482 (lv_at hl 0 rfl) ?_
    refine lv_icmp_ne (tgt := 491) hM.x hM.b dL_act_484 (by decide) (fun cz => absurd rfl cz) (fun _ => ?_)
    refine lv_iconst (v := 1) hM.x hM.b dL_act_487 (by decide) ?_
    refine lv_goto (tgt := 492) hM.x hM.b dL_act_488 (by decide) ?_
    exact a_zret (b := true) (u := ((L, ad), κ9)) hM hr hw.2.1 (Nat.le_of_ble_eq_true rfl) (Nat.le_of_ble_eq_true rfl) ⟨rfl, ⟨nf, ns, nr, hL, hR9⟩, had⟩ (fun t ht => ⟨by rw [ht]; exact hw.1, hw.2.2.1⟩) dL_act_492
set_option maxRecDepth 100000 in
set_option maxHeartbeats 4000000 in
theorem act_turnNow {p : Program} {e : Env} {s : State} {m : MethodId} {args : Array Value} {below : List Frame} {meth : Method} {c : Code} {A : Nat → Prop} {D : va_G} {cA : Nat → ClassId} {L : List Nat} {ad ad0 : Nat → Nat} {nf ns nr : Nat} {κ : Kp} {x : Int32} (l : Launch) (hlst : l.stackTraces = false) (hM : Ma A D cA p s m args meth c cL_act 20 RL) (hr : meth.sig.returnType = some .boolean) (hL : Lm L ad nf ns nr []) (hR : RR nf ns nr κ) (had : ∀ k, k < 92 → ad k = ad0 k) {f0 s0 : Nat} (hf : f0 < nf) (hs : s0 < ns) {H : Heap} {locs : List Loc} {ls : Array Slot} (hw : Wa A D cA L ad s κ H locs) (hl : lv_has ls 20 [(0, .ref (ad (0))), (1, .ref (ad (91))), (2, .int (x)), (5, .int (nI (f0))), (7, .int (nI (s0))), (8, .ref (ad (98 + s0)))]) : W p l e { frames := 8, cells := 130, slots := 600, locals := 250 } s m args below meth c H locs 0 0 (MQ below (va_Qi (actP ad0) (Wu D cA A) A) args s 130 600 A) (F0 m 561 ls []) := by
  have hb := hR.b
  refine lv_aload hM.x hM.b dL_act_561 (lv_at hl 5 rfl) ?_
  refine lv_iconst (v := 3) hM.x hM.b dL_act_563 (by decide) ?_
  refine k_ialdN (i := 3) (n := 6) hM hw (hL.S hs) (sh20 (kdS _ (hL.s6 hs))) (by decide) (by decide) dL_act_564 ?_
  refine lv_if_ge (tgt := 570) hM.x hM.b dL_act_565 (by decide) (fun c1 => ?_) (fun c1 => ?_)
  · skip
    obtain ⟨j0, hj, ej⟩ := RR.hung hR hs (Int32.not_lt.mpr c1)
    refine lv_aload_n hM.x hM.b dL_act_570 rfl (lv_at hl 1 rfl) ?_
    refine k_get6r 2 hM hw hL.m91 (by decide) u_fl_L_59 dL_act_571 ?_
    refine lv_aload hM.x hM.b dL_act_574 (lv_at hl 5 rfl) ?_
    refine lv_iconst (v := 3) hM.x hM.b dL_act_576 (by decide) ?_
    refine k_ialdN (i := 3) (n := 6) hM hw (hL.S hs) (sh20 (kdS _ (hL.s6 hs))) (by decide) (by decide) dL_act_577 ?_
    rw [show κ (98 + s0) (3) = nI j0 from ej]
    refine k_aldqN (i := j0) (n := nr) (t := 5) (x := ad (104 + 2 * (j0))) hM hw (hL.m94) (lsh94 hL) rfl hj (by omega) (if_pos hj) dL_act_578 ?_
    refine lv_astore (lv' := [(14, .ref (ad (104 + 2 * (j0)))), (0, .ref (ad (0))), (1, .ref (ad (91))), (2, .int (x)), (5, .int (nI (f0))), (7, .int (nI (s0))), (8, .ref (ad (98 + s0)))]) hM.x hM.b dL_act_579 hl (by decide) rfl (fun ls hl => ?_)
    refine lv_aload hM.x hM.b dL_act_581 (lv_at hl 0 rfl) ?_
    refine lv_aload hM.x hM.b dL_act_583 (lv_at hl 0 rfl) ?_
    refine k_get5 2 hM hw (kdR _ (hL.r16 hj)).1 (hL.R hj).1 (by decide) u_fl_L_67 dL_act_585 ?_
    refine lv_iconst (v := 1) hM.x hM.b dL_act_588 (by decide) ?_
    refine lv_iadd hM.x hM.b dL_act_589 ?_
    refine lv_iconst (v := 4) hM.x hM.b dL_act_590 (by decide) ?_
    refine lv_irem hM.x hM.b dL_act_591 (by decide) ?_
    refine k_put5 2 hM hw (kdR _ (hL.r16 hj)).1 (hL.R hj).1 (by decide) u_fl_L_67 dL_act_592 (fun H locs hw => ?_)
    obtain ⟨κ1, eκ1⟩ : ∃ z : Kp, up2 κ (104 + 2 * (j0)) 2 (((((κ (104 + 2 * (j0)) 2) + (1))) - (((κ (104 + 2 * (j0)) 2) + (1))) / (4) * (4))) = z := ⟨_, rfl⟩
    rw [eκ1] at hw
    refine lv_aload_n hM.x hM.b dL_act_595 rfl (lv_at hl 1 rfl) ?_
    refine lv_iload hM.x hM.b dL_act_596 (lv_at hl 5 rfl) ?_
    obtain ⟨κ9, he, hR9⟩ := op_turnNow (κ1 := κ1) hR hs hj ej eκ1
    refine k_xiK he hw (k_runXV [.int (nI (s0))] [] hM hw (m_X4_turnNow l ((D, L), cA, ad) κ1 _ (nI (s0)) hlst) (hw.dm kd_0 (by decide)) (sh4 kd_0) rfl (k_gV u_ml_L_72 u_im_X4_turnNow u_se_X4_turnNow u_ini_X4 u_co_X4_turnNow) (q_X4_turnNow) rfl rfl rfl ⟨(Nat.le_of_ble_eq_true rfl), (Nat.le_of_ble_eq_true rfl)⟩ hl.1 rfl (Nat.le_of_ble_eq_true rfl) dL_act_598 ⟨(Nat.le_of_ble_eq_true rfl), (Nat.le_of_ble_eq_true rfl)⟩) (fun H locs hw => ?_)
    refine lv_aload hM.x hM.b dL_act_601 (lv_at hl 0 rfl) ?_
    refine k_get5 2 hM hw (kdR _ (hL.r16 hj)).1 (hL.R hj).1 (by decide) u_fl_L_67 dL_act_603 ?_
    refine lv_icmp_ne (tgt := 613) hM.x hM.b dL_act_606 (by decide) (fun cz => absurd rfl cz) (fun _ => ?_)
    refine lv_iconst (v := 1) hM.x hM.b dL_act_609 (by decide) ?_
    refine lv_goto (tgt := 614) hM.x hM.b dL_act_610 (by decide) ?_
    exact a_zret (b := true) (u := ((L, ad), κ9)) hM hr hw.2.1 (Nat.le_of_ble_eq_true rfl) (Nat.le_of_ble_eq_true rfl) ⟨rfl, ⟨nf, ns, nr, hL, hR9⟩, had⟩ (fun t ht => ⟨by rw [ht]; exact hw.1, hw.2.2.1⟩) dL_act_614
  · skip
    refine lv_iconst (v := 1) hM.x hM.b dL_act_568 (by decide) ?_
    exact a_zret (b := true) (u := ((L, ad), κ)) hM hr hw.2.1 (Nat.le_of_ble_eq_true rfl) (Nat.le_of_ble_eq_true rfl) ⟨rfl, ⟨nf, ns, nr, hL, hR⟩, had⟩ (fun t ht => ⟨by rw [ht]; exact hw.1, hw.2.2.1⟩) dL_act_569
set_option maxRecDepth 100000 in
set_option maxHeartbeats 4000000 in
theorem act_baste {p : Program} {e : Env} {s : State} {m : MethodId} {args : Array Value} {below : List Frame} {meth : Method} {c : Code} {A : Nat → Prop} {D : va_G} {cA : Nat → ClassId} {L : List Nat} {ad ad0 : Nat → Nat} {nf ns nr : Nat} {κ : Kp} {x : Int32} (l : Launch) (hlst : l.stackTraces = false) (hM : Ma A D cA p s m args meth c cL_act 20 RL) (hr : meth.sig.returnType = some .boolean) (hL : Lm L ad nf ns nr []) (hR : RR nf ns nr κ) (had : ∀ k, k < 92 → ad k = ad0 k) {f0 s0 : Nat} (hf : f0 < nf) (hs : s0 < ns) {H : Heap} {locs : List Loc} {ls : Array Slot} (hw : Wa A D cA L ad s κ H locs) (hl : lv_has ls 20 [(0, .ref (ad (0))), (1, .ref (ad (91))), (2, .int (x)), (5, .int (nI (f0))), (7, .int (nI (s0))), (8, .ref (ad (98 + s0)))]) : W p l e { frames := 8, cells := 130, slots := 600, locals := 250 } s m args below meth c H locs 0 0 (MQ below (va_Qi (actP ad0) (Wu D cA A) A) args s 130 600 A) (F0 m 615 ls []) := by
  have hb := hR.b
  refine lv_aload hM.x hM.b dL_act_615 (lv_at hl 5 rfl) ?_
  refine lv_iconst (v := 3) hM.x hM.b dL_act_617 (by decide) ?_
  refine k_ialdN (i := 3) (n := 6) hM hw (hL.S hs) (sh20 (kdS _ (hL.s6 hs))) (by decide) (by decide) dL_act_618 ?_
  refine lv_if_lt (tgt := 630) hM.x hM.b dL_act_619 (by decide) (fun c1 => ?_) (fun c1 => ?_)
  · skip
    refine lv_iconst (v := 1) hM.x hM.b dL_act_630 (by decide) ?_
    exact a_zret (b := true) (u := ((L, ad), κ)) hM hr hw.2.1 (Nat.le_of_ble_eq_true rfl) (Nat.le_of_ble_eq_true rfl) ⟨rfl, ⟨nf, ns, nr, hL, hR⟩, had⟩ (fun t ht => ⟨by rw [ht]; exact hw.1, hw.2.2.1⟩) dL_act_631
  · skip
    refine lv_aload hM.x hM.b dL_act_622 (lv_at hl 5 rfl) ?_
    refine lv_iconst (v := 2) hM.x hM.b dL_act_624 (by decide) ?_
    refine k_ialdN (i := 2) (n := 6) hM hw (hL.S hs) (sh20 (kdS _ (hL.s6 hs))) (by decide) (by decide) dL_act_625 ?_
    refine lv_iconst (v := 2) hM.x hM.b dL_act_626 (by decide) ?_
    refine lv_icmp_ge (tgt := 632) hM.x hM.b dL_act_627 (by decide) (fun c2 => ?_) (fun c2 => ?_)
    · skip
      obtain ⟨j0, hj, ej⟩ := RR.hung hR hs c1
      refine lv_aload hM.x hM.b dL_act_632 (lv_at hl 5 rfl) ?_
      refine lv_iconst (v := 2) hM.x hM.b dL_act_634 (by decide) ?_
      refine lv_dup2_11 hM.x hM.b dL_act_635 rfl rfl ?_
      refine k_ialdN (i := 2) (n := 6) hM hw (hL.S hs) (sh20 (kdS _ (hL.s6 hs))) (by decide) (by decide) dL_act_636 ?_
      refine lv_iconst (v := 2) hM.x hM.b dL_act_637 (by decide) ?_
      refine lv_isub hM.x hM.b dL_act_638 ?_
      refine k_iastN (i := 2) (n := 6) hM hw (hL.S hs) (fun r => sh20 (kdS _ (hL.s6 hs))) (by decide) (by decide) dL_act_639 (fun H locs hw => ?_)
      obtain ⟨κ1, eκ1⟩ : ∃ z : Kp, up2 κ (98 + s0) (2) (((κ (98 + s0) (2)) - (2))) = z := ⟨_, rfl⟩
      rw [eκ1] at hw
      refine lv_aload_n hM.x hM.b dL_act_640 rfl (lv_at hl 1 rfl) ?_
      refine k_get6r 2 hM hw hL.m91 (by decide) u_fl_L_59 dL_act_641 ?_
      refine lv_aload hM.x hM.b dL_act_644 (lv_at hl 5 rfl) ?_
      refine lv_iconst (v := 3) hM.x hM.b dL_act_646 (by decide) ?_
      refine k_ialdN (i := 3) (n := 6) hM hw (hL.S hs) (sh20 (kdS _ (hL.s6 hs))) (by decide) (by decide) dL_act_647 ?_
      rw [show κ1 (98 + s0) (3) = nI j0 from ((show κ1 (98 + s0) 3 = κ (98 + s0) 3 by rw [← eκ1]; exact up2_ne _ _ (by omega)).trans ej)]
      refine k_aldqN (i := j0) (n := nr) (t := 5) (x := ad (104 + 2 * (j0))) hM hw (hL.m94) (lsh94 hL) rfl hj (by omega) (if_pos hj) dL_act_648 ?_
      refine lv_iconst (v := 3) hM.x hM.b dL_act_649 (by decide) ?_
      refine k_put5 4 hM hw (kdR _ (hL.r16 hj)).1 (hL.R hj).1 (by decide) u_fl_L_75 dL_act_650 (fun H locs hw => ?_)
      obtain ⟨κ2, eκ2⟩ : ∃ z : Kp, up2 κ1 (104 + 2 * (j0)) 4 (3) = z := ⟨_, rfl⟩
      rw [eκ2] at hw
      refine lv_aload_n hM.x hM.b dL_act_653 rfl (lv_at hl 0 rfl) ?_
      refine lv_iload hM.x hM.b dL_act_654 (lv_at hl 4 rfl) ?_
      obtain ⟨κ9, he, hR9⟩ := op_baste (κ1 := κ2) hR hs hj ej c2 (by rw [← eκ2, ← eκ1])
      refine k_xiK he hw (k_runXV [.int (nI (s0))] [] hM hw (m_X4_baste l ((D, L), cA, ad) κ2 _ (nI (s0)) hlst) (hw.dm kd_0 (by decide)) (sh4 kd_0) rfl (k_gV u_ml_L_78 u_im_X4_baste u_se_X4_baste u_ini_X4 u_co_X4_baste) (q_X4_baste) rfl rfl rfl ⟨(Nat.le_of_ble_eq_true rfl), (Nat.le_of_ble_eq_true rfl)⟩ hl.1 rfl (Nat.le_of_ble_eq_true rfl) dL_act_656 ⟨(Nat.le_of_ble_eq_true rfl), (Nat.le_of_ble_eq_true rfl)⟩) (fun H locs hw => ?_)
      refine lv_aload hM.x hM.b dL_act_659 (lv_at hl 5 rfl) ?_
      refine lv_iconst (v := 2) hM.x hM.b dL_act_661 (by decide) ?_
      refine k_ialdN (i := 2) (n := 6) hM hw (hL.S hs) (sh20 (kdS _ (hL.s6 hs))) (by decide) (by decide) dL_act_662 ?_
      refine lv_icmp_ne (tgt := 670) hM.x hM.b dL_act_663 (by decide) (fun cz => absurd rfl cz) (fun _ => ?_)
      refine lv_iconst (v := 1) hM.x hM.b dL_act_666 (by decide) ?_
      refine lv_goto (tgt := 671) hM.x hM.b dL_act_667 (by decide) ?_
      exact a_zret (b := true) (u := ((L, ad), κ9)) hM hr hw.2.1 (Nat.le_of_ble_eq_true rfl) (Nat.le_of_ble_eq_true rfl) ⟨rfl, ⟨nf, ns, nr, hL, hR9⟩, had⟩ (fun t ht => ⟨by rw [ht]; exact hw.1, hw.2.2.1⟩) dL_act_671
    · skip
      refine lv_iconst (v := 1) hM.x hM.b dL_act_630 (by decide) ?_
      exact a_zret (b := true) (u := ((L, ad), κ)) hM hr hw.2.1 (Nat.le_of_ble_eq_true rfl) (Nat.le_of_ble_eq_true rfl) ⟨rfl, ⟨nf, ns, nr, hL, hR⟩, had⟩ (fun t ht => ⟨by rw [ht]; exact hw.1, hw.2.2.1⟩) dL_act_631
set_option maxRecDepth 100000 in
set_option maxHeartbeats 4000000 in
theorem act_takeDown {p : Program} {e : Env} {s : State} {m : MethodId} {args : Array Value} {below : List Frame} {meth : Method} {c : Code} {A : Nat → Prop} {D : va_G} {cA : Nat → ClassId} {L : List Nat} {ad ad0 : Nat → Nat} {nf ns nr : Nat} {κ : Kp} {x : Int32} (l : Launch) (hlst : l.stackTraces = false) (hM : Ma A D cA p s m args meth c cL_act 20 RL) (hr : meth.sig.returnType = some .boolean) (hL : Lm L ad nf ns nr []) (hR : RR nf ns nr κ) (had : ∀ k, k < 92 → ad k = ad0 k) {f0 s0 : Nat} (hf : f0 < nf) (hs : s0 < ns) {H : Heap} {locs : List Loc} {ls : Array Slot} (hw : Wa A D cA L ad s κ H locs) (hl : lv_has ls 20 [(0, .ref (ad (0))), (1, .ref (ad (91))), (2, .int (x)), (5, .int (nI (f0))), (7, .int (nI (s0))), (8, .ref (ad (98 + s0)))]) : W p l e { frames := 8, cells := 130, slots := 600, locals := 250 } s m args below meth c H locs 0 0 (MQ below (va_Qi (actP ad0) (Wu D cA A) A) args s 130 600 A) (F0 m 672 ls []) := by
  have hb := hR.b
  refine lv_aload hM.x hM.b dL_act_672 (lv_at hl 5 rfl) ?_
  refine lv_iconst (v := 3) hM.x hM.b dL_act_674 (by decide) ?_
  refine k_ialdN (i := 3) (n := 6) hM hw (hL.S hs) (sh20 (kdS _ (hL.s6 hs))) (by decide) (by decide) dL_act_675 ?_
  refine lv_if_lt (tgt := 687) hM.x hM.b dL_act_676 (by decide) (fun c1 => ?_) (fun c1 => ?_)
  · skip
    refine lv_iconst (v := 1) hM.x hM.b dL_act_687 (by decide) ?_
    exact a_zret (b := true) (u := ((L, ad), κ)) hM hr hw.2.1 (Nat.le_of_ble_eq_true rfl) (Nat.le_of_ble_eq_true rfl) ⟨rfl, ⟨nf, ns, nr, hL, hR⟩, had⟩ (fun t ht => ⟨by rw [ht]; exact hw.1, hw.2.2.1⟩) dL_act_688
  · skip
    refine lv_iload_n hM.x hM.b dL_act_679 rfl (lv_at hl 2 rfl) ?_
    refine lv_iconst (v := nI 2) hM.x hM.b dL_act_680 (by decide) ?_
    obtain ⟨d1, hd1, ed1⟩ := below_in (x) (2) (by decide) (by omega)
    refine k_cip hw (k_runS [.int (x), .int (nI (2))] [] hM hw (m_L_below l ((D, L), cA, ad) κ _ (x) (nI (2)) (by decide)) (k_gS u_ml_L_15 u_st_L_below u_ini_L u_co_L_below) q_L_below rfl rfl rfl ⟨(Nat.le_of_ble_eq_true rfl), (Nat.le_of_ble_eq_true rfl)⟩ hl.1 rfl (Nat.le_of_ble_eq_true rfl) dL_act_681 ⟨(Nat.le_of_ble_eq_true rfl), (Nat.le_of_ble_eq_true rfl)⟩) (fun H locs hw => ?_)
    rw [ed1]
    refine lv_if_ne (tgt := 689) hM.x hM.b dL_act_684 (by decide) (fun c2 => ?_) (fun c2 => ?_)
    · skip
      obtain ⟨j0, hj, ej⟩ := RR.hung hR hs c1
      refine lv_aload hM.x hM.b dL_act_689 (lv_at hl 5 rfl) ?_
      refine lv_iconst (v := 3) hM.x hM.b dL_act_691 (by decide) ?_
      refine k_ialdN (i := 3) (n := 6) hM hw (hL.S hs) (sh20 (kdS _ (hL.s6 hs))) (by decide) (by decide) dL_act_692 ?_
      rw [show κ (98 + s0) (3) = nI j0 from ej]
      refine lv_istore (lv' := [(15, .int (nI (j0))), (0, .ref (ad (0))), (1, .ref (ad (91))), (2, .int (x)), (5, .int (nI (f0))), (7, .int (nI (s0))), (8, .ref (ad (98 + s0)))]) hM.x hM.b dL_act_693 hl (by decide) rfl (fun ls hl => ?_)
      refine lv_aload_n hM.x hM.b dL_act_695 rfl (lv_at hl 2 rfl) ?_
      refine k_get6r 2 hM hw hL.m91 (by decide) u_fl_L_59 dL_act_696 ?_
      refine lv_iload hM.x hM.b dL_act_699 (lv_at hl 0 rfl) ?_
      refine k_aldqN (i := j0) (n := nr) (t := 5) (x := ad (104 + 2 * (j0))) hM hw (hL.m94) (lsh94 hL) rfl hj (by omega) (if_pos hj) dL_act_701 ?_
      refine lv_iconst (v := -1) hM.x hM.b dL_act_702 (by decide) ?_
      refine k_put5 1 hM hw (kdR _ (hL.r16 hj)).1 (hL.R hj).1 (by decide) u_fl_L_81 dL_act_703 (fun H locs hw => ?_)
      obtain ⟨κ1, eκ1⟩ : ∃ z : Kp, up2 κ (104 + 2 * (j0)) 1 ((-1)) = z := ⟨_, rfl⟩
      rw [eκ1] at hw
      refine lv_aload hM.x hM.b dL_act_706 (lv_at hl 6 rfl) ?_
      refine lv_iconst (v := 3) hM.x hM.b dL_act_708 (by decide) ?_
      refine lv_iconst (v := -1) hM.x hM.b dL_act_709 (by decide) ?_
      refine k_iastN (i := 3) (n := 6) hM hw (hL.S hs) (fun r => sh20 (kdS _ (hL.s6 hs))) (by decide) (by decide) dL_act_710 (fun H locs hw => ?_)
      obtain ⟨κ2, eκ2⟩ : ∃ z : Kp, up2 κ1 (98 + s0) (3) ((-1)) = z := ⟨_, rfl⟩
      rw [eκ2] at hw
      refine lv_aload_n hM.x hM.b dL_act_711 rfl (lv_at hl 1 rfl) ?_
      refine lv_iload hM.x hM.b dL_act_712 (lv_at hl 5 rfl) ?_
      obtain ⟨κ9, he, hR9⟩ := op_takeDown (κ1 := κ2) hR hs hj ej (by rw [← eκ2, ← eκ1])
      refine k_xiK he hw (k_runXV [.int (nI (s0))] [] hM hw (m_X4_takeDown l ((D, L), cA, ad) κ2 _ (nI (s0)) hlst) (hw.dm kd_0 (by decide)) (sh4 kd_0) rfl (k_gV u_ml_L_84 u_im_X4_takeDown u_se_X4_takeDown u_ini_X4 u_co_X4_takeDown) (q_X4_takeDown) rfl rfl rfl ⟨(Nat.le_of_ble_eq_true rfl), (Nat.le_of_ble_eq_true rfl)⟩ hl.1 rfl (Nat.le_of_ble_eq_true rfl) dL_act_714 ⟨(Nat.le_of_ble_eq_true rfl), (Nat.le_of_ble_eq_true rfl)⟩) (fun H locs hw => ?_)
      refine lv_iload hM.x hM.b dL_act_717 (lv_at hl 0 rfl) ?_
      refine lv_icmp_ne (tgt := 726) hM.x hM.b dL_act_719 (by decide) (fun cz => absurd rfl cz) (fun _ => ?_)
      refine lv_iconst (v := 1) hM.x hM.b dL_act_722 (by decide) ?_
      refine lv_goto (tgt := 727) hM.x hM.b dL_act_723 (by decide) ?_
      exact a_zret (b := true) (u := ((L, ad), κ9)) hM hr hw.2.1 (Nat.le_of_ble_eq_true rfl) (Nat.le_of_ble_eq_true rfl) ⟨rfl, ⟨nf, ns, nr, hL, hR9⟩, had⟩ (fun t ht => ⟨by rw [ht]; exact hw.1, hw.2.2.1⟩) dL_act_727
    · skip
      refine lv_iconst (v := 1) hM.x hM.b dL_act_687 (by decide) ?_
      exact a_zret (b := true) (u := ((L, ad), κ)) hM hr hw.2.1 (Nat.le_of_ble_eq_true rfl) (Nat.le_of_ble_eq_true rfl) ⟨rfl, ⟨nf, ns, nr, hL, hR⟩, had⟩ (fun t ht => ⟨by rw [ht]; exact hw.1, hw.2.2.1⟩) dL_act_688
set_option maxRecDepth 100000 in
set_option maxHeartbeats 4000000 in
theorem act_emptyPan {p : Program} {e : Env} {s : State} {m : MethodId} {args : Array Value} {below : List Frame} {meth : Method} {c : Code} {A : Nat → Prop} {D : va_G} {cA : Nat → ClassId} {L : List Nat} {ad ad0 : Nat → Nat} {nf ns nr : Nat} {κ : Kp} {x : Int32} (l : Launch) (hlst : l.stackTraces = false) (hM : Ma A D cA p s m args meth c cL_act 20 RL) (hr : meth.sig.returnType = some .boolean) (hL : Lm L ad nf ns nr []) (hR : RR nf ns nr κ) (had : ∀ k, k < 92 → ad k = ad0 k) {f0 s0 : Nat} (hf : f0 < nf) (hs : s0 < ns) {H : Heap} {locs : List Loc} {ls : Array Slot} (hw : Wa A D cA L ad s κ H locs) (hl : lv_has ls 20 [(0, .ref (ad (0))), (1, .ref (ad (91))), (2, .int (x)), (5, .int (nI (f0))), (7, .int (nI (s0))), (8, .ref (ad (98 + s0)))]) : W p l e { frames := 8, cells := 130, slots := 600, locals := 250 } s m args below meth c H locs 0 0 (MQ below (va_Qi (actP ad0) (Wu D cA A) A) args s 130 600 A) (F0 m 728 ls []) := by
  have hb := hR.b
  refine lv_iload_n hM.x hM.b dL_act_728 rfl (lv_at hl 2 rfl) ?_
  refine lv_iconst (v := nI 3) hM.x hM.b dL_act_729 (by decide) ?_
  obtain ⟨d1, hd1, ed1⟩ := below_in (x) (3) (by decide) (by omega)
  refine k_cip hw (k_runS [.int (x), .int (nI (3))] [] hM hw (m_L_below l ((D, L), cA, ad) κ _ (x) (nI (3)) (by decide)) (k_gS u_ml_L_15 u_st_L_below u_ini_L u_co_L_below) q_L_below rfl rfl rfl ⟨(Nat.le_of_ble_eq_true rfl), (Nat.le_of_ble_eq_true rfl)⟩ hl.1 rfl (Nat.le_of_ble_eq_true rfl) dL_act_730 ⟨(Nat.le_of_ble_eq_true rfl), (Nat.le_of_ble_eq_true rfl)⟩) (fun H locs hw => ?_)
  rw [ed1]
  refine lv_if_le (tgt := 738) hM.x hM.b dL_act_733 (by decide) (fun c1 => ?_) (fun c1 => ?_)
  · skip
    refine lv_aload hM.x hM.b dL_act_738 (lv_at hl 5 rfl) ?_
    refine lv_iconst (v := 2) hM.x hM.b dL_act_740 (by decide) ?_
    refine k_ialdN (i := 2) (n := 6) hM hw (hL.S hs) (sh20 (kdS _ (hL.s6 hs))) (by decide) (by decide) dL_act_741 ?_
    refine lv_istore (lv' := [(16, .int (κ (98 + s0) (2))), (0, .ref (ad (0))), (1, .ref (ad (91))), (2, .int (x)), (5, .int (nI (f0))), (7, .int (nI (s0))), (8, .ref (ad (98 + s0)))]) hM.x hM.b dL_act_742 hl (by decide) rfl (fun ls hl => ?_)
    refine lv_aload hM.x hM.b dL_act_744 (lv_at hl 6 rfl) ?_
    refine lv_iconst (v := 2) hM.x hM.b dL_act_746 (by decide) ?_
    refine lv_iconst (v := 0) hM.x hM.b dL_act_747 (by decide) ?_
    refine k_iastN (i := 2) (n := 6) hM hw (hL.S hs) (fun r => sh20 (kdS _ (hL.s6 hs))) (by decide) (by decide) dL_act_748 (fun H locs hw => ?_)
    obtain ⟨κ1, eκ1⟩ : ∃ z : Kp, up2 κ (98 + s0) (2) (0) = z := ⟨_, rfl⟩
    rw [eκ1] at hw
    refine lv_aload_n hM.x hM.b dL_act_749 rfl (lv_at hl 1 rfl) ?_
    refine lv_iload hM.x hM.b dL_act_750 (lv_at hl 5 rfl) ?_
    obtain ⟨κ9, he, hR9⟩ := op_emptyPan (κ1 := κ1) hR hs eκ1
    refine k_xiK he hw (k_runXV [.int (nI (s0))] [] hM hw (m_X4_emptyPan l ((D, L), cA, ad) κ1 _ (nI (s0)) hlst) (hw.dm kd_0 (by decide)) (sh4 kd_0) rfl (k_gV u_ml_L_87 u_im_X4_emptyPan u_se_X4_emptyPan u_ini_X4 u_co_X4_emptyPan) (q_X4_emptyPan) rfl rfl rfl ⟨(Nat.le_of_ble_eq_true rfl), (Nat.le_of_ble_eq_true rfl)⟩ hl.1 rfl (Nat.le_of_ble_eq_true rfl) dL_act_752 ⟨(Nat.le_of_ble_eq_true rfl), (Nat.le_of_ble_eq_true rfl)⟩) (fun H locs hw => ?_)
    refine lv_iload hM.x hM.b dL_act_755 (lv_at hl 0 rfl) ?_
    refine lv_icmp_ne (tgt := 764) hM.x hM.b dL_act_757 (by decide) (fun cz => absurd rfl cz) (fun _ => ?_)
    refine lv_iconst (v := 1) hM.x hM.b dL_act_760 (by decide) ?_
    refine lv_goto (tgt := 765) hM.x hM.b dL_act_761 (by decide) ?_
    exact a_zret (b := true) (u := ((L, ad), κ9)) hM hr hw.2.1 (Nat.le_of_ble_eq_true rfl) (Nat.le_of_ble_eq_true rfl) ⟨rfl, ⟨nf, ns, nr, hL, hR9⟩, had⟩ (fun t ht => ⟨by rw [ht]; exact hw.1, hw.2.2.1⟩) dL_act_765
  · skip
    refine lv_iconst (v := 1) hM.x hM.b dL_act_736 (by decide) ?_
    exact a_zret (b := true) (u := ((L, ad), κ)) hM hr hw.2.1 (Nat.le_of_ble_eq_true rfl) (Nat.le_of_ble_eq_true rfl) ⟨rfl, ⟨nf, ns, nr, hL, hR⟩, had⟩ (fun t ht => ⟨by rw [ht]; exact hw.1, hw.2.2.1⟩) dL_act_737
