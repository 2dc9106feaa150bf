set_option maxRecDepth 100000 in
set_option maxHeartbeats 4000000 in
theorem lc_addFire {p : Program} {e : Env} {s : State} {m : MethodId} {below : List Frame} {meth : Method} {c : Code} {Q : State → Prop} (l : Launch) (hlst : l.stackTraces = false) (g : Gt) {b L t : Nat} {xs : Nat → Int32} {S : Nat → Kp → Prop} (hsim : SimOp S (fun κ => f_L_addFire κ ) (fun κ => f_X5_addFire κ )) (hM0 : Mc g p s m ([.ref b] : List Value).toArray meth c cL_law 9 RL) (hX : va_X b L xs s s.heap) (hbl : b < s.heap.size) (hbA : ¬ fr g s.heap.size b) (hL : 3 * t + 3 ≤ L) (hL2 : L ≤ 1536) {cells slots : Nat} (hcl : cells + 30 ≤ 655566) (hsl : slots + 200 ≤ 7129405) (κ : Kp) (hS : S t κ) (d0 : Drawn) (hd0 : s.drawn.sameBut d0 lw_cs) (H : Heap) (locs : List Loc) (ls : Array Slot) (hl : lv_has ls 9 (lwL g b t)) (hw : Ws g s κ H locs) (hx : ∀ (κ2 : Kp) (d1 : Drawn) (H : Heap) (locs : List Loc) (ls : Array Slot), S (t + 1) κ2 → s.drawn.sameBut d1 lw_cs → lv_has ls 9 (lwL g b t) → Ws g s κ2 H locs → W p l e room_1 (s.setDrawn d1) m ([.ref b] : List Value).toArray below meth c H locs (cells + 30) (slots + 200) Q (F0 m 2211 ls [])) : W p l e room_1 (s.setDrawn d0) m ([.ref b] : List Value).toArray below meth c H locs cells slots Q (F0 m 212 ls []) := by
  have hM := hM0.drawn d0
  have hw : Ws g (s.setDrawn d0) κ H locs := hw
  refine lv_aload_n hM.x hM.b dL_law_212 rfl (lv_at hl 3 rfl) ?_
  refine lv_aload_n hM.x hM.b dL_law_213 rfl (lv_at hl 1 rfl) ?_
  refine k_ci hw (k_runSW [.ref (g.2.2 (0)), .ref (g.2.2 (98))] [] hM hw (m_L_addFire l g κ _ hlst) (k_gSW u_ml_L_119 u_st_L_addFire u_ini_L u_co_L_addFire) (q_L_addFire) rfl rfl rfl ⟨Nat.le_of_ble_eq_true rfl, Nat.le_of_ble_eq_true rfl⟩ hl.1 rfl (Nat.le_of_ble_eq_true rfl) dL_law_214 ⟨(show _ ≤ 655566 by omega), (show _ ≤ 7129405 by omega)⟩) (fun r1 κ1 H locs hpκ1 hw => ?_)
  refine lv_istore (lv' := [(5, .int (r1)), (4, .int (nI (3 * t))), (3, .ref (g.2.2 (98))), (2, .ref (g.2.2 (91))), (1, .ref (g.2.2 (0))), (0, .ref b)]) hM.x hM.b dL_law_217 hl (by decide) rfl (fun ls hl => ?_)
  refine lv_aload_n hM.x hM.b dL_law_219 rfl (lv_at hl 3 rfl) ?_
  refine k_ci hw (k_runV [] [] hM hw (m_X5_addFire l g κ1 _ (hsim _ _ (by omega) hS _ _ hpκ1).1) (kd_lt kd_91 (by decide)) (sh5 kd_91) rfl (k_gV u_ml_L_124 u_im_X5_addFire u_se_X5_addFire u_ini_X5 u_co_X5_addFire) (q_X5_addFire) rfl rfl rfl ⟨Nat.le_of_ble_eq_true rfl, Nat.le_of_ble_eq_true rfl⟩ hl.1 rfl (Nat.le_of_ble_eq_true rfl) dL_law_220 ⟨(show _ ≤ 655566 by omega), (show _ ≤ 7129405 by omega)⟩) (fun r2 κ2 H locs hpκ2 hw => ?_)
  refine lv_istore (lv' := [(6, .int (r2)), (5, .int (r1)), (4, .int (nI (3 * t))), (3, .ref (g.2.2 (98))), (2, .ref (g.2.2 (91))), (1, .ref (g.2.2 (0))), (0, .ref b)]) hM.x hM.b dL_law_223 hl (by decide) rfl (fun ls hl => ?_)
  refine lv_aload_n hM.x hM.b dL_law_225 rfl (lv_at hl 4 rfl) ?_
  refine k_cip hw (k_runV [] [] hM hw (m_X5_thrown l g κ2 _) (kd_lt kd_91 (by decide)) (sh5 kd_91) rfl (k_gV u_ml_L_125 u_im_X5_thrown u_se_X5_thrown u_ini_X5 u_co_X5_thrown) (q_X5_thrown) rfl rfl rfl ⟨Nat.le_of_ble_eq_true rfl, Nat.le_of_ble_eq_true rfl⟩ hl.1 rfl (Nat.le_of_ble_eq_true rfl) dL_law_226 ⟨(show _ ≤ 655566 by omega), (show _ ≤ 7129405 by omega)⟩) (fun H locs hw => ?_)
  refine lv_iload hM.x hM.b dL_law_229 (lv_at hl 1 rfl) ?_
  refine lv_icmp_eq (tgt := 236) hM.x hM.b dL_law_231 (by decide) (fun _ => ?_) (fun cz => absurd ((hsim _ _ (by omega) hS _ _ hpκ1).2 _ _ hpκ2).1 cz)
  refine lv_iload hM.x hM.b dL_law_236 (lv_at hl 1 rfl) ?_
  refine lv_if_ne (tgt := 253) hM.x hM.b dL_law_238 (by decide) (fun c1 => ?_) (fun c1 => ?_)
  · skip
    refine lv_goto (tgt := 2211) hM.x hM.b dL_law_253 (by decide) ?_
    refine W.widen (k := cells + 30) (n := slots + 200) (by omega) (by omega) ?_
    exact hx κ2 d0 H locs ls ((hsim _ _ (by omega) hS _ _ hpκ1).2 _ _ hpκ2).2.2 hd0 (lv_sub hl [2, 3, 4, 5, 6] rfl) hw
  · skip
    refine lv_aload_n hM.x hM.b dL_law_241 rfl (lv_at hl 3 rfl) ?_
    refine lv_iconst (v := 0) hM.x hM.b dL_law_242 (by decide) ?_
    refine k_lald hM hw dL_law_243 ?_
    refine lv_iload hM.x hM.b dL_law_244 (lv_at hl 0 rfl) ?_
    refine lv_i2l (v := (r2).toInt64) hM.x hM.b dL_law_246 rfl ?_
    refine W.lcmp hM.x hM.b dL_law_247 ?_
    refine lv_if_eq (tgt := 253) hM.x hM.b dL_law_248 (by decide) (fun _ => ?_) (fun cz => absurd (lgc32 (((hsim _ _ (by omega) hS _ _ hpκ1).2 _ _ hpκ2).2.1 c1)) cz)
    refine lv_goto (tgt := 2211) hM.x hM.b dL_law_253 (by decide) ?_
    refine W.widen (k := cells + 30) (n := slots + 200) (by omega) (by omega) ?_
    exact hx κ2 d0 H locs ls ((hsim _ _ (by omega) hS _ _ hpκ1).2 _ _ hpκ2).2.2 hd0 (lv_sub hl [2, 3, 4, 5, 6] rfl) hw
set_option maxRecDepth 100000 in
set_option maxHeartbeats 4000000 in
theorem lc_layLogs {p : Program} {e : Env} {s : State} {m : MethodId} {below : List Frame} {meth : Method} {c : Code} {Q : State → Prop} (l : Launch) (hlst : l.stackTraces = false) (g : Gt) {b L t : Nat} {xs : Nat → Int32} {S : Nat → Kp → Prop} (hsim : SimOp S (fun κ => f_L_layLogs κ (xs (3 * t + 1)) (xs (3 * t + 2))) (fun κ => f_X5_layLogs κ (xs (3 * t + 1)) (xs (3 * t + 2)))) (hM0 : Mc g p s m ([.ref b] : List Value).toArray meth c cL_law 9 RL) (hX : va_X b L xs s s.heap) (hbl : b < s.heap.size) (hbA : ¬ fr g s.heap.size b) (hL : 3 * t + 3 ≤ L) (hL2 : L ≤ 1536) {cells slots : Nat} (hcl : cells + 30 ≤ 655566) (hsl : slots + 200 ≤ 7129405) (κ : Kp) (hS : S t κ) (d0 : Drawn) (hd0 : s.drawn.sameBut d0 lw_cs) (H : Heap) (locs : List Loc) (ls : Array Slot) (hl : lv_has ls 9 (lwL g b t)) (hw : Ws g s κ H locs) (hx : ∀ (κ2 : Kp) (d1 : Drawn) (H : Heap) (locs : List Loc) (ls : Array Slot), S (t + 1) κ2 → s.drawn.sameBut d1 lw_cs → lv_has ls 9 (lwL g b t) → Ws g s κ2 H locs → W p l e room_1 (s.setDrawn d1) m ([.ref b] : List Value).toArray below meth c H locs (cells + 30) (slots + 200) Q (F0 m 2211 ls [])) : W p l e room_1 (s.setDrawn d0) m ([.ref b] : List Value).toArray below meth c H locs cells slots Q (F0 m 256 ls []) := by
  have hM := hM0.drawn d0
  have hw : Ws g (s.setDrawn d0) κ H locs := hw
  refine lv_aload_n hM.x hM.b dL_law_256 rfl (lv_at hl 3 rfl) ?_
  refine lv_aload_n hM.x hM.b dL_law_257 rfl (lv_at hl 4 rfl) ?_
  refine lv_iload hM.x hM.b dL_law_258 (lv_at hl 0 rfl) ?_
  refine lv_iconst (v := 1) hM.x hM.b dL_law_260 (by decide) ?_
  refine k_iaddN (a := 3 * t) (b := 1) hM dL_law_261 ?_
  refine k_sld (i := (3 * t + 1)) hM hX hbl hbA hw (by omega) hL2 dL_law_262 ?_
  refine lv_aload_n hM.x hM.b dL_law_263 rfl (lv_at hl 4 rfl) ?_
  refine lv_iload hM.x hM.b dL_law_264 (lv_at hl 0 rfl) ?_
  refine lv_iconst (v := 2) hM.x hM.b dL_law_266 (by decide) ?_
  refine k_iaddN (a := 3 * t) (b := 2) hM dL_law_267 ?_
  refine k_sld (i := (3 * t + 2)) hM hX hbl hbA hw (by omega) hL2 dL_law_268 ?_
  refine lv_aload_n hM.x hM.b dL_law_269 rfl (lv_at hl 1 rfl) ?_
  refine k_ci hw (k_runSW [.ref (g.2.2 (0)), .int (xs ((3 * t + 1))), .int (xs ((3 * t + 2))), .ref (g.2.2 (98))] [] hM hw (m_L_layLogs l g κ _ (xs ((3 * t + 1))) (xs ((3 * t + 2))) hlst) (k_gSW u_ml_L_128 u_st_L_layLogs u_ini_L u_co_L_layLogs) (q_L_layLogs) rfl rfl rfl ⟨Nat.le_of_ble_eq_true rfl, Nat.le_of_ble_eq_true rfl⟩ hl.1 rfl (Nat.le_of_ble_eq_true rfl) dL_law_270 ⟨(show _ ≤ 655566 by omega), (show _ ≤ 7129405 by omega)⟩) (fun r1 κ1 H locs hpκ1 hw => ?_)
  refine lv_istore (lv' := [(5, .int (r1)), (4, .int (nI (3 * t))), (3, .ref (g.2.2 (98))), (2, .ref (g.2.2 (91))), (1, .ref (g.2.2 (0))), (0, .ref b)]) hM.x hM.b dL_law_273 hl (by decide) rfl (fun ls hl => ?_)
  refine lv_aload_n hM.x hM.b dL_law_275 rfl (lv_at hl 3 rfl) ?_
  refine lv_aload_n hM.x hM.b dL_law_276 rfl (lv_at hl 5 rfl) ?_
  refine lv_iload hM.x hM.b dL_law_277 (lv_at hl 1 rfl) ?_
  refine lv_iconst (v := 1) hM.x hM.b dL_law_279 (by decide) ?_
  refine k_iaddN (a := 3 * t) (b := 1) hM dL_law_280 ?_
  refine k_sld (i := (3 * t + 1)) hM hX hbl hbA hw (by omega) hL2 dL_law_281 ?_
  refine lv_aload_n hM.x hM.b dL_law_282 rfl (lv_at hl 5 rfl) ?_
  refine lv_iload hM.x hM.b dL_law_283 (lv_at hl 1 rfl) ?_
  refine lv_iconst (v := 2) hM.x hM.b dL_law_285 (by decide) ?_
  refine k_iaddN (a := 3 * t) (b := 2) hM dL_law_286 ?_
  refine k_sld (i := (3 * t + 2)) hM hX hbl hbA hw (by omega) hL2 dL_law_287 ?_
  refine k_ci hw (k_runV [.int (xs ((3 * t + 1))), .int (xs ((3 * t + 2)))] [] hM hw (m_X5_layLogs l g κ1 _ (xs ((3 * t + 1))) (xs ((3 * t + 2))) (hsim _ _ (by omega) hS _ _ hpκ1).1) (kd_lt kd_91 (by decide)) (sh5 kd_91) rfl (k_gV u_ml_L_131 u_im_X5_layLogs u_se_X5_layLogs u_ini_X5 u_co_X5_layLogs) (q_X5_layLogs) rfl rfl rfl ⟨Nat.le_of_ble_eq_true rfl, Nat.le_of_ble_eq_true rfl⟩ hl.1 rfl (Nat.le_of_ble_eq_true rfl) dL_law_288 ⟨(show _ ≤ 655566 by omega), (show _ ≤ 7129405 by omega)⟩) (fun r2 κ2 H locs hpκ2 hw => ?_)
  refine lv_istore (lv' := [(6, .int (r2)), (5, .int (r1)), (4, .int (nI (3 * t))), (3, .ref (g.2.2 (98))), (2, .ref (g.2.2 (91))), (1, .ref (g.2.2 (0))), (0, .ref b)]) hM.x hM.b dL_law_291 hl (by decide) rfl (fun ls hl => ?_)
  refine lv_aload_n hM.x hM.b dL_law_293 rfl (lv_at hl 4 rfl) ?_
  refine k_cip hw (k_runV [] [] hM hw (m_X5_thrown l g κ2 _) (kd_lt kd_91 (by decide)) (sh5 kd_91) rfl (k_gV u_ml_L_125 u_im_X5_thrown u_se_X5_thrown u_ini_X5 u_co_X5_thrown) (q_X5_thrown) rfl rfl rfl ⟨Nat.le_of_ble_eq_true rfl, Nat.le_of_ble_eq_true rfl⟩ hl.1 rfl (Nat.le_of_ble_eq_true rfl) dL_law_294 ⟨(show _ ≤ 655566 by omega), (show _ ≤ 7129405 by omega)⟩) (fun H locs hw => ?_)
  refine lv_iload hM.x hM.b dL_law_297 (lv_at hl 1 rfl) ?_
  refine lv_icmp_eq (tgt := 304) hM.x hM.b dL_law_299 (by decide) (fun _ => ?_) (fun cz => absurd ((hsim _ _ (by omega) hS _ _ hpκ1).2 _ _ hpκ2).1 cz)
  refine lv_iload hM.x hM.b dL_law_304 (lv_at hl 1 rfl) ?_
  refine lv_if_ne (tgt := 321) hM.x hM.b dL_law_306 (by decide) (fun c1 => ?_) (fun c1 => ?_)
  · skip
    refine lv_goto (tgt := 2211) hM.x hM.b dL_law_321 (by decide) ?_
    refine W.widen (k := cells + 30) (n := slots + 200) (by omega) (by omega) ?_
    exact hx κ2 d0 H locs ls ((hsim _ _ (by omega) hS _ _ hpκ1).2 _ _ hpκ2).2.2 hd0 (lv_sub hl [2, 3, 4, 5, 6] rfl) hw
  · skip
    refine lv_aload_n hM.x hM.b dL_law_309 rfl (lv_at hl 3 rfl) ?_
    refine lv_iconst (v := 0) hM.x hM.b dL_law_310 (by decide) ?_
    refine k_lald hM hw dL_law_311 ?_
    refine lv_iload hM.x hM.b dL_law_312 (lv_at hl 0 rfl) ?_
    refine lv_i2l (v := (r2).toInt64) hM.x hM.b dL_law_314 rfl ?_
    refine W.lcmp hM.x hM.b dL_law_315 ?_
    refine lv_if_eq (tgt := 321) hM.x hM.b dL_law_316 (by decide) (fun _ => ?_) (fun cz => absurd (lgc32 (((hsim _ _ (by omega) hS _ _ hpκ1).2 _ _ hpκ2).2.1 c1)) cz)
    refine lv_goto (tgt := 2211) hM.x hM.b dL_law_321 (by decide) ?_
    refine W.widen (k := cells + 30) (n := slots + 200) (by omega) (by omega) ?_
    exact hx κ2 d0 H locs ls ((hsim _ _ (by omega) hS _ _ hpκ1).2 _ _ hpκ2).2.2 hd0 (lv_sub hl [2, 3, 4, 5, 6] rfl) hw
set_option maxRecDepth 100000 in
set_option maxHeartbeats 4000000 in
theorem lc_addSpit {p : Program} {e : Env} {s : State} {m : MethodId} {below : List Frame} {meth : Method} {c : Code} {Q : State → Prop} (l : Launch) (hlst : l.stackTraces = false) (g : Gt) {b L t : Nat} {xs : Nat → Int32} {S : Nat → Kp → Prop} (hsim : SimOp S (fun κ => f_L_addSpit κ (xs (3 * t + 1)) (xs (3 * t + 2))) (fun κ => f_X5_addSpit κ (xs (3 * t + 1)) (xs (3 * t + 2)))) (hM0 : Mc g p s m ([.ref b] : List Value).toArray meth c cL_law 9 RL) (hX : va_X b L xs s s.heap) (hbl : b < s.heap.size) (hbA : ¬ fr g s.heap.size b) (hL : 3 * t + 3 ≤ L) (hL2 : L ≤ 1536) {cells slots : Nat} (hcl : cells + 30 ≤ 655566) (hsl : slots + 200 ≤ 7129405) (κ : Kp) (hS : S t κ) (d0 : Drawn) (hd0 : s.drawn.sameBut d0 lw_cs) (H : Heap) (locs : List Loc) (ls : Array Slot) (hl : lv_has ls 9 (lwL g b t)) (hw : Ws g s κ H locs) (hx : ∀ (κ2 : Kp) (d1 : Drawn) (H : Heap) (locs : List Loc) (ls : Array Slot), S (t + 1) κ2 → s.drawn.sameBut d1 lw_cs → lv_has ls 9 (lwL g b t) → Ws g s κ2 H locs → W p l e room_1 (s.setDrawn d1) m ([.ref b] : List Value).toArray below meth c H locs (cells + 30) (slots + 200) Q (F0 m 2211 ls [])) : W p l e room_1 (s.setDrawn d0) m ([.ref b] : List Value).toArray below meth c H locs cells slots Q (F0 m 324 ls []) := by
  have hM := hM0.drawn d0
  have hw : Ws g (s.setDrawn d0) κ H locs := hw
  refine lv_aload_n hM.x hM.b dL_law_324 rfl (lv_at hl 3 rfl) ?_
  refine lv_aload_n hM.x hM.b dL_law_325 rfl (lv_at hl 4 rfl) ?_
  refine lv_iload hM.x hM.b dL_law_326 (lv_at hl 0 rfl) ?_
  refine lv_iconst (v := 1) hM.x hM.b dL_law_328 (by decide) ?_
  refine k_iaddN (a := 3 * t) (b := 1) hM dL_law_329 ?_
  refine k_sld (i := (3 * t + 1)) hM hX hbl hbA hw (by omega) hL2 dL_law_330 ?_
  refine lv_aload_n hM.x hM.b dL_law_331 rfl (lv_at hl 4 rfl) ?_
  refine lv_iload hM.x hM.b dL_law_332 (lv_at hl 0 rfl) ?_
  refine lv_iconst (v := 2) hM.x hM.b dL_law_334 (by decide) ?_
  refine k_iaddN (a := 3 * t) (b := 2) hM dL_law_335 ?_
  refine k_sld (i := (3 * t + 2)) hM hX hbl hbA hw (by omega) hL2 dL_law_336 ?_
  refine lv_aload_n hM.x hM.b dL_law_337 rfl (lv_at hl 1 rfl) ?_
  refine k_ci hw (k_runSW [.ref (g.2.2 (0)), .int (xs ((3 * t + 1))), .int (xs ((3 * t + 2))), .ref (g.2.2 (98))] [] hM hw (m_L_addSpit l g κ _ (xs ((3 * t + 1))) (xs ((3 * t + 2))) hlst) (k_gSW u_ml_L_132 u_st_L_addSpit u_ini_L u_co_L_addSpit) (q_L_addSpit) rfl rfl rfl ⟨Nat.le_of_ble_eq_true rfl, Nat.le_of_ble_eq_true rfl⟩ hl.1 rfl (Nat.le_of_ble_eq_true rfl) dL_law_338 ⟨(show _ ≤ 655566 by omega), (show _ ≤ 7129405 by omega)⟩) (fun r1 κ1 H locs hpκ1 hw => ?_)
  refine lv_istore (lv' := [(5, .int (r1)), (4, .int (nI (3 * t))), (3, .ref (g.2.2 (98))), (2, .ref (g.2.2 (91))), (1, .ref (g.2.2 (0))), (0, .ref b)]) hM.x hM.b dL_law_341 hl (by decide) rfl (fun ls hl => ?_)
  refine lv_aload_n hM.x hM.b dL_law_343 rfl (lv_at hl 3 rfl) ?_
  refine lv_aload_n hM.x hM.b dL_law_344 rfl (lv_at hl 5 rfl) ?_
  refine lv_iload hM.x hM.b dL_law_345 (lv_at hl 1 rfl) ?_
  refine lv_iconst (v := 1) hM.x hM.b dL_law_347 (by decide) ?_
  refine k_iaddN (a := 3 * t) (b := 1) hM dL_law_348 ?_
  refine k_sld (i := (3 * t + 1)) hM hX hbl hbA hw (by omega) hL2 dL_law_349 ?_
  refine lv_aload_n hM.x hM.b dL_law_350 rfl (lv_at hl 5 rfl) ?_
  refine lv_iload hM.x hM.b dL_law_351 (lv_at hl 1 rfl) ?_
  refine lv_iconst (v := 2) hM.x hM.b dL_law_353 (by decide) ?_
  refine k_iaddN (a := 3 * t) (b := 2) hM dL_law_354 ?_
  refine k_sld (i := (3 * t + 2)) hM hX hbl hbA hw (by omega) hL2 dL_law_355 ?_
  refine k_ci hw (k_runV [.int (xs ((3 * t + 1))), .int (xs ((3 * t + 2)))] [] hM hw (m_X5_addSpit l g κ1 _ (xs ((3 * t + 1))) (xs ((3 * t + 2))) (hsim _ _ (by omega) hS _ _ hpκ1).1) (kd_lt kd_91 (by decide)) (sh5 kd_91) rfl (k_gV u_ml_L_134 u_im_X5_addSpit u_se_X5_addSpit u_ini_X5 u_co_X5_addSpit) (q_X5_addSpit) rfl rfl rfl ⟨Nat.le_of_ble_eq_true rfl, Nat.le_of_ble_eq_true rfl⟩ hl.1 rfl (Nat.le_of_ble_eq_true rfl) dL_law_356 ⟨(show _ ≤ 655566 by omega), (show _ ≤ 7129405 by omega)⟩) (fun r2 κ2 H locs hpκ2 hw => ?_)
  refine lv_istore (lv' := [(6, .int (r2)), (5, .int (r1)), (4, .int (nI (3 * t))), (3, .ref (g.2.2 (98))), (2, .ref (g.2.2 (91))), (1, .ref (g.2.2 (0))), (0, .ref b)]) hM.x hM.b dL_law_359 hl (by decide) rfl (fun ls hl => ?_)
  refine lv_aload_n hM.x hM.b dL_law_361 rfl (lv_at hl 4 rfl) ?_
  refine k_cip hw (k_runV [] [] hM hw (m_X5_thrown l g κ2 _) (kd_lt kd_91 (by decide)) (sh5 kd_91) rfl (k_gV u_ml_L_125 u_im_X5_thrown u_se_X5_thrown u_ini_X5 u_co_X5_thrown) (q_X5_thrown) rfl rfl rfl ⟨Nat.le_of_ble_eq_true rfl, Nat.le_of_ble_eq_true rfl⟩ hl.1 rfl (Nat.le_of_ble_eq_true rfl) dL_law_362 ⟨(show _ ≤ 655566 by omega), (show _ ≤ 7129405 by omega)⟩) (fun H locs hw => ?_)
  refine lv_iload hM.x hM.b dL_law_365 (lv_at hl 1 rfl) ?_
  refine lv_icmp_eq (tgt := 372) hM.x hM.b dL_law_367 (by decide) (fun _ => ?_) (fun cz => absurd ((hsim _ _ (by omega) hS _ _ hpκ1).2 _ _ hpκ2).1 cz)
  refine lv_iload hM.x hM.b dL_law_372 (lv_at hl 1 rfl) ?_
  refine lv_if_ne (tgt := 389) hM.x hM.b dL_law_374 (by decide) (fun c1 => ?_) (fun c1 => ?_)
  · skip
    refine lv_goto (tgt := 2211) hM.x hM.b dL_law_389 (by decide) ?_
    refine W.widen (k := cells + 30) (n := slots + 200) (by omega) (by omega) ?_
    exact hx κ2 d0 H locs ls ((hsim _ _ (by omega) hS _ _ hpκ1).2 _ _ hpκ2).2.2 hd0 (lv_sub hl [2, 3, 4, 5, 6] rfl) hw
  · skip
    refine lv_aload_n hM.x hM.b dL_law_377 rfl (lv_at hl 3 rfl) ?_
    refine lv_iconst (v := 0) hM.x hM.b dL_law_378 (by decide) ?_
    refine k_lald hM hw dL_law_379 ?_
    refine lv_iload hM.x hM.b dL_law_380 (lv_at hl 0 rfl) ?_
    refine lv_i2l (v := (r2).toInt64) hM.x hM.b dL_law_382 rfl ?_
    refine W.lcmp hM.x hM.b dL_law_383 ?_
    refine lv_if_eq (tgt := 389) hM.x hM.b dL_law_384 (by decide) (fun _ => ?_) (fun cz => absurd (lgc32 (((hsim _ _ (by omega) hS _ _ hpκ1).2 _ _ hpκ2).2.1 c1)) cz)
    refine lv_goto (tgt := 2211) hM.x hM.b dL_law_389 (by decide) ?_
    refine W.widen (k := cells + 30) (n := slots + 200) (by omega) (by omega) ?_
    exact hx κ2 d0 H locs ls ((hsim _ _ (by omega) hS _ _ hpκ1).2 _ _ hpκ2).2.2 hd0 (lv_sub hl [2, 3, 4, 5, 6] rfl) hw
set_option maxRecDepth 100000 in
set_option maxHeartbeats 4000000 in
theorem lc_moveSpit {p : Program} {e : Env} {s : State} {m : MethodId} {below : List Frame} {meth : Method} {c : Code} {Q : State → Prop} (l : Launch) (hlst : l.stackTraces = false) (g : Gt) {b L t : Nat} {xs : Nat → Int32} {S : Nat → Kp → Prop} (hsim : SimOp S (fun κ => f_L_moveSpit κ (xs (3 * t + 1)) (xs (3 * t + 2))) (fun κ => f_X5_moveSpit κ (xs (3 * t + 1)) (xs (3 * t + 2)))) (hM0 : Mc g p s m ([.ref b] : List Value).toArray meth c cL_law 9 RL) (hX : va_X b L xs s s.heap) (hbl : b < s.heap.size) (hbA : ¬ fr g s.heap.size b) (hL : 3 * t + 3 ≤ L) (hL2 : L ≤ 1536) {cells slots : Nat} (hcl : cells + 30 ≤ 655566) (hsl : slots + 200 ≤ 7129405) (κ : Kp) (hS : S t κ) (d0 : Drawn) (hd0 : s.drawn.sameBut d0 lw_cs) (H : Heap) (locs : List Loc) (ls : Array Slot) (hl : lv_has ls 9 (lwL g b t)) (hw : Ws g s κ H locs) (hx : ∀ (κ2 : Kp) (d1 : Drawn) (H : Heap) (locs : List Loc) (ls : Array Slot), S (t + 1) κ2 → s.drawn.sameBut d1 lw_cs → lv_has ls 9 (lwL g b t) → Ws g s κ2 H locs → W p l e room_1 (s.setDrawn d1) m ([.ref b] : List Value).toArray below meth c H locs (cells + 30) (slots + 200) Q (F0 m 2211 ls [])) : W p l e room_1 (s.setDrawn d0) m ([.ref b] : List Value).toArray below meth c H locs cells slots Q (F0 m 392 ls []) := by
  have hM := hM0.drawn d0
  have hw : Ws g (s.setDrawn d0) κ H locs := hw
  refine lv_aload_n hM.x hM.b dL_law_392 rfl (lv_at hl 3 rfl) ?_
  refine lv_aload_n hM.x hM.b dL_law_393 rfl (lv_at hl 4 rfl) ?_
  refine lv_iload hM.x hM.b dL_law_394 (lv_at hl 0 rfl) ?_
  refine lv_iconst (v := 1) hM.x hM.b dL_law_396 (by decide) ?_
  refine k_iaddN (a := 3 * t) (b := 1) hM dL_law_397 ?_
  refine k_sld (i := (3 * t + 1)) hM hX hbl hbA hw (by omega) hL2 dL_law_398 ?_
  refine lv_aload_n hM.x hM.b dL_law_399 rfl (lv_at hl 4 rfl) ?_
  refine lv_iload hM.x hM.b dL_law_400 (lv_at hl 0 rfl) ?_
  refine lv_iconst (v := 2) hM.x hM.b dL_law_402 (by decide) ?_
  refine k_iaddN (a := 3 * t) (b := 2) hM dL_law_403 ?_
  refine k_sld (i := (3 * t + 2)) hM hX hbl hbA hw (by omega) hL2 dL_law_404 ?_
  refine lv_aload_n hM.x hM.b dL_law_405 rfl (lv_at hl 1 rfl) ?_
  refine k_ci hw (k_runSW [.ref (g.2.2 (0)), .int (xs ((3 * t + 1))), .int (xs ((3 * t + 2))), .ref (g.2.2 (98))] [] hM hw (m_L_moveSpit l g κ _ (xs ((3 * t + 1))) (xs ((3 * t + 2))) hlst) (k_gSW u_ml_L_135 u_st_L_moveSpit u_ini_L u_co_L_moveSpit) (q_L_moveSpit) rfl rfl rfl ⟨Nat.le_of_ble_eq_true rfl, Nat.le_of_ble_eq_true rfl⟩ hl.1 rfl (Nat.le_of_ble_eq_true rfl) dL_law_406 ⟨(show _ ≤ 655566 by omega), (show _ ≤ 7129405 by omega)⟩) (fun r1 κ1 H locs hpκ1 hw => ?_)
  refine lv_istore (lv' := [(5, .int (r1)), (4, .int (nI (3 * t))), (3, .ref (g.2.2 (98))), (2, .ref (g.2.2 (91))), (1, .ref (g.2.2 (0))), (0, .ref b)]) hM.x hM.b dL_law_409 hl (by decide) rfl (fun ls hl => ?_)
  refine lv_aload_n hM.x hM.b dL_law_411 rfl (lv_at hl 3 rfl) ?_
  refine lv_aload_n hM.x hM.b dL_law_412 rfl (lv_at hl 5 rfl) ?_
  refine lv_iload hM.x hM.b dL_law_413 (lv_at hl 1 rfl) ?_
  refine lv_iconst (v := 1) hM.x hM.b dL_law_415 (by decide) ?_
  refine k_iaddN (a := 3 * t) (b := 1) hM dL_law_416 ?_
  refine k_sld (i := (3 * t + 1)) hM hX hbl hbA hw (by omega) hL2 dL_law_417 ?_
  refine lv_aload_n hM.x hM.b dL_law_418 rfl (lv_at hl 5 rfl) ?_
  refine lv_iload hM.x hM.b dL_law_419 (lv_at hl 1 rfl) ?_
  refine lv_iconst (v := 2) hM.x hM.b dL_law_421 (by decide) ?_
  refine k_iaddN (a := 3 * t) (b := 2) hM dL_law_422 ?_
  refine k_sld (i := (3 * t + 2)) hM hX hbl hbA hw (by omega) hL2 dL_law_423 ?_
  refine k_ci hw (k_runV [.int (xs ((3 * t + 1))), .int (xs ((3 * t + 2)))] [] hM hw (m_X5_moveSpit l g κ1 _ (xs ((3 * t + 1))) (xs ((3 * t + 2))) (hsim _ _ (by omega) hS _ _ hpκ1).1) (kd_lt kd_91 (by decide)) (sh5 kd_91) rfl (k_gV u_ml_L_137 u_im_X5_moveSpit u_se_X5_moveSpit u_ini_X5 u_co_X5_moveSpit) (q_X5_moveSpit) rfl rfl rfl ⟨Nat.le_of_ble_eq_true rfl, Nat.le_of_ble_eq_true rfl⟩ hl.1 rfl (Nat.le_of_ble_eq_true rfl) dL_law_424 ⟨(show _ ≤ 655566 by omega), (show _ ≤ 7129405 by omega)⟩) (fun r2 κ2 H locs hpκ2 hw => ?_)
  refine lv_istore (lv' := [(6, .int (r2)), (5, .int (r1)), (4, .int (nI (3 * t))), (3, .ref (g.2.2 (98))), (2, .ref (g.2.2 (91))), (1, .ref (g.2.2 (0))), (0, .ref b)]) hM.x hM.b dL_law_427 hl (by decide) rfl (fun ls hl => ?_)
  refine lv_aload_n hM.x hM.b dL_law_429 rfl (lv_at hl 4 rfl) ?_
  refine k_cip hw (k_runV [] [] hM hw (m_X5_thrown l g κ2 _) (kd_lt kd_91 (by decide)) (sh5 kd_91) rfl (k_gV u_ml_L_125 u_im_X5_thrown u_se_X5_thrown u_ini_X5 u_co_X5_thrown) (q_X5_thrown) rfl rfl rfl ⟨Nat.le_of_ble_eq_true rfl, Nat.le_of_ble_eq_true rfl⟩ hl.1 rfl (Nat.le_of_ble_eq_true rfl) dL_law_430 ⟨(show _ ≤ 655566 by omega), (show _ ≤ 7129405 by omega)⟩) (fun H locs hw => ?_)
  refine lv_iload hM.x hM.b dL_law_433 (lv_at hl 1 rfl) ?_
  refine lv_icmp_eq (tgt := 440) hM.x hM.b dL_law_435 (by decide) (fun _ => ?_) (fun cz => absurd ((hsim _ _ (by omega) hS _ _ hpκ1).2 _ _ hpκ2).1 cz)
  refine lv_iload hM.x hM.b dL_law_440 (lv_at hl 1 rfl) ?_
  refine lv_if_ne (tgt := 457) hM.x hM.b dL_law_442 (by decide) (fun c1 => ?_) (fun c1 => ?_)
  · skip
    refine lv_goto (tgt := 2211) hM.x hM.b dL_law_457 (by decide) ?_
    refine W.widen (k := cells + 30) (n := slots + 200) (by omega) (by omega) ?_
    exact hx κ2 d0 H locs ls ((hsim _ _ (by omega) hS _ _ hpκ1).2 _ _ hpκ2).2.2 hd0 (lv_sub hl [2, 3, 4, 5, 6] rfl) hw
  · skip
    refine lv_aload_n hM.x hM.b dL_law_445 rfl (lv_at hl 3 rfl) ?_
    refine lv_iconst (v := 0) hM.x hM.b dL_law_446 (by decide) ?_
    refine k_lald hM hw dL_law_447 ?_
    refine lv_iload hM.x hM.b dL_law_448 (lv_at hl 0 rfl) ?_
    refine lv_i2l (v := (r2).toInt64) hM.x hM.b dL_law_450 rfl ?_
    refine W.lcmp hM.x hM.b dL_law_451 ?_
    refine lv_if_eq (tgt := 457) hM.x hM.b dL_law_452 (by decide) (fun _ => ?_) (fun cz => absurd (lgc32 (((hsim _ _ (by omega) hS _ _ hpκ1).2 _ _ hpκ2).2.1 c1)) cz)
    refine lv_goto (tgt := 2211) hM.x hM.b dL_law_457 (by decide) ?_
    refine W.widen (k := cells + 30) (n := slots + 200) (by omega) (by omega) ?_
    exact hx κ2 d0 H locs ls ((hsim _ _ (by omega) hS _ _ hpκ1).2 _ _ hpκ2).2.2 hd0 (lv_sub hl [2, 3, 4, 5, 6] rfl) hw
set_option maxRecDepth 100000 in
set_option maxHeartbeats 4000000 in
theorem lc_turnEach {p : Program} {e : Env} {s : State} {m : MethodId} {below : List Frame} {meth : Method} {c : Code} {Q : State → Prop} (l : Launch) (hlst : l.stackTraces = false) (g : Gt) {b L t : Nat} {xs : Nat → Int32} {S : Nat → Kp → Prop} (hsim : SimOp S (fun κ => f_L_turnEach κ (xs (3 * t + 1)) (xs (3 * t + 2))) (fun κ => f_X5_turnEach κ (xs (3 * t + 1)) (xs (3 * t + 2)))) (hM0 : Mc g p s m ([.ref b] : List Value).toArray meth c cL_law 9 RL) (hX : va_X b L xs s s.heap) (hbl : b < s.heap.size) (hbA : ¬ fr g s.heap.size b) (hL : 3 * t + 3 ≤ L) (hL2 : L ≤ 1536) {cells slots : Nat} (hcl : cells + 30 ≤ 655566) (hsl : slots + 200 ≤ 7129405) (κ : Kp) (hS : S t κ) (d0 : Drawn) (hd0 : s.drawn.sameBut d0 lw_cs) (H : Heap) (locs : List Loc) (ls : Array Slot) (hl : lv_has ls 9 (lwL g b t)) (hw : Ws g s κ H locs) (hx : ∀ (κ2 : Kp) (d1 : Drawn) (H : Heap) (locs : List Loc) (ls : Array Slot), S (t + 1) κ2 → s.drawn.sameBut d1 lw_cs → lv_has ls 9 (lwL g b t) → Ws g s κ2 H locs → W p l e room_1 (s.setDrawn d1) m ([.ref b] : List Value).toArray below meth c H locs (cells + 30) (slots + 200) Q (F0 m 2211 ls [])) : W p l e room_1 (s.setDrawn d0) m ([.ref b] : List Value).toArray below meth c H locs cells slots Q (F0 m 460 ls []) := by
  have hM := hM0.drawn d0
  have hw : Ws g (s.setDrawn d0) κ H locs := hw
  refine lv_aload_n hM.x hM.b dL_law_460 rfl (lv_at hl 3 rfl) ?_
  refine lv_aload_n hM.x hM.b dL_law_461 rfl (lv_at hl 4 rfl) ?_
  refine lv_iload hM.x hM.b dL_law_462 (lv_at hl 0 rfl) ?_
  refine lv_iconst (v := 1) hM.x hM.b dL_law_464 (by decide) ?_
  refine k_iaddN (a := 3 * t) (b := 1) hM dL_law_465 ?_
  refine k_sld (i := (3 * t + 1)) hM hX hbl hbA hw (by omega) hL2 dL_law_466 ?_
  refine lv_aload_n hM.x hM.b dL_law_467 rfl (lv_at hl 4 rfl) ?_
  refine lv_iload hM.x hM.b dL_law_468 (lv_at hl 0 rfl) ?_
  refine lv_iconst (v := 2) hM.x hM.b dL_law_470 (by decide) ?_
  refine k_iaddN (a := 3 * t) (b := 2) hM dL_law_471 ?_
  refine k_sld (i := (3 * t + 2)) hM hX hbl hbA hw (by omega) hL2 dL_law_472 ?_
  refine lv_aload_n hM.x hM.b dL_law_473 rfl (lv_at hl 1 rfl) ?_
  refine k_ci hw (k_runSW [.ref (g.2.2 (0)), .int (xs ((3 * t + 1))), .int (xs ((3 * t + 2))), .ref (g.2.2 (98))] [] hM hw (m_L_turnEach l g κ _ (xs ((3 * t + 1))) (xs ((3 * t + 2))) hlst) (k_gSW u_ml_L_138 u_st_L_turnEach u_ini_L u_co_L_turnEach) (q_L_turnEach) rfl rfl rfl ⟨Nat.le_of_ble_eq_true rfl, Nat.le_of_ble_eq_true rfl⟩ hl.1 rfl (Nat.le_of_ble_eq_true rfl) dL_law_474 ⟨(show _ ≤ 655566 by omega), (show _ ≤ 7129405 by omega)⟩) (fun r1 κ1 H locs hpκ1 hw => ?_)
  refine lv_istore (lv' := [(5, .int (r1)), (4, .int (nI (3 * t))), (3, .ref (g.2.2 (98))), (2, .ref (g.2.2 (91))), (1, .ref (g.2.2 (0))), (0, .ref b)]) hM.x hM.b dL_law_477 hl (by decide) rfl (fun ls hl => ?_)
  refine lv_aload_n hM.x hM.b dL_law_479 rfl (lv_at hl 3 rfl) ?_
  refine lv_aload_n hM.x hM.b dL_law_480 rfl (lv_at hl 5 rfl) ?_
  refine lv_iload hM.x hM.b dL_law_481 (lv_at hl 1 rfl) ?_
  refine lv_iconst (v := 1) hM.x hM.b dL_law_483 (by decide) ?_
  refine k_iaddN (a := 3 * t) (b := 1) hM dL_law_484 ?_
  refine k_sld (i := (3 * t + 1)) hM hX hbl hbA hw (by omega) hL2 dL_law_485 ?_
  refine lv_aload_n hM.x hM.b dL_law_486 rfl (lv_at hl 5 rfl) ?_
  refine lv_iload hM.x hM.b dL_law_487 (lv_at hl 1 rfl) ?_
  refine lv_iconst (v := 2) hM.x hM.b dL_law_489 (by decide) ?_
  refine k_iaddN (a := 3 * t) (b := 2) hM dL_law_490 ?_
  refine k_sld (i := (3 * t + 2)) hM hX hbl hbA hw (by omega) hL2 dL_law_491 ?_
  refine k_ci hw (k_runV [.int (xs ((3 * t + 1))), .int (xs ((3 * t + 2)))] [] hM hw (m_X5_turnEach l g κ1 _ (xs ((3 * t + 1))) (xs ((3 * t + 2))) (hsim _ _ (by omega) hS _ _ hpκ1).1) (kd_lt kd_91 (by decide)) (sh5 kd_91) rfl (k_gV u_ml_L_140 u_im_X5_turnEach u_se_X5_turnEach u_ini_X5 u_co_X5_turnEach) (q_X5_turnEach) rfl rfl rfl ⟨Nat.le_of_ble_eq_true rfl, Nat.le_of_ble_eq_true rfl⟩ hl.1 rfl (Nat.le_of_ble_eq_true rfl) dL_law_492 ⟨(show _ ≤ 655566 by omega), (show _ ≤ 7129405 by omega)⟩) (fun r2 κ2 H locs hpκ2 hw => ?_)
  refine lv_istore (lv' := [(6, .int (r2)), (5, .int (r1)), (4, .int (nI (3 * t))), (3, .ref (g.2.2 (98))), (2, .ref (g.2.2 (91))), (1, .ref (g.2.2 (0))), (0, .ref b)]) hM.x hM.b dL_law_495 hl (by decide) rfl (fun ls hl => ?_)
  refine lv_aload_n hM.x hM.b dL_law_497 rfl (lv_at hl 4 rfl) ?_
  refine k_cip hw (k_runV [] [] hM hw (m_X5_thrown l g κ2 _) (kd_lt kd_91 (by decide)) (sh5 kd_91) rfl (k_gV u_ml_L_125 u_im_X5_thrown u_se_X5_thrown u_ini_X5 u_co_X5_thrown) (q_X5_thrown) rfl rfl rfl ⟨Nat.le_of_ble_eq_true rfl, Nat.le_of_ble_eq_true rfl⟩ hl.1 rfl (Nat.le_of_ble_eq_true rfl) dL_law_498 ⟨(show _ ≤ 655566 by omega), (show _ ≤ 7129405 by omega)⟩) (fun H locs hw => ?_)
  refine lv_iload hM.x hM.b dL_law_501 (lv_at hl 1 rfl) ?_
  refine lv_icmp_eq (tgt := 508) hM.x hM.b dL_law_503 (by decide) (fun _ => ?_) (fun cz => absurd ((hsim _ _ (by omega) hS _ _ hpκ1).2 _ _ hpκ2).1 cz)
  refine lv_iload hM.x hM.b dL_law_508 (lv_at hl 1 rfl) ?_
  refine lv_if_ne (tgt := 525) hM.x hM.b dL_law_510 (by decide) (fun c1 => ?_) (fun c1 => ?_)
  · skip
    refine lv_goto (tgt := 2211) hM.x hM.b dL_law_525 (by decide) ?_
    refine W.widen (k := cells + 30) (n := slots + 200) (by omega) (by omega) ?_
    exact hx κ2 d0 H locs ls ((hsim _ _ (by omega) hS _ _ hpκ1).2 _ _ hpκ2).2.2 hd0 (lv_sub hl [2, 3, 4, 5, 6] rfl) hw
  · skip
    refine lv_aload_n hM.x hM.b dL_law_513 rfl (lv_at hl 3 rfl) ?_
    refine lv_iconst (v := 0) hM.x hM.b dL_law_514 (by decide) ?_
    refine k_lald hM hw dL_law_515 ?_
    refine lv_iload hM.x hM.b dL_law_516 (lv_at hl 0 rfl) ?_
    refine lv_i2l (v := (r2).toInt64) hM.x hM.b dL_law_518 rfl ?_
    refine W.lcmp hM.x hM.b dL_law_519 ?_
    refine lv_if_eq (tgt := 525) hM.x hM.b dL_law_520 (by decide) (fun _ => ?_) (fun cz => absurd (lgc32 (((hsim _ _ (by omega) hS _ _ hpκ1).2 _ _ hpκ2).2.1 c1)) cz)
    refine lv_goto (tgt := 2211) hM.x hM.b dL_law_525 (by decide) ?_
    refine W.widen (k := cells + 30) (n := slots + 200) (by omega) (by omega) ?_
    exact hx κ2 d0 H locs ls ((hsim _ _ (by omega) hS _ _ hpκ1).2 _ _ hpκ2).2.2 hd0 (lv_sub hl [2, 3, 4, 5, 6] rfl) hw
set_option maxRecDepth 100000 in
set_option maxHeartbeats 4000000 in
theorem lc_setFeast {p : Program} {e : Env} {s : State} {m : MethodId} {below : List Frame} {meth : Method} {c : Code} {Q : State → Prop} (l : Launch) (hlst : l.stackTraces = false) (g : Gt) {b L t : Nat} {xs : Nat → Int32} {S : Nat → Kp → Prop} (hsim : SimOp S (fun κ => f_L_setFeast κ (xs (3 * t + 1))) (fun κ => f_X5_setFeast κ (xs (3 * t + 1)))) (hM0 : Mc g p s m ([.ref b] : List Value).toArray meth c cL_law 9 RL) (hX : va_X b L xs s s.heap) (hbl : b < s.heap.size) (hbA : ¬ fr g s.heap.size b) (hL : 3 * t + 3 ≤ L) (hL2 : L ≤ 1536) {cells slots : Nat} (hcl : cells + 30 ≤ 655566) (hsl : slots + 200 ≤ 7129405) (κ : Kp) (hS : S t κ) (d0 : Drawn) (hd0 : s.drawn.sameBut d0 lw_cs) (H : Heap) (locs : List Loc) (ls : Array Slot) (hl : lv_has ls 9 (lwL g b t)) (hw : Ws g s κ H locs) (hx : ∀ (κ2 : Kp) (d1 : Drawn) (H : Heap) (locs : List Loc) (ls : Array Slot), S (t + 1) κ2 → s.drawn.sameBut d1 lw_cs → lv_has ls 9 (lwL g b t) → Ws g s κ2 H locs → W p l e room_1 (s.setDrawn d1) m ([.ref b] : List Value).toArray below meth c H locs (cells + 30) (slots + 200) Q (F0 m 2211 ls [])) : W p l e room_1 (s.setDrawn d0) m ([.ref b] : List Value).toArray below meth c H locs cells slots Q (F0 m 528 ls []) := by
  have hM := hM0.drawn d0
  have hw : Ws g (s.setDrawn d0) κ H locs := hw
  refine lv_aload_n hM.x hM.b dL_law_528 rfl (lv_at hl 3 rfl) ?_
  refine lv_aload_n hM.x hM.b dL_law_529 rfl (lv_at hl 4 rfl) ?_
  refine lv_iload hM.x hM.b dL_law_530 (lv_at hl 0 rfl) ?_
  refine lv_iconst (v := 1) hM.x hM.b dL_law_532 (by decide) ?_
  refine k_iaddN (a := 3 * t) (b := 1) hM dL_law_533 ?_
  refine k_sld (i := (3 * t + 1)) hM hX hbl hbA hw (by omega) hL2 dL_law_534 ?_
  refine lv_aload_n hM.x hM.b dL_law_535 rfl (lv_at hl 1 rfl) ?_
  refine k_ci hw (k_runSW [.ref (g.2.2 (0)), .int (xs ((3 * t + 1))), .ref (g.2.2 (98))] [] hM hw (m_L_setFeast l g κ _ (xs ((3 * t + 1))) hlst) (k_gSW u_ml_L_141 u_st_L_setFeast u_ini_L u_co_L_setFeast) (q_L_setFeast) rfl rfl rfl ⟨Nat.le_of_ble_eq_true rfl, Nat.le_of_ble_eq_true rfl⟩ hl.1 rfl (Nat.le_of_ble_eq_true rfl) dL_law_536 ⟨(show _ ≤ 655566 by omega), (show _ ≤ 7129405 by omega)⟩) (fun r1 κ1 H locs hpκ1 hw => ?_)
  refine lv_istore (lv' := [(5, .int (r1)), (4, .int (nI (3 * t))), (3, .ref (g.2.2 (98))), (2, .ref (g.2.2 (91))), (1, .ref (g.2.2 (0))), (0, .ref b)]) hM.x hM.b dL_law_539 hl (by decide) rfl (fun ls hl => ?_)
  refine lv_aload_n hM.x hM.b dL_law_541 rfl (lv_at hl 3 rfl) ?_
  refine lv_aload_n hM.x hM.b dL_law_542 rfl (lv_at hl 5 rfl) ?_
  refine lv_iload hM.x hM.b dL_law_543 (lv_at hl 1 rfl) ?_
  refine lv_iconst (v := 1) hM.x hM.b dL_law_545 (by decide) ?_
  refine k_iaddN (a := 3 * t) (b := 1) hM dL_law_546 ?_
  refine k_sld (i := (3 * t + 1)) hM hX hbl hbA hw (by omega) hL2 dL_law_547 ?_
  refine k_ci hw (k_runV [.int (xs ((3 * t + 1)))] [] hM hw (m_X5_setFeast l g κ1 _ (xs ((3 * t + 1))) (hsim _ _ (by omega) hS _ _ hpκ1).1) (kd_lt kd_91 (by decide)) (sh5 kd_91) rfl (k_gV u_ml_L_144 u_im_X5_setFeast u_se_X5_setFeast u_ini_X5 u_co_X5_setFeast) (q_X5_setFeast) rfl rfl rfl ⟨Nat.le_of_ble_eq_true rfl, Nat.le_of_ble_eq_true rfl⟩ hl.1 rfl (Nat.le_of_ble_eq_true rfl) dL_law_548 ⟨(show _ ≤ 655566 by omega), (show _ ≤ 7129405 by omega)⟩) (fun r2 κ2 H locs hpκ2 hw => ?_)
  refine lv_istore (lv' := [(6, .int (r2)), (5, .int (r1)), (4, .int (nI (3 * t))), (3, .ref (g.2.2 (98))), (2, .ref (g.2.2 (91))), (1, .ref (g.2.2 (0))), (0, .ref b)]) hM.x hM.b dL_law_551 hl (by decide) rfl (fun ls hl => ?_)
  refine lv_aload_n hM.x hM.b dL_law_553 rfl (lv_at hl 4 rfl) ?_
  refine k_cip hw (k_runV [] [] hM hw (m_X5_thrown l g κ2 _) (kd_lt kd_91 (by decide)) (sh5 kd_91) rfl (k_gV u_ml_L_125 u_im_X5_thrown u_se_X5_thrown u_ini_X5 u_co_X5_thrown) (q_X5_thrown) rfl rfl rfl ⟨Nat.le_of_ble_eq_true rfl, Nat.le_of_ble_eq_true rfl⟩ hl.1 rfl (Nat.le_of_ble_eq_true rfl) dL_law_554 ⟨(show _ ≤ 655566 by omega), (show _ ≤ 7129405 by omega)⟩) (fun H locs hw => ?_)
  refine lv_iload hM.x hM.b dL_law_557 (lv_at hl 1 rfl) ?_
  refine lv_icmp_eq (tgt := 564) hM.x hM.b dL_law_559 (by decide) (fun _ => ?_) (fun cz => absurd ((hsim _ _ (by omega) hS _ _ hpκ1).2 _ _ hpκ2).1 cz)
  refine lv_iload hM.x hM.b dL_law_564 (lv_at hl 1 rfl) ?_
  refine lv_if_ne (tgt := 581) hM.x hM.b dL_law_566 (by decide) (fun c1 => ?_) (fun c1 => ?_)
  · skip
    refine lv_goto (tgt := 2211) hM.x hM.b dL_law_581 (by decide) ?_
    refine W.widen (k := cells + 30) (n := slots + 200) (by omega) (by omega) ?_
    exact hx κ2 d0 H locs ls ((hsim _ _ (by omega) hS _ _ hpκ1).2 _ _ hpκ2).2.2 hd0 (lv_sub hl [2, 3, 4, 5, 6] rfl) hw
  · skip
    refine lv_aload_n hM.x hM.b dL_law_569 rfl (lv_at hl 3 rfl) ?_
    refine lv_iconst (v := 0) hM.x hM.b dL_law_570 (by decide) ?_
    refine k_lald hM hw dL_law_571 ?_
    refine lv_iload hM.x hM.b dL_law_572 (lv_at hl 0 rfl) ?_
    refine lv_i2l (v := (r2).toInt64) hM.x hM.b dL_law_574 rfl ?_
    refine W.lcmp hM.x hM.b dL_law_575 ?_
    refine lv_if_eq (tgt := 581) hM.x hM.b dL_law_576 (by decide) (fun _ => ?_) (fun cz => absurd (lgc32 (((hsim _ _ (by omega) hS _ _ hpκ1).2 _ _ hpκ2).2.1 c1)) cz)
    refine lv_goto (tgt := 2211) hM.x hM.b dL_law_581 (by decide) ?_
    refine W.widen (k := cells + 30) (n := slots + 200) (by omega) (by omega) ?_
    exact hx κ2 d0 H locs ls ((hsim _ _ (by omega) hS _ _ hpκ1).2 _ _ hpκ2).2.2 hd0 (lv_sub hl [2, 3, 4, 5, 6] rfl) hw
set_option maxRecDepth 100000 in
set_option maxHeartbeats 4000000 in
theorem lc_hang {p : Program} {e : Env} {s : State} {m : MethodId} {below : List Frame} {meth : Method} {c : Code} {Q : State → Prop} (l : Launch) (hlst : l.stackTraces = false) (g : Gt) {b L t : Nat} {xs : Nat → Int32} {S : Nat → Kp → Prop} (hsim : SimOp S (fun κ => f_L_hang κ (xs (3 * t + 1)) (xs (3 * t + 2))) (fun κ => f_X5_hang κ (xs (3 * t + 1)) (xs (3 * t + 2)))) (hM0 : Mc g p s m ([.ref b] : List Value).toArray meth c cL_law 9 RL) (hX : va_X b L xs s s.heap) (hbl : b < s.heap.size) (hbA : ¬ fr g s.heap.size b) (hL : 3 * t + 3 ≤ L) (hL2 : L ≤ 1536) {cells slots : Nat} (hcl : cells + 30 ≤ 655566) (hsl : slots + 200 ≤ 7129405) (κ : Kp) (hS : S t κ) (d0 : Drawn) (hd0 : s.drawn.sameBut d0 lw_cs) (H : Heap) (locs : List Loc) (ls : Array Slot) (hl : lv_has ls 9 (lwL g b t)) (hw : Ws g s κ H locs) (hx : ∀ (κ2 : Kp) (d1 : Drawn) (H : Heap) (locs : List Loc) (ls : Array Slot), S (t + 1) κ2 → s.drawn.sameBut d1 lw_cs → lv_has ls 9 (lwL g b t) → Ws g s κ2 H locs → W p l e room_1 (s.setDrawn d1) m ([.ref b] : List Value).toArray below meth c H locs (cells + 30) (slots + 200) Q (F0 m 2211 ls [])) : W p l e room_1 (s.setDrawn d0) m ([.ref b] : List Value).toArray below meth c H locs cells slots Q (F0 m 584 ls []) := by
  have hM := hM0.drawn d0
  have hw : Ws g (s.setDrawn d0) κ H locs := hw
  refine lv_aload_n hM.x hM.b dL_law_584 rfl (lv_at hl 3 rfl) ?_
  refine lv_aload_n hM.x hM.b dL_law_585 rfl (lv_at hl 4 rfl) ?_
  refine lv_iload hM.x hM.b dL_law_586 (lv_at hl 0 rfl) ?_
  refine lv_iconst (v := 1) hM.x hM.b dL_law_588 (by decide) ?_
  refine k_iaddN (a := 3 * t) (b := 1) hM dL_law_589 ?_
  refine k_sld (i := (3 * t + 1)) hM hX hbl hbA hw (by omega) hL2 dL_law_590 ?_
  refine lv_aload_n hM.x hM.b dL_law_591 rfl (lv_at hl 4 rfl) ?_
  refine lv_iload hM.x hM.b dL_law_592 (lv_at hl 0 rfl) ?_
  refine lv_iconst (v := 2) hM.x hM.b dL_law_594 (by decide) ?_
  refine k_iaddN (a := 3 * t) (b := 2) hM dL_law_595 ?_
  refine k_sld (i := (3 * t + 2)) hM hX hbl hbA hw (by omega) hL2 dL_law_596 ?_
  refine lv_aload_n hM.x hM.b dL_law_597 rfl (lv_at hl 1 rfl) ?_
  refine k_ci hw (k_runSW [.ref (g.2.2 (0)), .int (xs ((3 * t + 1))), .int (xs ((3 * t + 2))), .ref (g.2.2 (98))] [] hM hw (m_L_hang l g κ _ (xs ((3 * t + 1))) (xs ((3 * t + 2))) hlst) (k_gSW u_ml_L_145 u_st_L_hang u_ini_L u_co_L_hang) (q_L_hang) rfl rfl rfl ⟨Nat.le_of_ble_eq_true rfl, Nat.le_of_ble_eq_true rfl⟩ hl.1 rfl (Nat.le_of_ble_eq_true rfl) dL_law_598 ⟨(show _ ≤ 655566 by omega), (show _ ≤ 7129405 by omega)⟩) (fun r1 κ1 H locs hpκ1 hw => ?_)
  refine lv_istore (lv' := [(5, .int (r1)), (4, .int (nI (3 * t))), (3, .ref (g.2.2 (98))), (2, .ref (g.2.2 (91))), (1, .ref (g.2.2 (0))), (0, .ref b)]) hM.x hM.b dL_law_601 hl (by decide) rfl (fun ls hl => ?_)
  refine lv_aload_n hM.x hM.b dL_law_603 rfl (lv_at hl 3 rfl) ?_
  refine lv_aload_n hM.x hM.b dL_law_604 rfl (lv_at hl 5 rfl) ?_
  refine lv_iload hM.x hM.b dL_law_605 (lv_at hl 1 rfl) ?_
  refine lv_iconst (v := 1) hM.x hM.b dL_law_607 (by decide) ?_
  refine k_iaddN (a := 3 * t) (b := 1) hM dL_law_608 ?_
  refine k_sld (i := (3 * t + 1)) hM hX hbl hbA hw (by omega) hL2 dL_law_609 ?_
  refine lv_aload_n hM.x hM.b dL_law_610 rfl (lv_at hl 5 rfl) ?_
  refine lv_iload hM.x hM.b dL_law_611 (lv_at hl 1 rfl) ?_
  refine lv_iconst (v := 2) hM.x hM.b dL_law_613 (by decide) ?_
  refine k_iaddN (a := 3 * t) (b := 2) hM dL_law_614 ?_
  refine k_sld (i := (3 * t + 2)) hM hX hbl hbA hw (by omega) hL2 dL_law_615 ?_
  refine k_ci hw (k_runV [.int (xs ((3 * t + 1))), .int (xs ((3 * t + 2)))] [] hM hw (m_X5_hang l g κ1 _ (xs ((3 * t + 1))) (xs ((3 * t + 2))) (hsim _ _ (by omega) hS _ _ hpκ1).1) (kd_lt kd_91 (by decide)) (sh5 kd_91) rfl (k_gV u_ml_L_147 u_im_X5_hang u_se_X5_hang u_ini_X5 u_co_X5_hang) (q_X5_hang) rfl rfl rfl ⟨Nat.le_of_ble_eq_true rfl, Nat.le_of_ble_eq_true rfl⟩ hl.1 rfl (Nat.le_of_ble_eq_true rfl) dL_law_616 ⟨(show _ ≤ 655566 by omega), (show _ ≤ 7129405 by omega)⟩) (fun r2 κ2 H locs hpκ2 hw => ?_)
  refine lv_istore (lv' := [(6, .int (r2)), (5, .int (r1)), (4, .int (nI (3 * t))), (3, .ref (g.2.2 (98))), (2, .ref (g.2.2 (91))), (1, .ref (g.2.2 (0))), (0, .ref b)]) hM.x hM.b dL_law_619 hl (by decide) rfl (fun ls hl => ?_)
  refine lv_aload_n hM.x hM.b dL_law_621 rfl (lv_at hl 4 rfl) ?_
  refine k_cip hw (k_runV [] [] hM hw (m_X5_thrown l g κ2 _) (kd_lt kd_91 (by decide)) (sh5 kd_91) rfl (k_gV u_ml_L_125 u_im_X5_thrown u_se_X5_thrown u_ini_X5 u_co_X5_thrown) (q_X5_thrown) rfl rfl rfl ⟨Nat.le_of_ble_eq_true rfl, Nat.le_of_ble_eq_true rfl⟩ hl.1 rfl (Nat.le_of_ble_eq_true rfl) dL_law_622 ⟨(show _ ≤ 655566 by omega), (show _ ≤ 7129405 by omega)⟩) (fun H locs hw => ?_)
  refine lv_iload hM.x hM.b dL_law_625 (lv_at hl 1 rfl) ?_
  refine lv_icmp_eq (tgt := 632) hM.x hM.b dL_law_627 (by decide) (fun _ => ?_) (fun cz => absurd ((hsim _ _ (by omega) hS _ _ hpκ1).2 _ _ hpκ2).1 cz)
  refine lv_iload hM.x hM.b dL_law_632 (lv_at hl 1 rfl) ?_
  refine lv_if_ne (tgt := 649) hM.x hM.b dL_law_634 (by decide) (fun c1 => ?_) (fun c1 => ?_)
  · skip
    refine lv_goto (tgt := 2211) hM.x hM.b dL_law_649 (by decide) ?_
    refine W.widen (k := cells + 30) (n := slots + 200) (by omega) (by omega) ?_
    exact hx κ2 d0 H locs ls ((hsim _ _ (by omega) hS _ _ hpκ1).2 _ _ hpκ2).2.2 hd0 (lv_sub hl [2, 3, 4, 5, 6] rfl) hw
  · skip
    refine lv_aload_n hM.x hM.b dL_law_637 rfl (lv_at hl 3 rfl) ?_
    refine lv_iconst (v := 0) hM.x hM.b dL_law_638 (by decide) ?_
    refine k_lald hM hw dL_law_639 ?_
    refine lv_iload hM.x hM.b dL_law_640 (lv_at hl 0 rfl) ?_
    refine lv_i2l (v := (r2).toInt64) hM.x hM.b dL_law_642 rfl ?_
    refine W.lcmp hM.x hM.b dL_law_643 ?_
    refine lv_if_eq (tgt := 649) hM.x hM.b dL_law_644 (by decide) (fun _ => ?_) (fun cz => absurd (lgc32 (((hsim _ _ (by omega) hS _ _ hpκ1).2 _ _ hpκ2).2.1 c1)) cz)
    refine lv_goto (tgt := 2211) hM.x hM.b dL_law_649 (by decide) ?_
    refine W.widen (k := cells + 30) (n := slots + 200) (by omega) (by omega) ?_
    exact hx κ2 d0 H locs ls ((hsim _ _ (by omega) hS _ _ hpκ1).2 _ _ hpκ2).2.2 hd0 (lv_sub hl [2, 3, 4, 5, 6] rfl) hw
set_option maxRecDepth 100000 in
set_option maxHeartbeats 4000000 in
theorem lc_turnNow {p : Program} {e : Env} {s : State} {m : MethodId} {below : List Frame} {meth : Method} {c : Code} {Q : State → Prop} (l : Launch) (hlst : l.stackTraces = false) (g : Gt) {b L t : Nat} {xs : Nat → Int32} {S : Nat → Kp → Prop} (hsim : SimOp S (fun κ => f_L_turnNow κ (xs (3 * t + 1))) (fun κ => f_X5_turnNow κ (xs (3 * t + 1)))) (hM0 : Mc g p s m ([.ref b] : List Value).toArray meth c cL_law 9 RL) (hX : va_X b L xs s s.heap) (hbl : b < s.heap.size) (hbA : ¬ fr g s.heap.size b) (hL : 3 * t + 3 ≤ L) (hL2 : L ≤ 1536) {cells slots : Nat} (hcl : cells + 30 ≤ 655566) (hsl : slots + 200 ≤ 7129405) (κ : Kp) (hS : S t κ) (d0 : Drawn) (hd0 : s.drawn.sameBut d0 lw_cs) (H : Heap) (locs : List Loc) (ls : Array Slot) (hl : lv_has ls 9 (lwL g b t)) (hw : Ws g s κ H locs) (hx : ∀ (κ2 : Kp) (d1 : Drawn) (H : Heap) (locs : List Loc) (ls : Array Slot), S (t + 1) κ2 → s.drawn.sameBut d1 lw_cs → lv_has ls 9 (lwL g b t) → Ws g s κ2 H locs → W p l e room_1 (s.setDrawn d1) m ([.ref b] : List Value).toArray below meth c H locs (cells + 30) (slots + 200) Q (F0 m 2211 ls [])) : W p l e room_1 (s.setDrawn d0) m ([.ref b] : List Value).toArray below meth c H locs cells slots Q (F0 m 652 ls []) := by
  have hM := hM0.drawn d0
  have hw : Ws g (s.setDrawn d0) κ H locs := hw
  refine lv_aload_n hM.x hM.b dL_law_652 rfl (lv_at hl 3 rfl) ?_
  refine lv_aload_n hM.x hM.b dL_law_653 rfl (lv_at hl 4 rfl) ?_
  refine lv_iload hM.x hM.b dL_law_654 (lv_at hl 0 rfl) ?_
  refine lv_iconst (v := 1) hM.x hM.b dL_law_656 (by decide) ?_
  refine k_iaddN (a := 3 * t) (b := 1) hM dL_law_657 ?_
  refine k_sld (i := (3 * t + 1)) hM hX hbl hbA hw (by omega) hL2 dL_law_658 ?_
  refine lv_aload_n hM.x hM.b dL_law_659 rfl (lv_at hl 1 rfl) ?_
  refine k_ci hw (k_runSW [.ref (g.2.2 (0)), .int (xs ((3 * t + 1))), .ref (g.2.2 (98))] [] hM hw (m_L_turnNow l g κ _ (xs ((3 * t + 1))) hlst) (k_gSW u_ml_L_148 u_st_L_turnNow u_ini_L u_co_L_turnNow) (q_L_turnNow) rfl rfl rfl ⟨Nat.le_of_ble_eq_true rfl, Nat.le_of_ble_eq_true rfl⟩ hl.1 rfl (Nat.le_of_ble_eq_true rfl) dL_law_660 ⟨(show _ ≤ 655566 by omega), (show _ ≤ 7129405 by omega)⟩) (fun r1 κ1 H locs hpκ1 hw => ?_)
  refine lv_istore (lv' := [(5, .int (r1)), (4, .int (nI (3 * t))), (3, .ref (g.2.2 (98))), (2, .ref (g.2.2 (91))), (1, .ref (g.2.2 (0))), (0, .ref b)]) hM.x hM.b dL_law_663 hl (by decide) rfl (fun ls hl => ?_)
  refine lv_aload_n hM.x hM.b dL_law_665 rfl (lv_at hl 3 rfl) ?_
  refine lv_aload_n hM.x hM.b dL_law_666 rfl (lv_at hl 5 rfl) ?_
  refine lv_iload hM.x hM.b dL_law_667 (lv_at hl 1 rfl) ?_
  refine lv_iconst (v := 1) hM.x hM.b dL_law_669 (by decide) ?_
  refine k_iaddN (a := 3 * t) (b := 1) hM dL_law_670 ?_
  refine k_sld (i := (3 * t + 1)) hM hX hbl hbA hw (by omega) hL2 dL_law_671 ?_
  refine k_ci hw (k_runV [.int (xs ((3 * t + 1)))] [] hM hw (m_X5_turnNow l g κ1 _ (xs ((3 * t + 1))) (hsim _ _ (by omega) hS _ _ hpκ1).1) (kd_lt kd_91 (by decide)) (sh5 kd_91) rfl (k_gV u_ml_L_150 u_im_X5_turnNow u_se_X5_turnNow u_ini_X5 u_co_X5_turnNow) (q_X5_turnNow) rfl rfl rfl ⟨Nat.le_of_ble_eq_true rfl, Nat.le_of_ble_eq_true rfl⟩ hl.1 rfl (Nat.le_of_ble_eq_true rfl) dL_law_672 ⟨(show _ ≤ 655566 by omega), (show _ ≤ 7129405 by omega)⟩) (fun r2 κ2 H locs hpκ2 hw => ?_)
  refine lv_istore (lv' := [(6, .int (r2)), (5, .int (r1)), (4, .int (nI (3 * t))), (3, .ref (g.2.2 (98))), (2, .ref (g.2.2 (91))), (1, .ref (g.2.2 (0))), (0, .ref b)]) hM.x hM.b dL_law_675 hl (by decide) rfl (fun ls hl => ?_)
  refine lv_aload_n hM.x hM.b dL_law_677 rfl (lv_at hl 4 rfl) ?_
  refine k_cip hw (k_runV [] [] hM hw (m_X5_thrown l g κ2 _) (kd_lt kd_91 (by decide)) (sh5 kd_91) rfl (k_gV u_ml_L_125 u_im_X5_thrown u_se_X5_thrown u_ini_X5 u_co_X5_thrown) (q_X5_thrown) rfl rfl rfl ⟨Nat.le_of_ble_eq_true rfl, Nat.le_of_ble_eq_true rfl⟩ hl.1 rfl (Nat.le_of_ble_eq_true rfl) dL_law_678 ⟨(show _ ≤ 655566 by omega), (show _ ≤ 7129405 by omega)⟩) (fun H locs hw => ?_)
  refine lv_iload hM.x hM.b dL_law_681 (lv_at hl 1 rfl) ?_
  refine lv_icmp_eq (tgt := 688) hM.x hM.b dL_law_683 (by decide) (fun _ => ?_) (fun cz => absurd ((hsim _ _ (by omega) hS _ _ hpκ1).2 _ _ hpκ2).1 cz)
  refine lv_iload hM.x hM.b dL_law_688 (lv_at hl 1 rfl) ?_
  refine lv_if_ne (tgt := 705) hM.x hM.b dL_law_690 (by decide) (fun c1 => ?_) (fun c1 => ?_)
  · skip
    refine lv_goto (tgt := 2211) hM.x hM.b dL_law_705 (by decide) ?_
    refine W.widen (k := cells + 30) (n := slots + 200) (by omega) (by omega) ?_
    exact hx κ2 d0 H locs ls ((hsim _ _ (by omega) hS _ _ hpκ1).2 _ _ hpκ2).2.2 hd0 (lv_sub hl [2, 3, 4, 5, 6] rfl) hw
  · skip
    refine lv_aload_n hM.x hM.b dL_law_693 rfl (lv_at hl 3 rfl) ?_
    refine lv_iconst (v := 0) hM.x hM.b dL_law_694 (by decide) ?_
    refine k_lald hM hw dL_law_695 ?_
    refine lv_iload hM.x hM.b dL_law_696 (lv_at hl 0 rfl) ?_
    refine lv_i2l (v := (r2).toInt64) hM.x hM.b dL_law_698 rfl ?_
    refine W.lcmp hM.x hM.b dL_law_699 ?_
    refine lv_if_eq (tgt := 705) hM.x hM.b dL_law_700 (by decide) (fun _ => ?_) (fun cz => absurd (lgc32 (((hsim _ _ (by omega) hS _ _ hpκ1).2 _ _ hpκ2).2.1 c1)) cz)
    refine lv_goto (tgt := 2211) hM.x hM.b dL_law_705 (by decide) ?_
    refine W.widen (k := cells + 30) (n := slots + 200) (by omega) (by omega) ?_
    exact hx κ2 d0 H locs ls ((hsim _ _ (by omega) hS _ _ hpκ1).2 _ _ hpκ2).2.2 hd0 (lv_sub hl [2, 3, 4, 5, 6] rfl) hw
set_option maxRecDepth 100000 in
set_option maxHeartbeats 4000000 in
theorem lc_baste {p : Program} {e : Env} {s : State} {m : MethodId} {below : List Frame} {meth : Method} {c : Code} {Q : State → Prop} (l : Launch) (hlst : l.stackTraces = false) (g : Gt) {b L t : Nat} {xs : Nat → Int32} {S : Nat → Kp → Prop} (hsim : SimOp S (fun κ => f_L_baste κ (xs (3 * t + 1))) (fun κ => f_X5_baste κ (xs (3 * t + 1)))) (hM0 : Mc g p s m ([.ref b] : List Value).toArray meth c cL_law 9 RL) (hX : va_X b L xs s s.heap) (hbl : b < s.heap.size) (hbA : ¬ fr g s.heap.size b) (hL : 3 * t + 3 ≤ L) (hL2 : L ≤ 1536) {cells slots : Nat} (hcl : cells + 30 ≤ 655566) (hsl : slots + 200 ≤ 7129405) (κ : Kp) (hS : S t κ) (d0 : Drawn) (hd0 : s.drawn.sameBut d0 lw_cs) (H : Heap) (locs : List Loc) (ls : Array Slot) (hl : lv_has ls 9 (lwL g b t)) (hw : Ws g s κ H locs) (hx : ∀ (κ2 : Kp) (d1 : Drawn) (H : Heap) (locs : List Loc) (ls : Array Slot), S (t + 1) κ2 → s.drawn.sameBut d1 lw_cs → lv_has ls 9 (lwL g b t) → Ws g s κ2 H locs → W p l e room_1 (s.setDrawn d1) m ([.ref b] : List Value).toArray below meth c H locs (cells + 30) (slots + 200) Q (F0 m 2211 ls [])) : W p l e room_1 (s.setDrawn d0) m ([.ref b] : List Value).toArray below meth c H locs cells slots Q (F0 m 708 ls []) := by
  have hM := hM0.drawn d0
  have hw : Ws g (s.setDrawn d0) κ H locs := hw
  refine lv_aload_n hM.x hM.b dL_law_708 rfl (lv_at hl 3 rfl) ?_
  refine lv_aload_n hM.x hM.b dL_law_709 rfl (lv_at hl 4 rfl) ?_
  refine lv_iload hM.x hM.b dL_law_710 (lv_at hl 0 rfl) ?_
  refine lv_iconst (v := 1) hM.x hM.b dL_law_712 (by decide) ?_
  refine k_iaddN (a := 3 * t) (b := 1) hM dL_law_713 ?_
  refine k_sld (i := (3 * t + 1)) hM hX hbl hbA hw (by omega) hL2 dL_law_714 ?_
  refine lv_aload_n hM.x hM.b dL_law_715 rfl (lv_at hl 1 rfl) ?_
  refine k_ci hw (k_runSW [.ref (g.2.2 (0)), .int (xs ((3 * t + 1))), .ref (g.2.2 (98))] [] hM hw (m_L_baste l g κ _ (xs ((3 * t + 1))) hlst) (k_gSW u_ml_L_151 u_st_L_baste u_ini_L u_co_L_baste) (q_L_baste) rfl rfl rfl ⟨Nat.le_of_ble_eq_true rfl, Nat.le_of_ble_eq_true rfl⟩ hl.1 rfl (Nat.le_of_ble_eq_true rfl) dL_law_716 ⟨(show _ ≤ 655566 by omega), (show _ ≤ 7129405 by omega)⟩) (fun r1 κ1 H locs hpκ1 hw => ?_)
  refine lv_istore (lv' := [(5, .int (r1)), (4, .int (nI (3 * t))), (3, .ref (g.2.2 (98))), (2, .ref (g.2.2 (91))), (1, .ref (g.2.2 (0))), (0, .ref b)]) hM.x hM.b dL_law_719 hl (by decide) rfl (fun ls hl => ?_)
  refine lv_aload_n hM.x hM.b dL_law_721 rfl (lv_at hl 3 rfl) ?_
  refine lv_aload_n hM.x hM.b dL_law_722 rfl (lv_at hl 5 rfl) ?_
  refine lv_iload hM.x hM.b dL_law_723 (lv_at hl 1 rfl) ?_
  refine lv_iconst (v := 1) hM.x hM.b dL_law_725 (by decide) ?_
  refine k_iaddN (a := 3 * t) (b := 1) hM dL_law_726 ?_
  refine k_sld (i := (3 * t + 1)) hM hX hbl hbA hw (by omega) hL2 dL_law_727 ?_
  refine k_ci hw (k_runV [.int (xs ((3 * t + 1)))] [] hM hw (m_X5_baste l g κ1 _ (xs ((3 * t + 1))) (hsim _ _ (by omega) hS _ _ hpκ1).1) (kd_lt kd_91 (by decide)) (sh5 kd_91) rfl (k_gV u_ml_L_153 u_im_X5_baste u_se_X5_baste u_ini_X5 u_co_X5_baste) (q_X5_baste) rfl rfl rfl ⟨Nat.le_of_ble_eq_true rfl, Nat.le_of_ble_eq_true rfl⟩ hl.1 rfl (Nat.le_of_ble_eq_true rfl) dL_law_728 ⟨(show _ ≤ 655566 by omega), (show _ ≤ 7129405 by omega)⟩) (fun r2 κ2 H locs hpκ2 hw => ?_)
  refine lv_istore (lv' := [(6, .int (r2)), (5, .int (r1)), (4, .int (nI (3 * t))), (3, .ref (g.2.2 (98))), (2, .ref (g.2.2 (91))), (1, .ref (g.2.2 (0))), (0, .ref b)]) hM.x hM.b dL_law_731 hl (by decide) rfl (fun ls hl => ?_)
  refine lv_aload_n hM.x hM.b dL_law_733 rfl (lv_at hl 4 rfl) ?_
  refine k_cip hw (k_runV [] [] hM hw (m_X5_thrown l g κ2 _) (kd_lt kd_91 (by decide)) (sh5 kd_91) rfl (k_gV u_ml_L_125 u_im_X5_thrown u_se_X5_thrown u_ini_X5 u_co_X5_thrown) (q_X5_thrown) rfl rfl rfl ⟨Nat.le_of_ble_eq_true rfl, Nat.le_of_ble_eq_true rfl⟩ hl.1 rfl (Nat.le_of_ble_eq_true rfl) dL_law_734 ⟨(show _ ≤ 655566 by omega), (show _ ≤ 7129405 by omega)⟩) (fun H locs hw => ?_)
  refine lv_iload hM.x hM.b dL_law_737 (lv_at hl 1 rfl) ?_
  refine lv_icmp_eq (tgt := 744) hM.x hM.b dL_law_739 (by decide) (fun _ => ?_) (fun cz => absurd ((hsim _ _ (by omega) hS _ _ hpκ1).2 _ _ hpκ2).1 cz)
  refine lv_iload hM.x hM.b dL_law_744 (lv_at hl 1 rfl) ?_
  refine lv_if_ne (tgt := 761) hM.x hM.b dL_law_746 (by decide) (fun c1 => ?_) (fun c1 => ?_)
  · skip
    refine lv_goto (tgt := 2211) hM.x hM.b dL_law_761 (by decide) ?_
    refine W.widen (k := cells + 30) (n := slots + 200) (by omega) (by omega) ?_
    exact hx κ2 d0 H locs ls ((hsim _ _ (by omega) hS _ _ hpκ1).2 _ _ hpκ2).2.2 hd0 (lv_sub hl [2, 3, 4, 5, 6] rfl) hw
  · skip
    refine lv_aload_n hM.x hM.b dL_law_749 rfl (lv_at hl 3 rfl) ?_
    refine lv_iconst (v := 0) hM.x hM.b dL_law_750 (by decide) ?_
    refine k_lald hM hw dL_law_751 ?_
    refine lv_iload hM.x hM.b dL_law_752 (lv_at hl 0 rfl) ?_
    refine lv_i2l (v := (r2).toInt64) hM.x hM.b dL_law_754 rfl ?_
    refine W.lcmp hM.x hM.b dL_law_755 ?_
    refine lv_if_eq (tgt := 761) hM.x hM.b dL_law_756 (by decide) (fun _ => ?_) (fun cz => absurd (lgc32 (((hsim _ _ (by omega) hS _ _ hpκ1).2 _ _ hpκ2).2.1 c1)) cz)
    refine lv_goto (tgt := 2211) hM.x hM.b dL_law_761 (by decide) ?_
    refine W.widen (k := cells + 30) (n := slots + 200) (by omega) (by omega) ?_
    exact hx κ2 d0 H locs ls ((hsim _ _ (by omega) hS _ _ hpκ1).2 _ _ hpκ2).2.2 hd0 (lv_sub hl [2, 3, 4, 5, 6] rfl) hw
set_option maxRecDepth 100000 in
set_option maxHeartbeats 4000000 in
theorem lc_takeDown {p : Program} {e : Env} {s : State} {m : MethodId} {below : List Frame} {meth : Method} {c : Code} {Q : State → Prop} (l : Launch) (hlst : l.stackTraces = false) (g : Gt) {b L t : Nat} {xs : Nat → Int32} {S : Nat → Kp → Prop} (hsim : SimOp S (fun κ => f_L_takeDown κ (xs (3 * t + 1))) (fun κ => f_X5_takeDown κ (xs (3 * t + 1)))) (hM0 : Mc g p s m ([.ref b] : List Value).toArray meth c cL_law 9 RL) (hX : va_X b L xs s s.heap) (hbl : b < s.heap.size) (hbA : ¬ fr g s.heap.size b) (hL : 3 * t + 3 ≤ L) (hL2 : L ≤ 1536) {cells slots : Nat} (hcl : cells + 30 ≤ 655566) (hsl : slots + 200 ≤ 7129405) (κ : Kp) (hS : S t κ) (d0 : Drawn) (hd0 : s.drawn.sameBut d0 lw_cs) (H : Heap) (locs : List Loc) (ls : Array Slot) (hl : lv_has ls 9 (lwL g b t)) (hw : Ws g s κ H locs) (hx : ∀ (κ2 : Kp) (d1 : Drawn) (H : Heap) (locs : List Loc) (ls : Array Slot), S (t + 1) κ2 → s.drawn.sameBut d1 lw_cs → lv_has ls 9 (lwL g b t) → Ws g s κ2 H locs → W p l e room_1 (s.setDrawn d1) m ([.ref b] : List Value).toArray below meth c H locs (cells + 30) (slots + 200) Q (F0 m 2211 ls [])) : W p l e room_1 (s.setDrawn d0) m ([.ref b] : List Value).toArray below meth c H locs cells slots Q (F0 m 764 ls []) := by
  have hM := hM0.drawn d0
  have hw : Ws g (s.setDrawn d0) κ H locs := hw
  refine lv_aload_n hM.x hM.b dL_law_764 rfl (lv_at hl 3 rfl) ?_
  refine lv_aload_n hM.x hM.b dL_law_765 rfl (lv_at hl 4 rfl) ?_
  refine lv_iload hM.x hM.b dL_law_766 (lv_at hl 0 rfl) ?_
  refine lv_iconst (v := 1) hM.x hM.b dL_law_768 (by decide) ?_
  refine k_iaddN (a := 3 * t) (b := 1) hM dL_law_769 ?_
  refine k_sld (i := (3 * t + 1)) hM hX hbl hbA hw (by omega) hL2 dL_law_770 ?_
  refine lv_aload_n hM.x hM.b dL_law_771 rfl (lv_at hl 1 rfl) ?_
  refine k_ci hw (k_runSW [.ref (g.2.2 (0)), .int (xs ((3 * t + 1))), .ref (g.2.2 (98))] [] hM hw (m_L_takeDown l g κ _ (xs ((3 * t + 1))) hlst) (k_gSW u_ml_L_154 u_st_L_takeDown u_ini_L u_co_L_takeDown) (q_L_takeDown) rfl rfl rfl ⟨Nat.le_of_ble_eq_true rfl, Nat.le_of_ble_eq_true rfl⟩ hl.1 rfl (Nat.le_of_ble_eq_true rfl) dL_law_772 ⟨(show _ ≤ 655566 by omega), (show _ ≤ 7129405 by omega)⟩) (fun r1 κ1 H locs hpκ1 hw => ?_)
  refine lv_istore (lv' := [(5, .int (r1)), (4, .int (nI (3 * t))), (3, .ref (g.2.2 (98))), (2, .ref (g.2.2 (91))), (1, .ref (g.2.2 (0))), (0, .ref b)]) hM.x hM.b dL_law_775 hl (by decide) rfl (fun ls hl => ?_)
  refine lv_aload_n hM.x hM.b dL_law_777 rfl (lv_at hl 3 rfl) ?_
  refine lv_aload_n hM.x hM.b dL_law_778 rfl (lv_at hl 5 rfl) ?_
  refine lv_iload hM.x hM.b dL_law_779 (lv_at hl 1 rfl) ?_
  refine lv_iconst (v := 1) hM.x hM.b dL_law_781 (by decide) ?_
  refine k_iaddN (a := 3 * t) (b := 1) hM dL_law_782 ?_
  refine k_sld (i := (3 * t + 1)) hM hX hbl hbA hw (by omega) hL2 dL_law_783 ?_
  refine k_ci hw (k_runV [.int (xs ((3 * t + 1)))] [] hM hw (m_X5_takeDown l g κ1 _ (xs ((3 * t + 1))) (hsim _ _ (by omega) hS _ _ hpκ1).1) (kd_lt kd_91 (by decide)) (sh5 kd_91) rfl (k_gV u_ml_L_156 u_im_X5_takeDown u_se_X5_takeDown u_ini_X5 u_co_X5_takeDown) (q_X5_takeDown) rfl rfl rfl ⟨Nat.le_of_ble_eq_true rfl, Nat.le_of_ble_eq_true rfl⟩ hl.1 rfl (Nat.le_of_ble_eq_true rfl) dL_law_784 ⟨(show _ ≤ 655566 by omega), (show _ ≤ 7129405 by omega)⟩) (fun r2 κ2 H locs hpκ2 hw => ?_)
  refine lv_istore (lv' := [(6, .int (r2)), (5, .int (r1)), (4, .int (nI (3 * t))), (3, .ref (g.2.2 (98))), (2, .ref (g.2.2 (91))), (1, .ref (g.2.2 (0))), (0, .ref b)]) hM.x hM.b dL_law_787 hl (by decide) rfl (fun ls hl => ?_)
  refine lv_aload_n hM.x hM.b dL_law_789 rfl (lv_at hl 4 rfl) ?_
  refine k_cip hw (k_runV [] [] hM hw (m_X5_thrown l g κ2 _) (kd_lt kd_91 (by decide)) (sh5 kd_91) rfl (k_gV u_ml_L_125 u_im_X5_thrown u_se_X5_thrown u_ini_X5 u_co_X5_thrown) (q_X5_thrown) rfl rfl rfl ⟨Nat.le_of_ble_eq_true rfl, Nat.le_of_ble_eq_true rfl⟩ hl.1 rfl (Nat.le_of_ble_eq_true rfl) dL_law_790 ⟨(show _ ≤ 655566 by omega), (show _ ≤ 7129405 by omega)⟩) (fun H locs hw => ?_)
  refine lv_iload hM.x hM.b dL_law_793 (lv_at hl 1 rfl) ?_
  refine lv_icmp_eq (tgt := 800) hM.x hM.b dL_law_795 (by decide) (fun _ => ?_) (fun cz => absurd ((hsim _ _ (by omega) hS _ _ hpκ1).2 _ _ hpκ2).1 cz)
  refine lv_iload hM.x hM.b dL_law_800 (lv_at hl 1 rfl) ?_
  refine lv_if_ne (tgt := 817) hM.x hM.b dL_law_802 (by decide) (fun c1 => ?_) (fun c1 => ?_)
  · skip
    refine lv_goto (tgt := 2211) hM.x hM.b dL_law_817 (by decide) ?_
    refine W.widen (k := cells + 30) (n := slots + 200) (by omega) (by omega) ?_
    exact hx κ2 d0 H locs ls ((hsim _ _ (by omega) hS _ _ hpκ1).2 _ _ hpκ2).2.2 hd0 (lv_sub hl [2, 3, 4, 5, 6] rfl) hw
  · skip
    refine lv_aload_n hM.x hM.b dL_law_805 rfl (lv_at hl 3 rfl) ?_
    refine lv_iconst (v := 0) hM.x hM.b dL_law_806 (by decide) ?_
    refine k_lald hM hw dL_law_807 ?_
    refine lv_iload hM.x hM.b dL_law_808 (lv_at hl 0 rfl) ?_
    refine lv_i2l (v := (r2).toInt64) hM.x hM.b dL_law_810 rfl ?_
    refine W.lcmp hM.x hM.b dL_law_811 ?_
    refine lv_if_eq (tgt := 817) hM.x hM.b dL_law_812 (by decide) (fun _ => ?_) (fun cz => absurd (lgc32 (((hsim _ _ (by omega) hS _ _ hpκ1).2 _ _ hpκ2).2.1 c1)) cz)
    refine lv_goto (tgt := 2211) hM.x hM.b dL_law_817 (by decide) ?_
    refine W.widen (k := cells + 30) (n := slots + 200) (by omega) (by omega) ?_
    exact hx κ2 d0 H locs ls ((hsim _ _ (by omega) hS _ _ hpκ1).2 _ _ hpκ2).2.2 hd0 (lv_sub hl [2, 3, 4, 5, 6] rfl) hw
set_option maxRecDepth 100000 in
set_option maxHeartbeats 4000000 in
theorem lc_emptyPan {p : Program} {e : Env} {s : State} {m : MethodId} {below : List Frame} {meth : Method} {c : Code} {Q : State → Prop} (l : Launch) (hlst : l.stackTraces = false) (g : Gt) {b L t : Nat} {xs : Nat → Int32} {S : Nat → Kp → Prop} (hsim : SimOp S (fun κ => f_L_emptyPan κ (xs (3 * t + 1))) (fun κ => f_X5_emptyPan κ (xs (3 * t + 1)))) (hM0 : Mc g p s m ([.ref b] : List Value).toArray meth c cL_law 9 RL) (hX : va_X b L xs s s.heap) (hbl : b < s.heap.size) (hbA : ¬ fr g s.heap.size b) (hL : 3 * t + 3 ≤ L) (hL2 : L ≤ 1536) {cells slots : Nat} (hcl : cells + 30 ≤ 655566) (hsl : slots + 200 ≤ 7129405) (κ : Kp) (hS : S t κ) (d0 : Drawn) (hd0 : s.drawn.sameBut d0 lw_cs) (H : Heap) (locs : List Loc) (ls : Array Slot) (hl : lv_has ls 9 (lwL g b t)) (hw : Ws g s κ H locs) (hx : ∀ (κ2 : Kp) (d1 : Drawn) (H : Heap) (locs : List Loc) (ls : Array Slot), S (t + 1) κ2 → s.drawn.sameBut d1 lw_cs → lv_has ls 9 (lwL g b t) → Ws g s κ2 H locs → W p l e room_1 (s.setDrawn d1) m ([.ref b] : List Value).toArray below meth c H locs (cells + 30) (slots + 200) Q (F0 m 2211 ls [])) : W p l e room_1 (s.setDrawn d0) m ([.ref b] : List Value).toArray below meth c H locs cells slots Q (F0 m 820 ls []) := by
  have hM := hM0.drawn d0
  have hw : Ws g (s.setDrawn d0) κ H locs := hw
  refine lv_aload_n hM.x hM.b dL_law_820 rfl (lv_at hl 3 rfl) ?_
  refine lv_aload_n hM.x hM.b dL_law_821 rfl (lv_at hl 4 rfl) ?_
  refine lv_iload hM.x hM.b dL_law_822 (lv_at hl 0 rfl) ?_
  refine lv_iconst (v := 1) hM.x hM.b dL_law_824 (by decide) ?_
  refine k_iaddN (a := 3 * t) (b := 1) hM dL_law_825 ?_
  refine k_sld (i := (3 * t + 1)) hM hX hbl hbA hw (by omega) hL2 dL_law_826 ?_
  refine lv_aload_n hM.x hM.b dL_law_827 rfl (lv_at hl 1 rfl) ?_
  refine k_ci hw (k_runSW [.ref (g.2.2 (0)), .int (xs ((3 * t + 1))), .ref (g.2.2 (98))] [] hM hw (m_L_emptyPan l g κ _ (xs ((3 * t + 1))) hlst) (k_gSW u_ml_L_157 u_st_L_emptyPan u_ini_L u_co_L_emptyPan) (q_L_emptyPan) rfl rfl rfl ⟨Nat.le_of_ble_eq_true rfl, Nat.le_of_ble_eq_true rfl⟩ hl.1 rfl (Nat.le_of_ble_eq_true rfl) dL_law_828 ⟨(show _ ≤ 655566 by omega), (show _ ≤ 7129405 by omega)⟩) (fun r1 κ1 H locs hpκ1 hw => ?_)
  refine lv_istore (lv' := [(5, .int (r1)), (4, .int (nI (3 * t))), (3, .ref (g.2.2 (98))), (2, .ref (g.2.2 (91))), (1, .ref (g.2.2 (0))), (0, .ref b)]) hM.x hM.b dL_law_831 hl (by decide) rfl (fun ls hl => ?_)
  refine lv_aload_n hM.x hM.b dL_law_833 rfl (lv_at hl 3 rfl) ?_
  refine lv_aload_n hM.x hM.b dL_law_834 rfl (lv_at hl 5 rfl) ?_
  refine lv_iload hM.x hM.b dL_law_835 (lv_at hl 1 rfl) ?_
  refine lv_iconst (v := 1) hM.x hM.b dL_law_837 (by decide) ?_
  refine k_iaddN (a := 3 * t) (b := 1) hM dL_law_838 ?_
  refine k_sld (i := (3 * t + 1)) hM hX hbl hbA hw (by omega) hL2 dL_law_839 ?_
  refine k_ci hw (k_runV [.int (xs ((3 * t + 1)))] [] hM hw (m_X5_emptyPan l g κ1 _ (xs ((3 * t + 1))) (hsim _ _ (by omega) hS _ _ hpκ1).1) (kd_lt kd_91 (by decide)) (sh5 kd_91) rfl (k_gV u_ml_L_159 u_im_X5_emptyPan u_se_X5_emptyPan u_ini_X5 u_co_X5_emptyPan) (q_X5_emptyPan) rfl rfl rfl ⟨Nat.le_of_ble_eq_true rfl, Nat.le_of_ble_eq_true rfl⟩ hl.1 rfl (Nat.le_of_ble_eq_true rfl) dL_law_840 ⟨(show _ ≤ 655566 by omega), (show _ ≤ 7129405 by omega)⟩) (fun r2 κ2 H locs hpκ2 hw => ?_)
  refine lv_istore (lv' := [(6, .int (r2)), (5, .int (r1)), (4, .int (nI (3 * t))), (3, .ref (g.2.2 (98))), (2, .ref (g.2.2 (91))), (1, .ref (g.2.2 (0))), (0, .ref b)]) hM.x hM.b dL_law_843 hl (by decide) rfl (fun ls hl => ?_)
  refine lv_aload_n hM.x hM.b dL_law_845 rfl (lv_at hl 4 rfl) ?_
  refine k_cip hw (k_runV [] [] hM hw (m_X5_thrown l g κ2 _) (kd_lt kd_91 (by decide)) (sh5 kd_91) rfl (k_gV u_ml_L_125 u_im_X5_thrown u_se_X5_thrown u_ini_X5 u_co_X5_thrown) (q_X5_thrown) rfl rfl rfl ⟨Nat.le_of_ble_eq_true rfl, Nat.le_of_ble_eq_true rfl⟩ hl.1 rfl (Nat.le_of_ble_eq_true rfl) dL_law_846 ⟨(show _ ≤ 655566 by omega), (show _ ≤ 7129405 by omega)⟩) (fun H locs hw => ?_)
  refine lv_iload hM.x hM.b dL_law_849 (lv_at hl 1 rfl) ?_
  refine lv_icmp_eq (tgt := 856) hM.x hM.b dL_law_851 (by decide) (fun _ => ?_) (fun cz => absurd ((hsim _ _ (by omega) hS _ _ hpκ1).2 _ _ hpκ2).1 cz)
  refine lv_iload hM.x hM.b dL_law_856 (lv_at hl 1 rfl) ?_
  refine lv_if_ne (tgt := 873) hM.x hM.b dL_law_858 (by decide) (fun c1 => ?_) (fun c1 => ?_)
  · skip
    refine lv_goto (tgt := 2211) hM.x hM.b dL_law_873 (by decide) ?_
    refine W.widen (k := cells + 30) (n := slots + 200) (by omega) (by omega) ?_
    exact hx κ2 d0 H locs ls ((hsim _ _ (by omega) hS _ _ hpκ1).2 _ _ hpκ2).2.2 hd0 (lv_sub hl [2, 3, 4, 5, 6] rfl) hw
  · skip
    refine lv_aload_n hM.x hM.b dL_law_861 rfl (lv_at hl 3 rfl) ?_
    refine lv_iconst (v := 0) hM.x hM.b dL_law_862 (by decide) ?_
    refine k_lald hM hw dL_law_863 ?_
    refine lv_iload hM.x hM.b dL_law_864 (lv_at hl 0 rfl) ?_
    refine lv_i2l (v := (r2).toInt64) hM.x hM.b dL_law_866 rfl ?_
    refine W.lcmp hM.x hM.b dL_law_867 ?_
    refine lv_if_eq (tgt := 873) hM.x hM.b dL_law_868 (by decide) (fun _ => ?_) (fun cz => absurd (lgc32 (((hsim _ _ (by omega) hS _ _ hpκ1).2 _ _ hpκ2).2.1 c1)) cz)
    refine lv_goto (tgt := 2211) hM.x hM.b dL_law_873 (by decide) ?_
    refine W.widen (k := cells + 30) (n := slots + 200) (by omega) (by omega) ?_
    exact hx κ2 d0 H locs ls ((hsim _ _ (by omega) hS _ _ hpκ1).2 _ _ hpκ2).2.2 hd0 (lv_sub hl [2, 3, 4, 5, 6] rfl) hw
set_option maxRecDepth 100000 in
set_option maxHeartbeats 4000000 in
theorem lc_pass {p : Program} {e : Env} {s : State} {m : MethodId} {below : List Frame} {meth : Method} {c : Code} {Q : State → Prop} (l : Launch) (hlst : l.stackTraces = false) (g : Gt) {b L t : Nat} {xs : Nat → Int32} {S : Nat → Kp → Prop} (hsim : SimOp S (fun κ => f_L_pass κ (xs (3 * t + 1))) (fun κ => f_X5_pass κ (xs (3 * t + 1)))) (hM0 : Mc g p s m ([.ref b] : List Value).toArray meth c cL_law 9 RL) (hX : va_X b L xs s s.heap) (hbl : b < s.heap.size) (hbA : ¬ fr g s.heap.size b) (hL : 3 * t + 3 ≤ L) (hL2 : L ≤ 1536) {cells slots : Nat} (hcl : cells + 30 ≤ 655566) (hsl : slots + 200 ≤ 7129405) (κ : Kp) (hS : S t κ) (d0 : Drawn) (hd0 : s.drawn.sameBut d0 lw_cs) (H : Heap) (locs : List Loc) (ls : Array Slot) (hl : lv_has ls 9 (lwL g b t)) (hw : Ws g s κ H locs) (hx : ∀ (κ2 : Kp) (d1 : Drawn) (H : Heap) (locs : List Loc) (ls : Array Slot), S (t + 1) κ2 → s.drawn.sameBut d1 lw_cs → lv_has ls 9 (lwL g b t) → Ws g s κ2 H locs → W p l e room_1 (s.setDrawn d1) m ([.ref b] : List Value).toArray below meth c H locs (cells + 30) (slots + 200) Q (F0 m 2211 ls [])) : W p l e room_1 (s.setDrawn d0) m ([.ref b] : List Value).toArray below meth c H locs cells slots Q (F0 m 876 ls []) := by
  have hM := hM0.drawn d0
  have hw : Ws g (s.setDrawn d0) κ H locs := hw
  refine lv_aload_n hM.x hM.b dL_law_876 rfl (lv_at hl 3 rfl) ?_
  refine lv_aload_n hM.x hM.b dL_law_877 rfl (lv_at hl 4 rfl) ?_
  refine lv_iload hM.x hM.b dL_law_878 (lv_at hl 0 rfl) ?_
  refine lv_iconst (v := 1) hM.x hM.b dL_law_880 (by decide) ?_
  refine k_iaddN (a := 3 * t) (b := 1) hM dL_law_881 ?_
  refine k_sld (i := (3 * t + 1)) hM hX hbl hbA hw (by omega) hL2 dL_law_882 ?_
  refine lv_aload_n hM.x hM.b dL_law_883 rfl (lv_at hl 1 rfl) ?_
  refine k_ci hw (k_runSW [.ref (g.2.2 (0)), .int (xs ((3 * t + 1))), .ref (g.2.2 (98))] [] hM hw (m_L_pass l g κ _ (xs ((3 * t + 1))) hlst) (k_gSW u_ml_L_160 u_st_L_pass u_ini_L u_co_L_pass) (q_L_pass) rfl rfl rfl ⟨Nat.le_of_ble_eq_true rfl, Nat.le_of_ble_eq_true rfl⟩ hl.1 rfl (Nat.le_of_ble_eq_true rfl) dL_law_884 ⟨(show _ ≤ 655566 by omega), (show _ ≤ 7129405 by omega)⟩) (fun r1 κ1 H locs hpκ1 hw => ?_)
  refine lv_istore (lv' := [(5, .int (r1)), (4, .int (nI (3 * t))), (3, .ref (g.2.2 (98))), (2, .ref (g.2.2 (91))), (1, .ref (g.2.2 (0))), (0, .ref b)]) hM.x hM.b dL_law_887 hl (by decide) rfl (fun ls hl => ?_)
  refine lv_aload_n hM.x hM.b dL_law_889 rfl (lv_at hl 3 rfl) ?_
  refine lv_aload_n hM.x hM.b dL_law_890 rfl (lv_at hl 5 rfl) ?_
  refine lv_iload hM.x hM.b dL_law_891 (lv_at hl 1 rfl) ?_
  refine lv_iconst (v := 1) hM.x hM.b dL_law_893 (by decide) ?_
  refine k_iaddN (a := 3 * t) (b := 1) hM dL_law_894 ?_
  refine k_sld (i := (3 * t + 1)) hM hX hbl hbA hw (by omega) hL2 dL_law_895 ?_
  refine k_ci hw (k_runV [.int (xs ((3 * t + 1)))] [] hM hw (m_X5_pass l g κ1 _ (xs ((3 * t + 1))) (hsim _ _ (by omega) hS _ _ hpκ1).1) (kd_lt kd_91 (by decide)) (sh5 kd_91) rfl (k_gV u_ml_L_162 u_im_X5_pass u_se_X5_pass u_ini_X5 u_co_X5_pass) (q_X5_pass) rfl rfl rfl ⟨Nat.le_of_ble_eq_true rfl, Nat.le_of_ble_eq_true rfl⟩ hl.1 rfl (Nat.le_of_ble_eq_true rfl) dL_law_896 ⟨(show _ ≤ 655566 by omega), (show _ ≤ 7129405 by omega)⟩) (fun r2 κ2 H locs hpκ2 hw => ?_)
  refine lv_istore (lv' := [(6, .int (r2)), (5, .int (r1)), (4, .int (nI (3 * t))), (3, .ref (g.2.2 (98))), (2, .ref (g.2.2 (91))), (1, .ref (g.2.2 (0))), (0, .ref b)]) hM.x hM.b dL_law_899 hl (by decide) rfl (fun ls hl => ?_)
  refine lv_aload_n hM.x hM.b dL_law_901 rfl (lv_at hl 4 rfl) ?_
  refine k_cip hw (k_runV [] [] hM hw (m_X5_thrown l g κ2 _) (kd_lt kd_91 (by decide)) (sh5 kd_91) rfl (k_gV u_ml_L_125 u_im_X5_thrown u_se_X5_thrown u_ini_X5 u_co_X5_thrown) (q_X5_thrown) rfl rfl rfl ⟨Nat.le_of_ble_eq_true rfl, Nat.le_of_ble_eq_true rfl⟩ hl.1 rfl (Nat.le_of_ble_eq_true rfl) dL_law_902 ⟨(show _ ≤ 655566 by omega), (show _ ≤ 7129405 by omega)⟩) (fun H locs hw => ?_)
  refine lv_iload hM.x hM.b dL_law_905 (lv_at hl 1 rfl) ?_
  refine lv_icmp_eq (tgt := 912) hM.x hM.b dL_law_907 (by decide) (fun _ => ?_) (fun cz => absurd ((hsim _ _ (by omega) hS _ _ hpκ1).2 _ _ hpκ2).1 cz)
  refine lv_iload hM.x hM.b dL_law_912 (lv_at hl 1 rfl) ?_
  refine lv_if_ne (tgt := 929) hM.x hM.b dL_law_914 (by decide) (fun c1 => ?_) (fun c1 => ?_)
  · skip
    refine lv_goto (tgt := 2211) hM.x hM.b dL_law_929 (by decide) ?_
    refine W.widen (k := cells + 30) (n := slots + 200) (by omega) (by omega) ?_
    exact hx κ2 d0 H locs ls ((hsim _ _ (by omega) hS _ _ hpκ1).2 _ _ hpκ2).2.2 hd0 (lv_sub hl [2, 3, 4, 5, 6] rfl) hw
  · skip
    refine lv_aload_n hM.x hM.b dL_law_917 rfl (lv_at hl 3 rfl) ?_
    refine lv_iconst (v := 0) hM.x hM.b dL_law_918 (by decide) ?_
    refine k_lald hM hw dL_law_919 ?_
    refine lv_iload hM.x hM.b dL_law_920 (lv_at hl 0 rfl) ?_
    refine lv_i2l (v := (r2).toInt64) hM.x hM.b dL_law_922 rfl ?_
    refine W.lcmp hM.x hM.b dL_law_923 ?_
    refine lv_if_eq (tgt := 929) hM.x hM.b dL_law_924 (by decide) (fun _ => ?_) (fun cz => absurd (lgc32 (((hsim _ _ (by omega) hS _ _ hpκ1).2 _ _ hpκ2).2.1 c1)) cz)
    refine lv_goto (tgt := 2211) hM.x hM.b dL_law_929 (by decide) ?_
    refine W.widen (k := cells + 30) (n := slots + 200) (by omega) (by omega) ?_
    exact hx κ2 d0 H locs ls ((hsim _ _ (by omega) hS _ _ hpκ1).2 _ _ hpκ2).2.2 hd0 (lv_sub hl [2, 3, 4, 5, 6] rfl) hw
set_option maxRecDepth 100000 in
set_option maxHeartbeats 4000000 in
theorem lc_minute {p : Program} {e : Env} {s : State} {m : MethodId} {below : List Frame} {meth : Method} {c : Code} {Q : State → Prop} (l : Launch) (hlst : l.stackTraces = false) (g : Gt) {b L t : Nat} {xs : Nat → Int32} {S : Nat → Kp → Prop} (hsim : SimRd S (fun κ => f_X4_minute κ ) (fun κ => f_X5_minute κ )) (hM0 : Mc g p s m ([.ref b] : List Value).toArray meth c cL_law 9 RL) (hX : va_X b L xs s s.heap) (hbl : b < s.heap.size) (hbA : ¬ fr g s.heap.size b) (hL : 3 * t + 3 ≤ L) (hL2 : L ≤ 1536) {cells slots : Nat} (hcl : cells + 30 ≤ 655566) (hsl : slots + 200 ≤ 7129405) (κ : Kp) (hS : S t κ) (d0 : Drawn) (hd0 : s.drawn.sameBut d0 lw_cs) (H : Heap) (locs : List Loc) (ls : Array Slot) (hl : lv_has ls 9 (lwL g b t)) (hw : Ws g s κ H locs) (hx : ∀ (κ2 : Kp) (d1 : Drawn) (H : Heap) (locs : List Loc) (ls : Array Slot), S (t + 1) κ2 → s.drawn.sameBut d1 lw_cs → lv_has ls 9 (lwL g b t) → Ws g s κ2 H locs → W p l e room_1 (s.setDrawn d1) m ([.ref b] : List Value).toArray below meth c H locs (cells + 30) (slots + 200) Q (F0 m 2211 ls [])) : W p l e room_1 (s.setDrawn d0) m ([.ref b] : List Value).toArray below meth c H locs cells slots Q (F0 m 932 ls []) := by
  have hM := hM0.drawn d0
  have hw : Ws g (s.setDrawn d0) κ H locs := hw
  refine lv_aload_n hM.x hM.b dL_law_932 rfl (lv_at hl 3 rfl) ?_
  refine k_cip hw (k_runV [] [] hM hw (m_X4_minute l g κ _) (kd_lt kd_0 (by decide)) (sh4 kd_0) rfl (k_gV u_ml_L_163 u_im_X4_minute u_se_X4_minute u_ini_X4 u_co_X4_minute) (q_X4_minute) rfl rfl rfl ⟨Nat.le_of_ble_eq_true rfl, Nat.le_of_ble_eq_true rfl⟩ hl.1 rfl (Nat.le_of_ble_eq_true rfl) dL_law_933 ⟨(show _ ≤ 655566 by omega), (show _ ≤ 7129405 by omega)⟩) (fun H locs hw => ?_)
  refine lv_aload_n hM.x hM.b dL_law_936 rfl (lv_at hl 2 rfl) ?_
  refine k_ci hw (k_runV [] [.int (f_X4_minute κ)] hM hw (m_X5_minute l g κ _) (kd_lt kd_91 (by decide)) (sh5 kd_91) rfl (k_gV u_ml_L_166 u_im_X5_minute u_se_X5_minute u_ini_X5 u_co_X5_minute) (q_X5_minute) rfl rfl rfl ⟨Nat.le_of_ble_eq_true rfl, Nat.le_of_ble_eq_true rfl⟩ hl.1 rfl (Nat.le_of_ble_eq_true rfl) dL_law_937 ⟨(show _ ≤ 655566 by omega), (show _ ≤ 7129405 by omega)⟩) (fun r1 κ1 H locs hpκ1 hw => ?_)
  refine lv_icmp_eq (tgt := 2211) hM.x hM.b dL_law_940 (by decide) (fun _ => ?_) (fun cz => absurd ((hsim _ _ (by omega) hS).2 _ _ hpκ1).1 cz)
  refine W.widen (k := cells + 30) (n := slots + 200) (by omega) (by omega) ?_
  exact hx κ1 d0 H locs ls ((hsim _ _ (by omega) hS).2 _ _ hpκ1).2 hd0 (lv_sub hl [0, 1, 2, 3, 4] rfl) hw
set_option maxRecDepth 100000 in
set_option maxHeartbeats 4000000 in
theorem lc_feast {p : Program} {e : Env} {s : State} {m : MethodId} {below : List Frame} {meth : Method} {c : Code} {Q : State → Prop} (l : Launch) (hlst : l.stackTraces = false) (g : Gt) {b L t : Nat} {xs : Nat → Int32} {S : Nat → Kp → Prop} (hsim : SimRd S (fun κ => f_X4_feast κ ) (fun κ => f_X5_feast κ )) (hM0 : Mc g p s m ([.ref b] : List Value).toArray meth c cL_law 9 RL) (hX : va_X b L xs s s.heap) (hbl : b < s.heap.size) (hbA : ¬ fr g s.heap.size b) (hL : 3 * t + 3 ≤ L) (hL2 : L ≤ 1536) {cells slots : Nat} (hcl : cells + 30 ≤ 655566) (hsl : slots + 200 ≤ 7129405) (κ : Kp) (hS : S t κ) (d0 : Drawn) (hd0 : s.drawn.sameBut d0 lw_cs) (H : Heap) (locs : List Loc) (ls : Array Slot) (hl : lv_has ls 9 (lwL g b t)) (hw : Ws g s κ H locs) (hx : ∀ (κ2 : Kp) (d1 : Drawn) (H : Heap) (locs : List Loc) (ls : Array Slot), S (t + 1) κ2 → s.drawn.sameBut d1 lw_cs → lv_has ls 9 (lwL g b t) → Ws g s κ2 H locs → W p l e room_1 (s.setDrawn d1) m ([.ref b] : List Value).toArray below meth c H locs (cells + 30) (slots + 200) Q (F0 m 2211 ls [])) : W p l e room_1 (s.setDrawn d0) m ([.ref b] : List Value).toArray below meth c H locs cells slots Q (F0 m 945 ls []) := by
  have hM := hM0.drawn d0
  have hw : Ws g (s.setDrawn d0) κ H locs := hw
  refine lv_aload_n hM.x hM.b dL_law_945 rfl (lv_at hl 3 rfl) ?_
  refine k_cip hw (k_runV [] [] hM hw (m_X4_feast l g κ _) (kd_lt kd_0 (by decide)) (sh4 kd_0) rfl (k_gV u_ml_L_167 u_im_X4_feast u_se_X4_feast u_ini_X4 u_co_X4_feast) (q_X4_feast) rfl rfl rfl ⟨Nat.le_of_ble_eq_true rfl, Nat.le_of_ble_eq_true rfl⟩ hl.1 rfl (Nat.le_of_ble_eq_true rfl) dL_law_946 ⟨(show _ ≤ 655566 by omega), (show _ ≤ 7129405 by omega)⟩) (fun H locs hw => ?_)
  refine lv_aload_n hM.x hM.b dL_law_949 rfl (lv_at hl 2 rfl) ?_
  refine k_ci hw (k_runV [] [.int (f_X4_feast κ)] hM hw (m_X5_feast l g κ _) (kd_lt kd_91 (by decide)) (sh5 kd_91) rfl (k_gV u_ml_L_170 u_im_X5_feast u_se_X5_feast u_ini_X5 u_co_X5_feast) (q_X5_feast) rfl rfl rfl ⟨Nat.le_of_ble_eq_true rfl, Nat.le_of_ble_eq_true rfl⟩ hl.1 rfl (Nat.le_of_ble_eq_true rfl) dL_law_950 ⟨(show _ ≤ 655566 by omega), (show _ ≤ 7129405 by omega)⟩) (fun r1 κ1 H locs hpκ1 hw => ?_)
  refine lv_icmp_eq (tgt := 2211) hM.x hM.b dL_law_953 (by decide) (fun _ => ?_) (fun cz => absurd ((hsim _ _ (by omega) hS).2 _ _ hpκ1).1 cz)
  refine W.widen (k := cells + 30) (n := slots + 200) (by omega) (by omega) ?_
  exact hx κ1 d0 H locs ls ((hsim _ _ (by omega) hS).2 _ _ hpκ1).2 hd0 (lv_sub hl [0, 1, 2, 3, 4] rfl) hw
set_option maxRecDepth 100000 in
set_option maxHeartbeats 4000000 in
theorem lc_fires {p : Program} {e : Env} {s : State} {m : MethodId} {below : List Frame} {meth : Method} {c : Code} {Q : State → Prop} (l : Launch) (hlst : l.stackTraces = false) (g : Gt) {b L t : Nat} {xs : Nat → Int32} {S : Nat → Kp → Prop} (hsim : SimRd S (fun κ => f_X4_fires κ ) (fun κ => f_X5_fires κ )) (hM0 : Mc g p s m ([.ref b] : List Value).toArray meth c cL_law 9 RL) (hX : va_X b L xs s s.heap) (hbl : b < s.heap.size) (hbA : ¬ fr g s.heap.size b) (hL : 3 * t + 3 ≤ L) (hL2 : L ≤ 1536) {cells slots : Nat} (hcl : cells + 30 ≤ 655566) (hsl : slots + 200 ≤ 7129405) (κ : Kp) (hS : S t κ) (d0 : Drawn) (hd0 : s.drawn.sameBut d0 lw_cs) (H : Heap) (locs : List Loc) (ls : Array Slot) (hl : lv_has ls 9 (lwL g b t)) (hw : Ws g s κ H locs) (hx : ∀ (κ2 : Kp) (d1 : Drawn) (H : Heap) (locs : List Loc) (ls : Array Slot), S (t + 1) κ2 → s.drawn.sameBut d1 lw_cs → lv_has ls 9 (lwL g b t) → Ws g s κ2 H locs → W p l e room_1 (s.setDrawn d1) m ([.ref b] : List Value).toArray below meth c H locs (cells + 30) (slots + 200) Q (F0 m 2211 ls [])) : W p l e room_1 (s.setDrawn d0) m ([.ref b] : List Value).toArray below meth c H locs cells slots Q (F0 m 958 ls []) := by
  have hM := hM0.drawn d0
  have hw : Ws g (s.setDrawn d0) κ H locs := hw
  refine lv_aload_n hM.x hM.b dL_law_958 rfl (lv_at hl 3 rfl) ?_
  refine k_cip hw (k_runV [] [] hM hw (m_X4_fires l g κ _) (kd_lt kd_0 (by decide)) (sh4 kd_0) rfl (k_gV u_ml_L_171 u_im_X4_fires u_se_X4_fires u_ini_X4 u_co_X4_fires) (q_X4_fires) rfl rfl rfl ⟨Nat.le_of_ble_eq_true rfl, Nat.le_of_ble_eq_true rfl⟩ hl.1 rfl (Nat.le_of_ble_eq_true rfl) dL_law_959 ⟨(show _ ≤ 655566 by omega), (show _ ≤ 7129405 by omega)⟩) (fun H locs hw => ?_)
  refine lv_aload_n hM.x hM.b dL_law_962 rfl (lv_at hl 2 rfl) ?_
  refine k_ci hw (k_runV [] [.int (f_X4_fires κ)] hM hw (m_X5_fires l g κ _) (kd_lt kd_91 (by decide)) (sh5 kd_91) rfl (k_gV u_ml_L_174 u_im_X5_fires u_se_X5_fires u_ini_X5 u_co_X5_fires) (q_X5_fires) rfl rfl rfl ⟨Nat.le_of_ble_eq_true rfl, Nat.le_of_ble_eq_true rfl⟩ hl.1 rfl (Nat.le_of_ble_eq_true rfl) dL_law_963 ⟨(show _ ≤ 655566 by omega), (show _ ≤ 7129405 by omega)⟩) (fun r1 κ1 H locs hpκ1 hw => ?_)
  refine lv_icmp_eq (tgt := 2211) hM.x hM.b dL_law_966 (by decide) (fun _ => ?_) (fun cz => absurd ((hsim _ _ (by omega) hS).2 _ _ hpκ1).1 cz)
  refine W.widen (k := cells + 30) (n := slots + 200) (by omega) (by omega) ?_
  exact hx κ1 d0 H locs ls ((hsim _ _ (by omega) hS).2 _ _ hpκ1).2 hd0 (lv_sub hl [0, 1, 2, 3, 4] rfl) hw
set_option maxRecDepth 100000 in
set_option maxHeartbeats 4000000 in
theorem lc_logsOf {p : Program} {e : Env} {s : State} {m : MethodId} {below : List Frame} {meth : Method} {c : Code} {Q : State → Prop} (l : Launch) (hlst : l.stackTraces = false) (g : Gt) {b L t : Nat} {xs : Nat → Int32} {S : Nat → Kp → Prop} (hsim : SimOp S (fun κ => f_L_logsOf κ (xs (3 * t + 1))) (fun κ => f_X5_logsOf κ (xs (3 * t + 1)))) (hM0 : Mc g p s m ([.ref b] : List Value).toArray meth c cL_law 9 RL) (hX : va_X b L xs s s.heap) (hbl : b < s.heap.size) (hbA : ¬ fr g s.heap.size b) (hL : 3 * t + 3 ≤ L) (hL2 : L ≤ 1536) {cells slots : Nat} (hcl : cells + 30 ≤ 655566) (hsl : slots + 200 ≤ 7129405) (κ : Kp) (hS : S t κ) (d0 : Drawn) (hd0 : s.drawn.sameBut d0 lw_cs) (H : Heap) (locs : List Loc) (ls : Array Slot) (hl : lv_has ls 9 (lwL g b t)) (hw : Ws g s κ H locs) (hx : ∀ (κ2 : Kp) (d1 : Drawn) (H : Heap) (locs : List Loc) (ls : Array Slot), S (t + 1) κ2 → s.drawn.sameBut d1 lw_cs → lv_has ls 9 (lwL g b t) → Ws g s κ2 H locs → W p l e room_1 (s.setDrawn d1) m ([.ref b] : List Value).toArray below meth c H locs (cells + 30) (slots + 200) Q (F0 m 2211 ls [])) : W p l e room_1 (s.setDrawn d0) m ([.ref b] : List Value).toArray below meth c H locs cells slots Q (F0 m 971 ls []) := by
  have hM := hM0.drawn d0
  have hw : Ws g (s.setDrawn d0) κ H locs := hw
  refine lv_aload_n hM.x hM.b dL_law_971 rfl (lv_at hl 3 rfl) ?_
  refine lv_aload_n hM.x hM.b dL_law_972 rfl (lv_at hl 4 rfl) ?_
  refine lv_iload hM.x hM.b dL_law_973 (lv_at hl 0 rfl) ?_
  refine lv_iconst (v := 1) hM.x hM.b dL_law_975 (by decide) ?_
  refine k_iaddN (a := 3 * t) (b := 1) hM dL_law_976 ?_
  refine k_sld (i := (3 * t + 1)) hM hX hbl hbA hw (by omega) hL2 dL_law_977 ?_
  refine lv_aload_n hM.x hM.b dL_law_978 rfl (lv_at hl 1 rfl) ?_
  refine k_ci hw (k_runSW [.ref (g.2.2 (0)), .int (xs ((3 * t + 1))), .ref (g.2.2 (98))] [] hM hw (m_L_logsOf l g κ _ (xs ((3 * t + 1))) hlst) (k_gSW u_ml_L_175 u_st_L_logsOf u_ini_L u_co_L_logsOf) (q_L_logsOf) rfl rfl rfl ⟨Nat.le_of_ble_eq_true rfl, Nat.le_of_ble_eq_true rfl⟩ hl.1 rfl (Nat.le_of_ble_eq_true rfl) dL_law_979 ⟨(show _ ≤ 655566 by omega), (show _ ≤ 7129405 by omega)⟩) (fun r1 κ1 H locs hpκ1 hw => ?_)
  refine lv_istore (lv' := [(5, .int (r1)), (4, .int (nI (3 * t))), (3, .ref (g.2.2 (98))), (2, .ref (g.2.2 (91))), (1, .ref (g.2.2 (0))), (0, .ref b)]) hM.x hM.b dL_law_982 hl (by decide) rfl (fun ls hl => ?_)
  refine lv_aload_n hM.x hM.b dL_law_984 rfl (lv_at hl 3 rfl) ?_
  refine lv_aload_n hM.x hM.b dL_law_985 rfl (lv_at hl 5 rfl) ?_
  refine lv_iload hM.x hM.b dL_law_986 (lv_at hl 1 rfl) ?_
  refine lv_iconst (v := 1) hM.x hM.b dL_law_988 (by decide) ?_
  refine k_iaddN (a := 3 * t) (b := 1) hM dL_law_989 ?_
  refine k_sld (i := (3 * t + 1)) hM hX hbl hbA hw (by omega) hL2 dL_law_990 ?_
  refine k_ci hw (k_runV [.int (xs ((3 * t + 1)))] [] hM hw (m_X5_logsOf l g κ1 _ (xs ((3 * t + 1))) (hsim _ _ (by omega) hS _ _ hpκ1).1) (kd_lt kd_91 (by decide)) (sh5 kd_91) rfl (k_gV u_ml_L_177 u_im_X5_logsOf u_se_X5_logsOf u_ini_X5 u_co_X5_logsOf) (q_X5_logsOf) rfl rfl rfl ⟨Nat.le_of_ble_eq_true rfl, Nat.le_of_ble_eq_true rfl⟩ hl.1 rfl (Nat.le_of_ble_eq_true rfl) dL_law_991 ⟨(show _ ≤ 655566 by omega), (show _ ≤ 7129405 by omega)⟩) (fun r2 κ2 H locs hpκ2 hw => ?_)
  refine lv_istore (lv' := [(6, .int (r2)), (5, .int (r1)), (4, .int (nI (3 * t))), (3, .ref (g.2.2 (98))), (2, .ref (g.2.2 (91))), (1, .ref (g.2.2 (0))), (0, .ref b)]) hM.x hM.b dL_law_994 hl (by decide) rfl (fun ls hl => ?_)
  refine lv_aload_n hM.x hM.b dL_law_996 rfl (lv_at hl 4 rfl) ?_
  refine k_cip hw (k_runV [] [] hM hw (m_X5_thrown l g κ2 _) (kd_lt kd_91 (by decide)) (sh5 kd_91) rfl (k_gV u_ml_L_125 u_im_X5_thrown u_se_X5_thrown u_ini_X5 u_co_X5_thrown) (q_X5_thrown) rfl rfl rfl ⟨Nat.le_of_ble_eq_true rfl, Nat.le_of_ble_eq_true rfl⟩ hl.1 rfl (Nat.le_of_ble_eq_true rfl) dL_law_997 ⟨(show _ ≤ 655566 by omega), (show _ ≤ 7129405 by omega)⟩) (fun H locs hw => ?_)
  refine lv_iload hM.x hM.b dL_law_1000 (lv_at hl 1 rfl) ?_
  refine lv_icmp_eq (tgt := 1007) hM.x hM.b dL_law_1002 (by decide) (fun _ => ?_) (fun cz => absurd ((hsim _ _ (by omega) hS _ _ hpκ1).2 _ _ hpκ2).1 cz)
  refine lv_iload hM.x hM.b dL_law_1007 (lv_at hl 1 rfl) ?_
  refine lv_if_ne (tgt := 1024) hM.x hM.b dL_law_1009 (by decide) (fun c1 => ?_) (fun c1 => ?_)
  · skip
    refine lv_goto (tgt := 2211) hM.x hM.b dL_law_1024 (by decide) ?_
    refine W.widen (k := cells + 30) (n := slots + 200) (by omega) (by omega) ?_
    exact hx κ2 d0 H locs ls ((hsim _ _ (by omega) hS _ _ hpκ1).2 _ _ hpκ2).2.2 hd0 (lv_sub hl [2, 3, 4, 5, 6] rfl) hw
  · skip
    refine lv_aload_n hM.x hM.b dL_law_1012 rfl (lv_at hl 3 rfl) ?_
    refine lv_iconst (v := 0) hM.x hM.b dL_law_1013 (by decide) ?_
    refine k_lald hM hw dL_law_1014 ?_
    refine lv_iload hM.x hM.b dL_law_1015 (lv_at hl 0 rfl) ?_
    refine lv_i2l (v := (r2).toInt64) hM.x hM.b dL_law_1017 rfl ?_
    refine W.lcmp hM.x hM.b dL_law_1018 ?_
    refine lv_if_eq (tgt := 1024) hM.x hM.b dL_law_1019 (by decide) (fun _ => ?_) (fun cz => absurd (lgc32 (((hsim _ _ (by omega) hS _ _ hpκ1).2 _ _ hpκ2).2.1 c1)) cz)
    refine lv_goto (tgt := 2211) hM.x hM.b dL_law_1024 (by decide) ?_
    refine W.widen (k := cells + 30) (n := slots + 200) (by omega) (by omega) ?_
    exact hx κ2 d0 H locs ls ((hsim _ _ (by omega) hS _ _ hpκ1).2 _ _ hpκ2).2.2 hd0 (lv_sub hl [2, 3, 4, 5, 6] rfl) hw
set_option maxRecDepth 100000 in
set_option maxHeartbeats 4000000 in
theorem lc_heatOf {p : Program} {e : Env} {s : State} {m : MethodId} {below : List Frame} {meth : Method} {c : Code} {Q : State → Prop} (l : Launch) (hlst : l.stackTraces = false) (g : Gt) {b L t : Nat} {xs : Nat → Int32} {S : Nat → Kp → Prop} (hsim : SimOp S (fun κ => f_L_heatOf κ (xs (3 * t + 1))) (fun κ => f_X5_heatOf κ (xs (3 * t + 1)))) (hM0 : Mc g p s m ([.ref b] : List Value).toArray meth c cL_law 9 RL) (hX : va_X b L xs s s.heap) (hbl : b < s.heap.size) (hbA : ¬ fr g s.heap.size b) (hL : 3 * t + 3 ≤ L) (hL2 : L ≤ 1536) {cells slots : Nat} (hcl : cells + 30 ≤ 655566) (hsl : slots + 200 ≤ 7129405) (κ : Kp) (hS : S t κ) (d0 : Drawn) (hd0 : s.drawn.sameBut d0 lw_cs) (H : Heap) (locs : List Loc) (ls : Array Slot) (hl : lv_has ls 9 (lwL g b t)) (hw : Ws g s κ H locs) (hx : ∀ (κ2 : Kp) (d1 : Drawn) (H : Heap) (locs : List Loc) (ls : Array Slot), S (t + 1) κ2 → s.drawn.sameBut d1 lw_cs → lv_has ls 9 (lwL g b t) → Ws g s κ2 H locs → W p l e room_1 (s.setDrawn d1) m ([.ref b] : List Value).toArray below meth c H locs (cells + 30) (slots + 200) Q (F0 m 2211 ls [])) : W p l e room_1 (s.setDrawn d0) m ([.ref b] : List Value).toArray below meth c H locs cells slots Q (F0 m 1027 ls []) := by
  have hM := hM0.drawn d0
  have hw : Ws g (s.setDrawn d0) κ H locs := hw
  refine lv_aload_n hM.x hM.b dL_law_1027 rfl (lv_at hl 3 rfl) ?_
  refine lv_aload_n hM.x hM.b dL_law_1028 rfl (lv_at hl 4 rfl) ?_
  refine lv_iload hM.x hM.b dL_law_1029 (lv_at hl 0 rfl) ?_
  refine lv_iconst (v := 1) hM.x hM.b dL_law_1031 (by decide) ?_
  refine k_iaddN (a := 3 * t) (b := 1) hM dL_law_1032 ?_
  refine k_sld (i := (3 * t + 1)) hM hX hbl hbA hw (by omega) hL2 dL_law_1033 ?_
  refine lv_aload_n hM.x hM.b dL_law_1034 rfl (lv_at hl 1 rfl) ?_
  refine k_ci hw (k_runSW [.ref (g.2.2 (0)), .int (xs ((3 * t + 1))), .ref (g.2.2 (98))] [] hM hw (m_L_heatOf l g κ _ (xs ((3 * t + 1))) hlst) (k_gSW u_ml_L_178 u_st_L_heatOf u_ini_L u_co_L_heatOf) (q_L_heatOf) rfl rfl rfl ⟨Nat.le_of_ble_eq_true rfl, Nat.le_of_ble_eq_true rfl⟩ hl.1 rfl (Nat.le_of_ble_eq_true rfl) dL_law_1035 ⟨(show _ ≤ 655566 by omega), (show _ ≤ 7129405 by omega)⟩) (fun r1 κ1 H locs hpκ1 hw => ?_)
  refine lv_istore (lv' := [(5, .int (r1)), (4, .int (nI (3 * t))), (3, .ref (g.2.2 (98))), (2, .ref (g.2.2 (91))), (1, .ref (g.2.2 (0))), (0, .ref b)]) hM.x hM.b dL_law_1038 hl (by decide) rfl (fun ls hl => ?_)
  refine lv_aload_n hM.x hM.b dL_law_1040 rfl (lv_at hl 3 rfl) ?_
  refine lv_aload_n hM.x hM.b dL_law_1041 rfl (lv_at hl 5 rfl) ?_
  refine lv_iload hM.x hM.b dL_law_1042 (lv_at hl 1 rfl) ?_
  refine lv_iconst (v := 1) hM.x hM.b dL_law_1044 (by decide) ?_
  refine k_iaddN (a := 3 * t) (b := 1) hM dL_law_1045 ?_
  refine k_sld (i := (3 * t + 1)) hM hX hbl hbA hw (by omega) hL2 dL_law_1046 ?_
  refine k_ci hw (k_runV [.int (xs ((3 * t + 1)))] [] hM hw (m_X5_heatOf l g κ1 _ (xs ((3 * t + 1))) (hsim _ _ (by omega) hS _ _ hpκ1).1) (kd_lt kd_91 (by decide)) (sh5 kd_91) rfl (k_gV u_ml_L_180 u_im_X5_heatOf u_se_X5_heatOf u_ini_X5 u_co_X5_heatOf) (q_X5_heatOf) rfl rfl rfl ⟨Nat.le_of_ble_eq_true rfl, Nat.le_of_ble_eq_true rfl⟩ hl.1 rfl (Nat.le_of_ble_eq_true rfl) dL_law_1047 ⟨(show _ ≤ 655566 by omega), (show _ ≤ 7129405 by omega)⟩) (fun r2 κ2 H locs hpκ2 hw => ?_)
  refine lv_istore (lv' := [(6, .int (r2)), (5, .int (r1)), (4, .int (nI (3 * t))), (3, .ref (g.2.2 (98))), (2, .ref (g.2.2 (91))), (1, .ref (g.2.2 (0))), (0, .ref b)]) hM.x hM.b dL_law_1050 hl (by decide) rfl (fun ls hl => ?_)
  refine lv_aload_n hM.x hM.b dL_law_1052 rfl (lv_at hl 4 rfl) ?_
  refine k_cip hw (k_runV [] [] hM hw (m_X5_thrown l g κ2 _) (kd_lt kd_91 (by decide)) (sh5 kd_91) rfl (k_gV u_ml_L_125 u_im_X5_thrown u_se_X5_thrown u_ini_X5 u_co_X5_thrown) (q_X5_thrown) rfl rfl rfl ⟨Nat.le_of_ble_eq_true rfl, Nat.le_of_ble_eq_true rfl⟩ hl.1 rfl (Nat.le_of_ble_eq_true rfl) dL_law_1053 ⟨(show _ ≤ 655566 by omega), (show _ ≤ 7129405 by omega)⟩) (fun H locs hw => ?_)
  refine lv_iload hM.x hM.b dL_law_1056 (lv_at hl 1 rfl) ?_
  refine lv_icmp_eq (tgt := 1063) hM.x hM.b dL_law_1058 (by decide) (fun _ => ?_) (fun cz => absurd ((hsim _ _ (by omega) hS _ _ hpκ1).2 _ _ hpκ2).1 cz)
  refine lv_iload hM.x hM.b dL_law_1063 (lv_at hl 1 rfl) ?_
  refine lv_if_ne (tgt := 1080) hM.x hM.b dL_law_1065 (by decide) (fun c1 => ?_) (fun c1 => ?_)
  · skip
    refine lv_goto (tgt := 2211) hM.x hM.b dL_law_1080 (by decide) ?_
    refine W.widen (k := cells + 30) (n := slots + 200) (by omega) (by omega) ?_
    exact hx κ2 d0 H locs ls ((hsim _ _ (by omega) hS _ _ hpκ1).2 _ _ hpκ2).2.2 hd0 (lv_sub hl [2, 3, 4, 5, 6] rfl) hw
  · skip
    refine lv_aload_n hM.x hM.b dL_law_1068 rfl (lv_at hl 3 rfl) ?_
    refine lv_iconst (v := 0) hM.x hM.b dL_law_1069 (by decide) ?_
    refine k_lald hM hw dL_law_1070 ?_
    refine lv_iload hM.x hM.b dL_law_1071 (lv_at hl 0 rfl) ?_
    refine lv_i2l (v := (r2).toInt64) hM.x hM.b dL_law_1073 rfl ?_
    refine W.lcmp hM.x hM.b dL_law_1074 ?_
    refine lv_if_eq (tgt := 1080) hM.x hM.b dL_law_1075 (by decide) (fun _ => ?_) (fun cz => absurd (lgc32 (((hsim _ _ (by omega) hS _ _ hpκ1).2 _ _ hpκ2).2.1 c1)) cz)
    refine lv_goto (tgt := 2211) hM.x hM.b dL_law_1080 (by decide) ?_
    refine W.widen (k := cells + 30) (n := slots + 200) (by omega) (by omega) ?_
    exact hx κ2 d0 H locs ls ((hsim _ _ (by omega) hS _ _ hpκ1).2 _ _ hpκ2).2.2 hd0 (lv_sub hl [2, 3, 4, 5, 6] rfl) hw
set_option maxRecDepth 100000 in
set_option maxHeartbeats 4000000 in
theorem lc_spits {p : Program} {e : Env} {s : State} {m : MethodId} {below : List Frame} {meth : Method} {c : Code} {Q : State → Prop} (l : Launch) (hlst : l.stackTraces = false) (g : Gt) {b L t : Nat} {xs : Nat → Int32} {S : Nat → Kp → Prop} (hsim : SimRd S (fun κ => f_X4_spits κ ) (fun κ => f_X5_spits κ )) (hM0 : Mc g p s m ([.ref b] : List Value).toArray meth c cL_law 9 RL) (hX : va_X b L xs s s.heap) (hbl : b < s.heap.size) (hbA : ¬ fr g s.heap.size b) (hL : 3 * t + 3 ≤ L) (hL2 : L ≤ 1536) {cells slots : Nat} (hcl : cells + 30 ≤ 655566) (hsl : slots + 200 ≤ 7129405) (κ : Kp) (hS : S t κ) (d0 : Drawn) (hd0 : s.drawn.sameBut d0 lw_cs) (H : Heap) (locs : List Loc) (ls : Array Slot) (hl : lv_has ls 9 (lwL g b t)) (hw : Ws g s κ H locs) (hx : ∀ (κ2 : Kp) (d1 : Drawn) (H : Heap) (locs : List Loc) (ls : Array Slot), S (t + 1) κ2 → s.drawn.sameBut d1 lw_cs → lv_has ls 9 (lwL g b t) → Ws g s κ2 H locs → W p l e room_1 (s.setDrawn d1) m ([.ref b] : List Value).toArray below meth c H locs (cells + 30) (slots + 200) Q (F0 m 2211 ls [])) : W p l e room_1 (s.setDrawn d0) m ([.ref b] : List Value).toArray below meth c H locs cells slots Q (F0 m 1083 ls []) := by
  have hM := hM0.drawn d0
  have hw : Ws g (s.setDrawn d0) κ H locs := hw
  refine lv_aload_n hM.x hM.b dL_law_1083 rfl (lv_at hl 3 rfl) ?_
  refine k_cip hw (k_runV [] [] hM hw (m_X4_spits l g κ _) (kd_lt kd_0 (by decide)) (sh4 kd_0) rfl (k_gV u_ml_L_181 u_im_X4_spits u_se_X4_spits u_ini_X4 u_co_X4_spits) (q_X4_spits) rfl rfl rfl ⟨Nat.le_of_ble_eq_true rfl, Nat.le_of_ble_eq_true rfl⟩ hl.1 rfl (Nat.le_of_ble_eq_true rfl) dL_law_1084 ⟨(show _ ≤ 655566 by omega), (show _ ≤ 7129405 by omega)⟩) (fun H locs hw => ?_)
  refine lv_aload_n hM.x hM.b dL_law_1087 rfl (lv_at hl 2 rfl) ?_
  refine k_ci hw (k_runV [] [.int (f_X4_spits κ)] hM hw (m_X5_spits l g κ _) (kd_lt kd_91 (by decide)) (sh5 kd_91) rfl (k_gV u_ml_L_184 u_im_X5_spits u_se_X5_spits u_ini_X5 u_co_X5_spits) (q_X5_spits) rfl rfl rfl ⟨Nat.le_of_ble_eq_true rfl, Nat.le_of_ble_eq_true rfl⟩ hl.1 rfl (Nat.le_of_ble_eq_true rfl) dL_law_1088 ⟨(show _ ≤ 655566 by omega), (show _ ≤ 7129405 by omega)⟩) (fun r1 κ1 H locs hpκ1 hw => ?_)
  refine lv_icmp_eq (tgt := 2211) hM.x hM.b dL_law_1091 (by decide) (fun _ => ?_) (fun cz => absurd ((hsim _ _ (by omega) hS).2 _ _ hpκ1).1 cz)
  refine W.widen (k := cells + 30) (n := slots + 200) (by omega) (by omega) ?_
  exact hx κ1 d0 H locs ls ((hsim _ _ (by omega) hS).2 _ _ hpκ1).2 hd0 (lv_sub hl [0, 1, 2, 3, 4] rfl) hw
set_option maxRecDepth 100000 in
set_option maxHeartbeats 4000000 in
theorem lc_fireOf {p : Program} {e : Env} {s : State} {m : MethodId} {below : List Frame} {meth : Method} {c : Code} {Q : State → Prop} (l : Launch) (hlst : l.stackTraces = false) (g : Gt) {b L t : Nat} {xs : Nat → Int32} {S : Nat → Kp → Prop} (hsim : SimOp S (fun κ => f_L_fireOf κ (xs (3 * t + 1))) (fun κ => f_X5_fireOf κ (xs (3 * t + 1)))) (hM0 : Mc g p s m ([.ref b] : List Value).toArray meth c cL_law 9 RL) (hX : va_X b L xs s s.heap) (hbl : b < s.heap.size) (hbA : ¬ fr g s.heap.size b) (hL : 3 * t + 3 ≤ L) (hL2 : L ≤ 1536) {cells slots : Nat} (hcl : cells + 30 ≤ 655566) (hsl : slots + 200 ≤ 7129405) (κ : Kp) (hS : S t κ) (d0 : Drawn) (hd0 : s.drawn.sameBut d0 lw_cs) (H : Heap) (locs : List Loc) (ls : Array Slot) (hl : lv_has ls 9 (lwL g b t)) (hw : Ws g s κ H locs) (hx : ∀ (κ2 : Kp) (d1 : Drawn) (H : Heap) (locs : List Loc) (ls : Array Slot), S (t + 1) κ2 → s.drawn.sameBut d1 lw_cs → lv_has ls 9 (lwL g b t) → Ws g s κ2 H locs → W p l e room_1 (s.setDrawn d1) m ([.ref b] : List Value).toArray below meth c H locs (cells + 30) (slots + 200) Q (F0 m 2211 ls [])) : W p l e room_1 (s.setDrawn d0) m ([.ref b] : List Value).toArray below meth c H locs cells slots Q (F0 m 1096 ls []) := by
  have hM := hM0.drawn d0
  have hw : Ws g (s.setDrawn d0) κ H locs := hw
  refine lv_aload_n hM.x hM.b dL_law_1096 rfl (lv_at hl 3 rfl) ?_
  refine lv_aload_n hM.x hM.b dL_law_1097 rfl (lv_at hl 4 rfl) ?_
  refine lv_iload hM.x hM.b dL_law_1098 (lv_at hl 0 rfl) ?_
  refine lv_iconst (v := 1) hM.x hM.b dL_law_1100 (by decide) ?_
  refine k_iaddN (a := 3 * t) (b := 1) hM dL_law_1101 ?_
  refine k_sld (i := (3 * t + 1)) hM hX hbl hbA hw (by omega) hL2 dL_law_1102 ?_
  refine lv_aload_n hM.x hM.b dL_law_1103 rfl (lv_at hl 1 rfl) ?_
  refine k_ci hw (k_runSW [.ref (g.2.2 (0)), .int (xs ((3 * t + 1))), .ref (g.2.2 (98))] [] hM hw (m_L_fireOf l g κ _ (xs ((3 * t + 1))) hlst) (k_gSW u_ml_L_185 u_st_L_fireOf u_ini_L u_co_L_fireOf) (q_L_fireOf) rfl rfl rfl ⟨Nat.le_of_ble_eq_true rfl, Nat.le_of_ble_eq_true rfl⟩ hl.1 rfl (Nat.le_of_ble_eq_true rfl) dL_law_1104 ⟨(show _ ≤ 655566 by omega), (show _ ≤ 7129405 by omega)⟩) (fun r1 κ1 H locs hpκ1 hw => ?_)
  refine lv_istore (lv' := [(5, .int (r1)), (4, .int (nI (3 * t))), (3, .ref (g.2.2 (98))), (2, .ref (g.2.2 (91))), (1, .ref (g.2.2 (0))), (0, .ref b)]) hM.x hM.b dL_law_1107 hl (by decide) rfl (fun ls hl => ?_)
  refine lv_aload_n hM.x hM.b dL_law_1109 rfl (lv_at hl 3 rfl) ?_
  refine lv_aload_n hM.x hM.b dL_law_1110 rfl (lv_at hl 5 rfl) ?_
  refine lv_iload hM.x hM.b dL_law_1111 (lv_at hl 1 rfl) ?_
  refine lv_iconst (v := 1) hM.x hM.b dL_law_1113 (by decide) ?_
  refine k_iaddN (a := 3 * t) (b := 1) hM dL_law_1114 ?_
  refine k_sld (i := (3 * t + 1)) hM hX hbl hbA hw (by omega) hL2 dL_law_1115 ?_
  refine k_ci hw (k_runV [.int (xs ((3 * t + 1)))] [] hM hw (m_X5_fireOf l g κ1 _ (xs ((3 * t + 1))) (hsim _ _ (by omega) hS _ _ hpκ1).1) (kd_lt kd_91 (by decide)) (sh5 kd_91) rfl (k_gV u_ml_L_187 u_im_X5_fireOf u_se_X5_fireOf u_ini_X5 u_co_X5_fireOf) (q_X5_fireOf) rfl rfl rfl ⟨Nat.le_of_ble_eq_true rfl, Nat.le_of_ble_eq_true rfl⟩ hl.1 rfl (Nat.le_of_ble_eq_true rfl) dL_law_1116 ⟨(show _ ≤ 655566 by omega), (show _ ≤ 7129405 by omega)⟩) (fun r2 κ2 H locs hpκ2 hw => ?_)
  refine lv_istore (lv' := [(6, .int (r2)), (5, .int (r1)), (4, .int (nI (3 * t))), (3, .ref (g.2.2 (98))), (2, .ref (g.2.2 (91))), (1, .ref (g.2.2 (0))), (0, .ref b)]) hM.x hM.b dL_law_1119 hl (by decide) rfl (fun ls hl => ?_)
  refine lv_aload_n hM.x hM.b dL_law_1121 rfl (lv_at hl 4 rfl) ?_
  refine k_cip hw (k_runV [] [] hM hw (m_X5_thrown l g κ2 _) (kd_lt kd_91 (by decide)) (sh5 kd_91) rfl (k_gV u_ml_L_125 u_im_X5_thrown u_se_X5_thrown u_ini_X5 u_co_X5_thrown) (q_X5_thrown) rfl rfl rfl ⟨Nat.le_of_ble_eq_true rfl, Nat.le_of_ble_eq_true rfl⟩ hl.1 rfl (Nat.le_of_ble_eq_true rfl) dL_law_1122 ⟨(show _ ≤ 655566 by omega), (show _ ≤ 7129405 by omega)⟩) (fun H locs hw => ?_)
  refine lv_iload hM.x hM.b dL_law_1125 (lv_at hl 1 rfl) ?_
  refine lv_icmp_eq (tgt := 1132) hM.x hM.b dL_law_1127 (by decide) (fun _ => ?_) (fun cz => absurd ((hsim _ _ (by omega) hS _ _ hpκ1).2 _ _ hpκ2).1 cz)
  refine lv_iload hM.x hM.b dL_law_1132 (lv_at hl 1 rfl) ?_
  refine lv_if_ne (tgt := 1149) hM.x hM.b dL_law_1134 (by decide) (fun c1 => ?_) (fun c1 => ?_)
  · skip
    refine lv_goto (tgt := 2211) hM.x hM.b dL_law_1149 (by decide) ?_
    refine W.widen (k := cells + 30) (n := slots + 200) (by omega) (by omega) ?_
    exact hx κ2 d0 H locs ls ((hsim _ _ (by omega) hS _ _ hpκ1).2 _ _ hpκ2).2.2 hd0 (lv_sub hl [2, 3, 4, 5, 6] rfl) hw
  · skip
    refine lv_aload_n hM.x hM.b dL_law_1137 rfl (lv_at hl 3 rfl) ?_
    refine lv_iconst (v := 0) hM.x hM.b dL_law_1138 (by decide) ?_
    refine k_lald hM hw dL_law_1139 ?_
    refine lv_iload hM.x hM.b dL_law_1140 (lv_at hl 0 rfl) ?_
    refine lv_i2l (v := (r2).toInt64) hM.x hM.b dL_law_1142 rfl ?_
    refine W.lcmp hM.x hM.b dL_law_1143 ?_
    refine lv_if_eq (tgt := 1149) hM.x hM.b dL_law_1144 (by decide) (fun _ => ?_) (fun cz => absurd (lgc32 (((hsim _ _ (by omega) hS _ _ hpκ1).2 _ _ hpκ2).2.1 c1)) cz)
    refine lv_goto (tgt := 2211) hM.x hM.b dL_law_1149 (by decide) ?_
    refine W.widen (k := cells + 30) (n := slots + 200) (by omega) (by omega) ?_
    exact hx κ2 d0 H locs ls ((hsim _ _ (by omega) hS _ _ hpκ1).2 _ _ hpκ2).2.2 hd0 (lv_sub hl [2, 3, 4, 5, 6] rfl) hw
set_option maxRecDepth 100000 in
set_option maxHeartbeats 4000000 in
theorem lc_feetOf {p : Program} {e : Env} {s : State} {m : MethodId} {below : List Frame} {meth : Method} {c : Code} {Q : State → Prop} (l : Launch) (hlst : l.stackTraces = false) (g : Gt) {b L t : Nat} {xs : Nat → Int32} {S : Nat → Kp → Prop} (hsim : SimOp S (fun κ => f_L_feetOf κ (xs (3 * t + 1))) (fun κ => f_X5_feetOf κ (xs (3 * t + 1)))) (hM0 : Mc g p s m ([.ref b] : List Value).toArray meth c cL_law 9 RL) (hX : va_X b L xs s s.heap) (hbl : b < s.heap.size) (hbA : ¬ fr g s.heap.size b) (hL : 3 * t + 3 ≤ L) (hL2 : L ≤ 1536) {cells slots : Nat} (hcl : cells + 30 ≤ 655566) (hsl : slots + 200 ≤ 7129405) (κ : Kp) (hS : S t κ) (d0 : Drawn) (hd0 : s.drawn.sameBut d0 lw_cs) (H : Heap) (locs : List Loc) (ls : Array Slot) (hl : lv_has ls 9 (lwL g b t)) (hw : Ws g s κ H locs) (hx : ∀ (κ2 : Kp) (d1 : Drawn) (H : Heap) (locs : List Loc) (ls : Array Slot), S (t + 1) κ2 → s.drawn.sameBut d1 lw_cs → lv_has ls 9 (lwL g b t) → Ws g s κ2 H locs → W p l e room_1 (s.setDrawn d1) m ([.ref b] : List Value).toArray below meth c H locs (cells + 30) (slots + 200) Q (F0 m 2211 ls [])) : W p l e room_1 (s.setDrawn d0) m ([.ref b] : List Value).toArray below meth c H locs cells slots Q (F0 m 1152 ls []) := by
  have hM := hM0.drawn d0
  have hw : Ws g (s.setDrawn d0) κ H locs := hw
  refine lv_aload_n hM.x hM.b dL_law_1152 rfl (lv_at hl 3 rfl) ?_
  refine lv_aload_n hM.x hM.b dL_law_1153 rfl (lv_at hl 4 rfl) ?_
  refine lv_iload hM.x hM.b dL_law_1154 (lv_at hl 0 rfl) ?_
  refine lv_iconst (v := 1) hM.x hM.b dL_law_1156 (by decide) ?_
  refine k_iaddN (a := 3 * t) (b := 1) hM dL_law_1157 ?_
  refine k_sld (i := (3 * t + 1)) hM hX hbl hbA hw (by omega) hL2 dL_law_1158 ?_
  refine lv_aload_n hM.x hM.b dL_law_1159 rfl (lv_at hl 1 rfl) ?_
  refine k_ci hw (k_runSW [.ref (g.2.2 (0)), .int (xs ((3 * t + 1))), .ref (g.2.2 (98))] [] hM hw (m_L_feetOf l g κ _ (xs ((3 * t + 1))) hlst) (k_gSW u_ml_L_188 u_st_L_feetOf u_ini_L u_co_L_feetOf) (q_L_feetOf) rfl rfl rfl ⟨Nat.le_of_ble_eq_true rfl, Nat.le_of_ble_eq_true rfl⟩ hl.1 rfl (Nat.le_of_ble_eq_true rfl) dL_law_1160 ⟨(show _ ≤ 655566 by omega), (show _ ≤ 7129405 by omega)⟩) (fun r1 κ1 H locs hpκ1 hw => ?_)
  refine lv_istore (lv' := [(5, .int (r1)), (4, .int (nI (3 * t))), (3, .ref (g.2.2 (98))), (2, .ref (g.2.2 (91))), (1, .ref (g.2.2 (0))), (0, .ref b)]) hM.x hM.b dL_law_1163 hl (by decide) rfl (fun ls hl => ?_)
  refine lv_aload_n hM.x hM.b dL_law_1165 rfl (lv_at hl 3 rfl) ?_
  refine lv_aload_n hM.x hM.b dL_law_1166 rfl (lv_at hl 5 rfl) ?_
  refine lv_iload hM.x hM.b dL_law_1167 (lv_at hl 1 rfl) ?_
  refine lv_iconst (v := 1) hM.x hM.b dL_law_1169 (by decide) ?_
  refine k_iaddN (a := 3 * t) (b := 1) hM dL_law_1170 ?_
  refine k_sld (i := (3 * t + 1)) hM hX hbl hbA hw (by omega) hL2 dL_law_1171 ?_
  refine k_ci hw (k_runV [.int (xs ((3 * t + 1)))] [] hM hw (m_X5_feetOf l g κ1 _ (xs ((3 * t + 1))) (hsim _ _ (by omega) hS _ _ hpκ1).1) (kd_lt kd_91 (by decide)) (sh5 kd_91) rfl (k_gV u_ml_L_190 u_im_X5_feetOf u_se_X5_feetOf u_ini_X5 u_co_X5_feetOf) (q_X5_feetOf) rfl rfl rfl ⟨Nat.le_of_ble_eq_true rfl, Nat.le_of_ble_eq_true rfl⟩ hl.1 rfl (Nat.le_of_ble_eq_true rfl) dL_law_1172 ⟨(show _ ≤ 655566 by omega), (show _ ≤ 7129405 by omega)⟩) (fun r2 κ2 H locs hpκ2 hw => ?_)
  refine lv_istore (lv' := [(6, .int (r2)), (5, .int (r1)), (4, .int (nI (3 * t))), (3, .ref (g.2.2 (98))), (2, .ref (g.2.2 (91))), (1, .ref (g.2.2 (0))), (0, .ref b)]) hM.x hM.b dL_law_1175 hl (by decide) rfl (fun ls hl => ?_)
  refine lv_aload_n hM.x hM.b dL_law_1177 rfl (lv_at hl 4 rfl) ?_
  refine k_cip hw (k_runV [] [] hM hw (m_X5_thrown l g κ2 _) (kd_lt kd_91 (by decide)) (sh5 kd_91) rfl (k_gV u_ml_L_125 u_im_X5_thrown u_se_X5_thrown u_ini_X5 u_co_X5_thrown) (q_X5_thrown) rfl rfl rfl ⟨Nat.le_of_ble_eq_true rfl, Nat.le_of_ble_eq_true rfl⟩ hl.1 rfl (Nat.le_of_ble_eq_true rfl) dL_law_1178 ⟨(show _ ≤ 655566 by omega), (show _ ≤ 7129405 by omega)⟩) (fun H locs hw => ?_)
  refine lv_iload hM.x hM.b dL_law_1181 (lv_at hl 1 rfl) ?_
  refine lv_icmp_eq (tgt := 1188) hM.x hM.b dL_law_1183 (by decide) (fun _ => ?_) (fun cz => absurd ((hsim _ _ (by omega) hS _ _ hpκ1).2 _ _ hpκ2).1 cz)
  refine lv_iload hM.x hM.b dL_law_1188 (lv_at hl 1 rfl) ?_
  refine lv_if_ne (tgt := 1205) hM.x hM.b dL_law_1190 (by decide) (fun c1 => ?_) (fun c1 => ?_)
  · skip
    refine lv_goto (tgt := 2211) hM.x hM.b dL_law_1205 (by decide) ?_
    refine W.widen (k := cells + 30) (n := slots + 200) (by omega) (by omega) ?_
    exact hx κ2 d0 H locs ls ((hsim _ _ (by omega) hS _ _ hpκ1).2 _ _ hpκ2).2.2 hd0 (lv_sub hl [2, 3, 4, 5, 6] rfl) hw
  · skip
    refine lv_aload_n hM.x hM.b dL_law_1193 rfl (lv_at hl 3 rfl) ?_
    refine lv_iconst (v := 0) hM.x hM.b dL_law_1194 (by decide) ?_
    refine k_lald hM hw dL_law_1195 ?_
    refine lv_iload hM.x hM.b dL_law_1196 (lv_at hl 0 rfl) ?_
    refine lv_i2l (v := (r2).toInt64) hM.x hM.b dL_law_1198 rfl ?_
    refine W.lcmp hM.x hM.b dL_law_1199 ?_
    refine lv_if_eq (tgt := 1205) hM.x hM.b dL_law_1200 (by decide) (fun _ => ?_) (fun cz => absurd (lgc32 (((hsim _ _ (by omega) hS _ _ hpκ1).2 _ _ hpκ2).2.1 c1)) cz)
    refine lv_goto (tgt := 2211) hM.x hM.b dL_law_1205 (by decide) ?_
    refine W.widen (k := cells + 30) (n := slots + 200) (by omega) (by omega) ?_
    exact hx κ2 d0 H locs ls ((hsim _ _ (by omega) hS _ _ hpκ1).2 _ _ hpκ2).2.2 hd0 (lv_sub hl [2, 3, 4, 5, 6] rfl) hw
set_option maxRecDepth 100000 in
set_option maxHeartbeats 4000000 in
theorem lc_glowAt {p : Program} {e : Env} {s : State} {m : MethodId} {below : List Frame} {meth : Method} {c : Code} {Q : State → Prop} (l : Launch) (hlst : l.stackTraces = false) (g : Gt) {b L t : Nat} {xs : Nat → Int32} {S : Nat → Kp → Prop} (hsim : SimOp S (fun κ => f_L_glowAt κ (xs (3 * t + 1))) (fun κ => f_X5_glowAt κ (xs (3 * t + 1)))) (hM0 : Mc g p s m ([.ref b] : List Value).toArray meth c cL_law 9 RL) (hX : va_X b L xs s s.heap) (hbl : b < s.heap.size) (hbA : ¬ fr g s.heap.size b) (hL : 3 * t + 3 ≤ L) (hL2 : L ≤ 1536) {cells slots : Nat} (hcl : cells + 30 ≤ 655566) (hsl : slots + 200 ≤ 7129405) (κ : Kp) (hS : S t κ) (d0 : Drawn) (hd0 : s.drawn.sameBut d0 lw_cs) (H : Heap) (locs : List Loc) (ls : Array Slot) (hl : lv_has ls 9 (lwL g b t)) (hw : Ws g s κ H locs) (hx : ∀ (κ2 : Kp) (d1 : Drawn) (H : Heap) (locs : List Loc) (ls : Array Slot), S (t + 1) κ2 → s.drawn.sameBut d1 lw_cs → lv_has ls 9 (lwL g b t) → Ws g s κ2 H locs → W p l e room_1 (s.setDrawn d1) m ([.ref b] : List Value).toArray below meth c H locs (cells + 30) (slots + 200) Q (F0 m 2211 ls [])) : W p l e room_1 (s.setDrawn d0) m ([.ref b] : List Value).toArray below meth c H locs cells slots Q (F0 m 1208 ls []) := by
  have hM := hM0.drawn d0
  have hw : Ws g (s.setDrawn d0) κ H locs := hw
  refine lv_aload_n hM.x hM.b dL_law_1208 rfl (lv_at hl 3 rfl) ?_
  refine lv_aload_n hM.x hM.b dL_law_1209 rfl (lv_at hl 4 rfl) ?_
  refine lv_iload hM.x hM.b dL_law_1210 (lv_at hl 0 rfl) ?_
  refine lv_iconst (v := 1) hM.x hM.b dL_law_1212 (by decide) ?_
  refine k_iaddN (a := 3 * t) (b := 1) hM dL_law_1213 ?_
  refine k_sld (i := (3 * t + 1)) hM hX hbl hbA hw (by omega) hL2 dL_law_1214 ?_
  refine lv_aload_n hM.x hM.b dL_law_1215 rfl (lv_at hl 1 rfl) ?_
  refine k_ci hw (k_runSW [.ref (g.2.2 (0)), .int (xs ((3 * t + 1))), .ref (g.2.2 (98))] [] hM hw (m_L_glowAt l g κ _ (xs ((3 * t + 1))) hlst) (k_gSW u_ml_L_191 u_st_L_glowAt u_ini_L u_co_L_glowAt) (q_L_glowAt) rfl rfl rfl ⟨Nat.le_of_ble_eq_true rfl, Nat.le_of_ble_eq_true rfl⟩ hl.1 rfl (Nat.le_of_ble_eq_true rfl) dL_law_1216 ⟨(show _ ≤ 655566 by omega), (show _ ≤ 7129405 by omega)⟩) (fun r1 κ1 H locs hpκ1 hw => ?_)
  refine lv_istore (lv' := [(5, .int (r1)), (4, .int (nI (3 * t))), (3, .ref (g.2.2 (98))), (2, .ref (g.2.2 (91))), (1, .ref (g.2.2 (0))), (0, .ref b)]) hM.x hM.b dL_law_1219 hl (by decide) rfl (fun ls hl => ?_)
  refine lv_aload_n hM.x hM.b dL_law_1221 rfl (lv_at hl 3 rfl) ?_
  refine lv_aload_n hM.x hM.b dL_law_1222 rfl (lv_at hl 5 rfl) ?_
  refine lv_iload hM.x hM.b dL_law_1223 (lv_at hl 1 rfl) ?_
  refine lv_iconst (v := 1) hM.x hM.b dL_law_1225 (by decide) ?_
  refine k_iaddN (a := 3 * t) (b := 1) hM dL_law_1226 ?_
  refine k_sld (i := (3 * t + 1)) hM hX hbl hbA hw (by omega) hL2 dL_law_1227 ?_
  refine k_ci hw (k_runV [.int (xs ((3 * t + 1)))] [] hM hw (m_X5_glowAt l g κ1 _ (xs ((3 * t + 1))) (hsim _ _ (by omega) hS _ _ hpκ1).1) (kd_lt kd_91 (by decide)) (sh5 kd_91) rfl (k_gV u_ml_L_193 u_im_X5_glowAt u_se_X5_glowAt u_ini_X5 u_co_X5_glowAt) (q_X5_glowAt) rfl rfl rfl ⟨Nat.le_of_ble_eq_true rfl, Nat.le_of_ble_eq_true rfl⟩ hl.1 rfl (Nat.le_of_ble_eq_true rfl) dL_law_1228 ⟨(show _ ≤ 655566 by omega), (show _ ≤ 7129405 by omega)⟩) (fun r2 κ2 H locs hpκ2 hw => ?_)
  refine lv_istore (lv' := [(6, .int (r2)), (5, .int (r1)), (4, .int (nI (3 * t))), (3, .ref (g.2.2 (98))), (2, .ref (g.2.2 (91))), (1, .ref (g.2.2 (0))), (0, .ref b)]) hM.x hM.b dL_law_1231 hl (by decide) rfl (fun ls hl => ?_)
  refine lv_aload_n hM.x hM.b dL_law_1233 rfl (lv_at hl 4 rfl) ?_
  refine k_cip hw (k_runV [] [] hM hw (m_X5_thrown l g κ2 _) (kd_lt kd_91 (by decide)) (sh5 kd_91) rfl (k_gV u_ml_L_125 u_im_X5_thrown u_se_X5_thrown u_ini_X5 u_co_X5_thrown) (q_X5_thrown) rfl rfl rfl ⟨Nat.le_of_ble_eq_true rfl, Nat.le_of_ble_eq_true rfl⟩ hl.1 rfl (Nat.le_of_ble_eq_true rfl) dL_law_1234 ⟨(show _ ≤ 655566 by omega), (show _ ≤ 7129405 by omega)⟩) (fun H locs hw => ?_)
  refine lv_iload hM.x hM.b dL_law_1237 (lv_at hl 1 rfl) ?_
  refine lv_icmp_eq (tgt := 1244) hM.x hM.b dL_law_1239 (by decide) (fun _ => ?_) (fun cz => absurd ((hsim _ _ (by omega) hS _ _ hpκ1).2 _ _ hpκ2).1 cz)
  refine lv_iload hM.x hM.b dL_law_1244 (lv_at hl 1 rfl) ?_
  refine lv_if_ne (tgt := 1261) hM.x hM.b dL_law_1246 (by decide) (fun c1 => ?_) (fun c1 => ?_)
  · skip
    refine lv_goto (tgt := 2211) hM.x hM.b dL_law_1261 (by decide) ?_
    refine W.widen (k := cells + 30) (n := slots + 200) (by omega) (by omega) ?_
    exact hx κ2 d0 H locs ls ((hsim _ _ (by omega) hS _ _ hpκ1).2 _ _ hpκ2).2.2 hd0 (lv_sub hl [2, 3, 4, 5, 6] rfl) hw
  · skip
    refine lv_aload_n hM.x hM.b dL_law_1249 rfl (lv_at hl 3 rfl) ?_
    refine lv_iconst (v := 0) hM.x hM.b dL_law_1250 (by decide) ?_
    refine k_lald hM hw dL_law_1251 ?_
    refine lv_iload hM.x hM.b dL_law_1252 (lv_at hl 0 rfl) ?_
    refine lv_i2l (v := (r2).toInt64) hM.x hM.b dL_law_1254 rfl ?_
    refine W.lcmp hM.x hM.b dL_law_1255 ?_
    refine lv_if_eq (tgt := 1261) hM.x hM.b dL_law_1256 (by decide) (fun _ => ?_) (fun cz => absurd (lgc32 (((hsim _ _ (by omega) hS _ _ hpκ1).2 _ _ hpκ2).2.1 c1)) cz)
    refine lv_goto (tgt := 2211) hM.x hM.b dL_law_1261 (by decide) ?_
    refine W.widen (k := cells + 30) (n := slots + 200) (by omega) (by omega) ?_
    exact hx κ2 d0 H locs ls ((hsim _ _ (by omega) hS _ _ hpκ1).2 _ _ hpκ2).2.2 hd0 (lv_sub hl [2, 3, 4, 5, 6] rfl) hw
set_option maxRecDepth 100000 in
set_option maxHeartbeats 4000000 in
theorem lc_turnedEach {p : Program} {e : Env} {s : State} {m : MethodId} {below : List Frame} {meth : Method} {c : Code} {Q : State → Prop} (l : Launch) (hlst : l.stackTraces = false) (g : Gt) {b L t : Nat} {xs : Nat → Int32} {S : Nat → Kp → Prop} (hsim : SimOp S (fun κ => f_L_turnedEach κ (xs (3 * t + 1))) (fun κ => f_X5_turnedEach κ (xs (3 * t + 1)))) (hM0 : Mc g p s m ([.ref b] : List Value).toArray meth c cL_law 9 RL) (hX : va_X b L xs s s.heap) (hbl : b < s.heap.size) (hbA : ¬ fr g s.heap.size b) (hL : 3 * t + 3 ≤ L) (hL2 : L ≤ 1536) {cells slots : Nat} (hcl : cells + 30 ≤ 655566) (hsl : slots + 200 ≤ 7129405) (κ : Kp) (hS : S t κ) (d0 : Drawn) (hd0 : s.drawn.sameBut d0 lw_cs) (H : Heap) (locs : List Loc) (ls : Array Slot) (hl : lv_has ls 9 (lwL g b t)) (hw : Ws g s κ H locs) (hx : ∀ (κ2 : Kp) (d1 : Drawn) (H : Heap) (locs : List Loc) (ls : Array Slot), S (t + 1) κ2 → s.drawn.sameBut d1 lw_cs → lv_has ls 9 (lwL g b t) → Ws g s κ2 H locs → W p l e room_1 (s.setDrawn d1) m ([.ref b] : List Value).toArray below meth c H locs (cells + 30) (slots + 200) Q (F0 m 2211 ls [])) : W p l e room_1 (s.setDrawn d0) m ([.ref b] : List Value).toArray below meth c H locs cells slots Q (F0 m 1264 ls []) := by
  have hM := hM0.drawn d0
  have hw : Ws g (s.setDrawn d0) κ H locs := hw
  refine lv_aload_n hM.x hM.b dL_law_1264 rfl (lv_at hl 3 rfl) ?_
  refine lv_aload_n hM.x hM.b dL_law_1265 rfl (lv_at hl 4 rfl) ?_
  refine lv_iload hM.x hM.b dL_law_1266 (lv_at hl 0 rfl) ?_
  refine lv_iconst (v := 1) hM.x hM.b dL_law_1268 (by decide) ?_
  refine k_iaddN (a := 3 * t) (b := 1) hM dL_law_1269 ?_
  refine k_sld (i := (3 * t + 1)) hM hX hbl hbA hw (by omega) hL2 dL_law_1270 ?_
  refine lv_aload_n hM.x hM.b dL_law_1271 rfl (lv_at hl 1 rfl) ?_
  refine k_ci hw (k_runSW [.ref (g.2.2 (0)), .int (xs ((3 * t + 1))), .ref (g.2.2 (98))] [] hM hw (m_L_turnedEach l g κ _ (xs ((3 * t + 1))) hlst) (k_gSW u_ml_L_194 u_st_L_turnedEach u_ini_L u_co_L_turnedEach) (q_L_turnedEach) rfl rfl rfl ⟨Nat.le_of_ble_eq_true rfl, Nat.le_of_ble_eq_true rfl⟩ hl.1 rfl (Nat.le_of_ble_eq_true rfl) dL_law_1272 ⟨(show _ ≤ 655566 by omega), (show _ ≤ 7129405 by omega)⟩) (fun r1 κ1 H locs hpκ1 hw => ?_)
  refine lv_istore (lv' := [(5, .int (r1)), (4, .int (nI (3 * t))), (3, .ref (g.2.2 (98))), (2, .ref (g.2.2 (91))), (1, .ref (g.2.2 (0))), (0, .ref b)]) hM.x hM.b dL_law_1275 hl (by decide) rfl (fun ls hl => ?_)
  refine lv_aload_n hM.x hM.b dL_law_1277 rfl (lv_at hl 3 rfl) ?_
  refine lv_aload_n hM.x hM.b dL_law_1278 rfl (lv_at hl 5 rfl) ?_
  refine lv_iload hM.x hM.b dL_law_1279 (lv_at hl 1 rfl) ?_
  refine lv_iconst (v := 1) hM.x hM.b dL_law_1281 (by decide) ?_
  refine k_iaddN (a := 3 * t) (b := 1) hM dL_law_1282 ?_
  refine k_sld (i := (3 * t + 1)) hM hX hbl hbA hw (by omega) hL2 dL_law_1283 ?_
  refine k_ci hw (k_runV [.int (xs ((3 * t + 1)))] [] hM hw (m_X5_turnedEach l g κ1 _ (xs ((3 * t + 1))) (hsim _ _ (by omega) hS _ _ hpκ1).1) (kd_lt kd_91 (by decide)) (sh5 kd_91) rfl (k_gV u_ml_L_196 u_im_X5_turnedEach u_se_X5_turnedEach u_ini_X5 u_co_X5_turnedEach) (q_X5_turnedEach) rfl rfl rfl ⟨Nat.le_of_ble_eq_true rfl, Nat.le_of_ble_eq_true rfl⟩ hl.1 rfl (Nat.le_of_ble_eq_true rfl) dL_law_1284 ⟨(show _ ≤ 655566 by omega), (show _ ≤ 7129405 by omega)⟩) (fun r2 κ2 H locs hpκ2 hw => ?_)
  refine lv_istore (lv' := [(6, .int (r2)), (5, .int (r1)), (4, .int (nI (3 * t))), (3, .ref (g.2.2 (98))), (2, .ref (g.2.2 (91))), (1, .ref (g.2.2 (0))), (0, .ref b)]) hM.x hM.b dL_law_1287 hl (by decide) rfl (fun ls hl => ?_)
  refine lv_aload_n hM.x hM.b dL_law_1289 rfl (lv_at hl 4 rfl) ?_
  refine k_cip hw (k_runV [] [] hM hw (m_X5_thrown l g κ2 _) (kd_lt kd_91 (by decide)) (sh5 kd_91) rfl (k_gV u_ml_L_125 u_im_X5_thrown u_se_X5_thrown u_ini_X5 u_co_X5_thrown) (q_X5_thrown) rfl rfl rfl ⟨Nat.le_of_ble_eq_true rfl, Nat.le_of_ble_eq_true rfl⟩ hl.1 rfl (Nat.le_of_ble_eq_true rfl) dL_law_1290 ⟨(show _ ≤ 655566 by omega), (show _ ≤ 7129405 by omega)⟩) (fun H locs hw => ?_)
  refine lv_iload hM.x hM.b dL_law_1293 (lv_at hl 1 rfl) ?_
  refine lv_icmp_eq (tgt := 1300) hM.x hM.b dL_law_1295 (by decide) (fun _ => ?_) (fun cz => absurd ((hsim _ _ (by omega) hS _ _ hpκ1).2 _ _ hpκ2).1 cz)
  refine lv_iload hM.x hM.b dL_law_1300 (lv_at hl 1 rfl) ?_
  refine lv_if_ne (tgt := 1317) hM.x hM.b dL_law_1302 (by decide) (fun c1 => ?_) (fun c1 => ?_)
  · skip
    refine lv_goto (tgt := 2211) hM.x hM.b dL_law_1317 (by decide) ?_
    refine W.widen (k := cells + 30) (n := slots + 200) (by omega) (by omega) ?_
    exact hx κ2 d0 H locs ls ((hsim _ _ (by omega) hS _ _ hpκ1).2 _ _ hpκ2).2.2 hd0 (lv_sub hl [2, 3, 4, 5, 6] rfl) hw
  · skip
    refine lv_aload_n hM.x hM.b dL_law_1305 rfl (lv_at hl 3 rfl) ?_
    refine lv_iconst (v := 0) hM.x hM.b dL_law_1306 (by decide) ?_
    refine k_lald hM hw dL_law_1307 ?_
    refine lv_iload hM.x hM.b dL_law_1308 (lv_at hl 0 rfl) ?_
    refine lv_i2l (v := (r2).toInt64) hM.x hM.b dL_law_1310 rfl ?_
    refine W.lcmp hM.x hM.b dL_law_1311 ?_
    refine lv_if_eq (tgt := 1317) hM.x hM.b dL_law_1312 (by decide) (fun _ => ?_) (fun cz => absurd (lgc32 (((hsim _ _ (by omega) hS _ _ hpκ1).2 _ _ hpκ2).2.1 c1)) cz)
    refine lv_goto (tgt := 2211) hM.x hM.b dL_law_1317 (by decide) ?_
    refine W.widen (k := cells + 30) (n := slots + 200) (by omega) (by omega) ?_
    exact hx κ2 d0 H locs ls ((hsim _ _ (by omega) hS _ _ hpκ1).2 _ _ hpκ2).2.2 hd0 (lv_sub hl [2, 3, 4, 5, 6] rfl) hw
set_option maxRecDepth 100000 in
set_option maxHeartbeats 4000000 in
theorem lc_drippingsOf {p : Program} {e : Env} {s : State} {m : MethodId} {below : List Frame} {meth : Method} {c : Code} {Q : State → Prop} (l : Launch) (hlst : l.stackTraces = false) (g : Gt) {b L t : Nat} {xs : Nat → Int32} {S : Nat → Kp → Prop} (hsim : SimOp S (fun κ => f_L_drippingsOf κ (xs (3 * t + 1))) (fun κ => f_X5_drippingsOf κ (xs (3 * t + 1)))) (hM0 : Mc g p s m ([.ref b] : List Value).toArray meth c cL_law 9 RL) (hX : va_X b L xs s s.heap) (hbl : b < s.heap.size) (hbA : ¬ fr g s.heap.size b) (hL : 3 * t + 3 ≤ L) (hL2 : L ≤ 1536) {cells slots : Nat} (hcl : cells + 30 ≤ 655566) (hsl : slots + 200 ≤ 7129405) (κ : Kp) (hS : S t κ) (d0 : Drawn) (hd0 : s.drawn.sameBut d0 lw_cs) (H : Heap) (locs : List Loc) (ls : Array Slot) (hl : lv_has ls 9 (lwL g b t)) (hw : Ws g s κ H locs) (hx : ∀ (κ2 : Kp) (d1 : Drawn) (H : Heap) (locs : List Loc) (ls : Array Slot), S (t + 1) κ2 → s.drawn.sameBut d1 lw_cs → lv_has ls 9 (lwL g b t) → Ws g s κ2 H locs → W p l e room_1 (s.setDrawn d1) m ([.ref b] : List Value).toArray below meth c H locs (cells + 30) (slots + 200) Q (F0 m 2211 ls [])) : W p l e room_1 (s.setDrawn d0) m ([.ref b] : List Value).toArray below meth c H locs cells slots Q (F0 m 1320 ls []) := by
  have hM := hM0.drawn d0
  have hw : Ws g (s.setDrawn d0) κ H locs := hw
  refine lv_aload_n hM.x hM.b dL_law_1320 rfl (lv_at hl 3 rfl) ?_
  refine lv_aload_n hM.x hM.b dL_law_1321 rfl (lv_at hl 4 rfl) ?_
  refine lv_iload hM.x hM.b dL_law_1322 (lv_at hl 0 rfl) ?_
  refine lv_iconst (v := 1) hM.x hM.b dL_law_1324 (by decide) ?_
  refine k_iaddN (a := 3 * t) (b := 1) hM dL_law_1325 ?_
  refine k_sld (i := (3 * t + 1)) hM hX hbl hbA hw (by omega) hL2 dL_law_1326 ?_
  refine lv_aload_n hM.x hM.b dL_law_1327 rfl (lv_at hl 1 rfl) ?_
  refine k_ci hw (k_runSW [.ref (g.2.2 (0)), .int (xs ((3 * t + 1))), .ref (g.2.2 (98))] [] hM hw (m_L_drippingsOf l g κ _ (xs ((3 * t + 1))) hlst) (k_gSW u_ml_L_197 u_st_L_drippingsOf u_ini_L u_co_L_drippingsOf) (q_L_drippingsOf) rfl rfl rfl ⟨Nat.le_of_ble_eq_true rfl, Nat.le_of_ble_eq_true rfl⟩ hl.1 rfl (Nat.le_of_ble_eq_true rfl) dL_law_1328 ⟨(show _ ≤ 655566 by omega), (show _ ≤ 7129405 by omega)⟩) (fun r1 κ1 H locs hpκ1 hw => ?_)
  refine lv_istore (lv' := [(5, .int (r1)), (4, .int (nI (3 * t))), (3, .ref (g.2.2 (98))), (2, .ref (g.2.2 (91))), (1, .ref (g.2.2 (0))), (0, .ref b)]) hM.x hM.b dL_law_1331 hl (by decide) rfl (fun ls hl => ?_)
  refine lv_aload_n hM.x hM.b dL_law_1333 rfl (lv_at hl 3 rfl) ?_
  refine lv_aload_n hM.x hM.b dL_law_1334 rfl (lv_at hl 5 rfl) ?_
  refine lv_iload hM.x hM.b dL_law_1335 (lv_at hl 1 rfl) ?_
  refine lv_iconst (v := 1) hM.x hM.b dL_law_1337 (by decide) ?_
  refine k_iaddN (a := 3 * t) (b := 1) hM dL_law_1338 ?_
  refine k_sld (i := (3 * t + 1)) hM hX hbl hbA hw (by omega) hL2 dL_law_1339 ?_
  refine k_ci hw (k_runV [.int (xs ((3 * t + 1)))] [] hM hw (m_X5_drippingsOf l g κ1 _ (xs ((3 * t + 1))) (hsim _ _ (by omega) hS _ _ hpκ1).1) (kd_lt kd_91 (by decide)) (sh5 kd_91) rfl (k_gV u_ml_L_199 u_im_X5_drippingsOf u_se_X5_drippingsOf u_ini_X5 u_co_X5_drippingsOf) (q_X5_drippingsOf) rfl rfl rfl ⟨Nat.le_of_ble_eq_true rfl, Nat.le_of_ble_eq_true rfl⟩ hl.1 rfl (Nat.le_of_ble_eq_true rfl) dL_law_1340 ⟨(show _ ≤ 655566 by omega), (show _ ≤ 7129405 by omega)⟩) (fun r2 κ2 H locs hpκ2 hw => ?_)
  refine lv_istore (lv' := [(6, .int (r2)), (5, .int (r1)), (4, .int (nI (3 * t))), (3, .ref (g.2.2 (98))), (2, .ref (g.2.2 (91))), (1, .ref (g.2.2 (0))), (0, .ref b)]) hM.x hM.b dL_law_1343 hl (by decide) rfl (fun ls hl => ?_)
  refine lv_aload_n hM.x hM.b dL_law_1345 rfl (lv_at hl 4 rfl) ?_
  refine k_cip hw (k_runV [] [] hM hw (m_X5_thrown l g κ2 _) (kd_lt kd_91 (by decide)) (sh5 kd_91) rfl (k_gV u_ml_L_125 u_im_X5_thrown u_se_X5_thrown u_ini_X5 u_co_X5_thrown) (q_X5_thrown) rfl rfl rfl ⟨Nat.le_of_ble_eq_true rfl, Nat.le_of_ble_eq_true rfl⟩ hl.1 rfl (Nat.le_of_ble_eq_true rfl) dL_law_1346 ⟨(show _ ≤ 655566 by omega), (show _ ≤ 7129405 by omega)⟩) (fun H locs hw => ?_)
  refine lv_iload hM.x hM.b dL_law_1349 (lv_at hl 1 rfl) ?_
  refine lv_icmp_eq (tgt := 1356) hM.x hM.b dL_law_1351 (by decide) (fun _ => ?_) (fun cz => absurd ((hsim _ _ (by omega) hS _ _ hpκ1).2 _ _ hpκ2).1 cz)
  refine lv_iload hM.x hM.b dL_law_1356 (lv_at hl 1 rfl) ?_
  refine lv_if_ne (tgt := 1373) hM.x hM.b dL_law_1358 (by decide) (fun c1 => ?_) (fun c1 => ?_)
  · skip
    refine lv_goto (tgt := 2211) hM.x hM.b dL_law_1373 (by decide) ?_
    refine W.widen (k := cells + 30) (n := slots + 200) (by omega) (by omega) ?_
    exact hx κ2 d0 H locs ls ((hsim _ _ (by omega) hS _ _ hpκ1).2 _ _ hpκ2).2.2 hd0 (lv_sub hl [2, 3, 4, 5, 6] rfl) hw
  · skip
    refine lv_aload_n hM.x hM.b dL_law_1361 rfl (lv_at hl 3 rfl) ?_
    refine lv_iconst (v := 0) hM.x hM.b dL_law_1362 (by decide) ?_
    refine k_lald hM hw dL_law_1363 ?_
    refine lv_iload hM.x hM.b dL_law_1364 (lv_at hl 0 rfl) ?_
    refine lv_i2l (v := (r2).toInt64) hM.x hM.b dL_law_1366 rfl ?_
    refine W.lcmp hM.x hM.b dL_law_1367 ?_
    refine lv_if_eq (tgt := 1373) hM.x hM.b dL_law_1368 (by decide) (fun _ => ?_) (fun cz => absurd (lgc32 (((hsim _ _ (by omega) hS _ _ hpκ1).2 _ _ hpκ2).2.1 c1)) cz)
    refine lv_goto (tgt := 2211) hM.x hM.b dL_law_1373 (by decide) ?_
    refine W.widen (k := cells + 30) (n := slots + 200) (by omega) (by omega) ?_
    exact hx κ2 d0 H locs ls ((hsim _ _ (by omega) hS _ _ hpκ1).2 _ _ hpκ2).2.2 hd0 (lv_sub hl [2, 3, 4, 5, 6] rfl) hw
set_option maxRecDepth 100000 in
set_option maxHeartbeats 4000000 in
theorem lc_roastOn {p : Program} {e : Env} {s : State} {m : MethodId} {below : List Frame} {meth : Method} {c : Code} {Q : State → Prop} (l : Launch) (hlst : l.stackTraces = false) (g : Gt) {b L t : Nat} {xs : Nat → Int32} {S : Nat → Kp → Prop} (hsim : SimOp S (fun κ => f_L_roastOn κ (xs (3 * t + 1))) (fun κ => f_X5_roastOn κ (xs (3 * t + 1)))) (hM0 : Mc g p s m ([.ref b] : List Value).toArray meth c cL_law 9 RL) (hX : va_X b L xs s s.heap) (hbl : b < s.heap.size) (hbA : ¬ fr g s.heap.size b) (hL : 3 * t + 3 ≤ L) (hL2 : L ≤ 1536) {cells slots : Nat} (hcl : cells + 30 ≤ 655566) (hsl : slots + 200 ≤ 7129405) (κ : Kp) (hS : S t κ) (d0 : Drawn) (hd0 : s.drawn.sameBut d0 lw_cs) (H : Heap) (locs : List Loc) (ls : Array Slot) (hl : lv_has ls 9 (lwL g b t)) (hw : Ws g s κ H locs) (hx : ∀ (κ2 : Kp) (d1 : Drawn) (H : Heap) (locs : List Loc) (ls : Array Slot), S (t + 1) κ2 → s.drawn.sameBut d1 lw_cs → lv_has ls 9 (lwL g b t) → Ws g s κ2 H locs → W p l e room_1 (s.setDrawn d1) m ([.ref b] : List Value).toArray below meth c H locs (cells + 30) (slots + 200) Q (F0 m 2211 ls [])) : W p l e room_1 (s.setDrawn d0) m ([.ref b] : List Value).toArray below meth c H locs cells slots Q (F0 m 1376 ls []) := by
  have hM := hM0.drawn d0
  have hw : Ws g (s.setDrawn d0) κ H locs := hw
  refine lv_aload_n hM.x hM.b dL_law_1376 rfl (lv_at hl 3 rfl) ?_
  refine lv_aload_n hM.x hM.b dL_law_1377 rfl (lv_at hl 4 rfl) ?_
  refine lv_iload hM.x hM.b dL_law_1378 (lv_at hl 0 rfl) ?_
  refine lv_iconst (v := 1) hM.x hM.b dL_law_1380 (by decide) ?_
  refine k_iaddN (a := 3 * t) (b := 1) hM dL_law_1381 ?_
  refine k_sld (i := (3 * t + 1)) hM hX hbl hbA hw (by omega) hL2 dL_law_1382 ?_
  refine lv_aload_n hM.x hM.b dL_law_1383 rfl (lv_at hl 1 rfl) ?_
  refine k_ci hw (k_runSW [.ref (g.2.2 (0)), .int (xs ((3 * t + 1))), .ref (g.2.2 (98))] [] hM hw (m_L_roastOn l g κ _ (xs ((3 * t + 1))) hlst) (k_gSW u_ml_L_200 u_st_L_roastOn u_ini_L u_co_L_roastOn) (q_L_roastOn) rfl rfl rfl ⟨Nat.le_of_ble_eq_true rfl, Nat.le_of_ble_eq_true rfl⟩ hl.1 rfl (Nat.le_of_ble_eq_true rfl) dL_law_1384 ⟨(show _ ≤ 655566 by omega), (show _ ≤ 7129405 by omega)⟩) (fun r1 κ1 H locs hpκ1 hw => ?_)
  refine lv_istore (lv' := [(5, .int (r1)), (4, .int (nI (3 * t))), (3, .ref (g.2.2 (98))), (2, .ref (g.2.2 (91))), (1, .ref (g.2.2 (0))), (0, .ref b)]) hM.x hM.b dL_law_1387 hl (by decide) rfl (fun ls hl => ?_)
  refine lv_aload_n hM.x hM.b dL_law_1389 rfl (lv_at hl 3 rfl) ?_
  refine lv_aload_n hM.x hM.b dL_law_1390 rfl (lv_at hl 5 rfl) ?_
  refine lv_iload hM.x hM.b dL_law_1391 (lv_at hl 1 rfl) ?_
  refine lv_iconst (v := 1) hM.x hM.b dL_law_1393 (by decide) ?_
  refine k_iaddN (a := 3 * t) (b := 1) hM dL_law_1394 ?_
  refine k_sld (i := (3 * t + 1)) hM hX hbl hbA hw (by omega) hL2 dL_law_1395 ?_
  refine k_ci hw (k_runV [.int (xs ((3 * t + 1)))] [] hM hw (m_X5_roastOn l g κ1 _ (xs ((3 * t + 1))) (hsim _ _ (by omega) hS _ _ hpκ1).1) (kd_lt kd_91 (by decide)) (sh5 kd_91) rfl (k_gV u_ml_L_202 u_im_X5_roastOn u_se_X5_roastOn u_ini_X5 u_co_X5_roastOn) (q_X5_roastOn) rfl rfl rfl ⟨Nat.le_of_ble_eq_true rfl, Nat.le_of_ble_eq_true rfl⟩ hl.1 rfl (Nat.le_of_ble_eq_true rfl) dL_law_1396 ⟨(show _ ≤ 655566 by omega), (show _ ≤ 7129405 by omega)⟩) (fun r2 κ2 H locs hpκ2 hw => ?_)
  refine lv_istore (lv' := [(6, .int (r2)), (5, .int (r1)), (4, .int (nI (3 * t))), (3, .ref (g.2.2 (98))), (2, .ref (g.2.2 (91))), (1, .ref (g.2.2 (0))), (0, .ref b)]) hM.x hM.b dL_law_1399 hl (by decide) rfl (fun ls hl => ?_)
  refine lv_aload_n hM.x hM.b dL_law_1401 rfl (lv_at hl 4 rfl) ?_
  refine k_cip hw (k_runV [] [] hM hw (m_X5_thrown l g κ2 _) (kd_lt kd_91 (by decide)) (sh5 kd_91) rfl (k_gV u_ml_L_125 u_im_X5_thrown u_se_X5_thrown u_ini_X5 u_co_X5_thrown) (q_X5_thrown) rfl rfl rfl ⟨Nat.le_of_ble_eq_true rfl, Nat.le_of_ble_eq_true rfl⟩ hl.1 rfl (Nat.le_of_ble_eq_true rfl) dL_law_1402 ⟨(show _ ≤ 655566 by omega), (show _ ≤ 7129405 by omega)⟩) (fun H locs hw => ?_)
  refine lv_iload hM.x hM.b dL_law_1405 (lv_at hl 1 rfl) ?_
  refine lv_icmp_eq (tgt := 1412) hM.x hM.b dL_law_1407 (by decide) (fun _ => ?_) (fun cz => absurd ((hsim _ _ (by omega) hS _ _ hpκ1).2 _ _ hpκ2).1 cz)
  refine lv_iload hM.x hM.b dL_law_1412 (lv_at hl 1 rfl) ?_
  refine lv_if_ne (tgt := 1429) hM.x hM.b dL_law_1414 (by decide) (fun c1 => ?_) (fun c1 => ?_)
  · skip
    refine lv_goto (tgt := 2211) hM.x hM.b dL_law_1429 (by decide) ?_
    refine W.widen (k := cells + 30) (n := slots + 200) (by omega) (by omega) ?_
    exact hx κ2 d0 H locs ls ((hsim _ _ (by omega) hS _ _ hpκ1).2 _ _ hpκ2).2.2 hd0 (lv_sub hl [2, 3, 4, 5, 6] rfl) hw
  · skip
    refine lv_aload_n hM.x hM.b dL_law_1417 rfl (lv_at hl 3 rfl) ?_
    refine lv_iconst (v := 0) hM.x hM.b dL_law_1418 (by decide) ?_
    refine k_lald hM hw dL_law_1419 ?_
    refine lv_iload hM.x hM.b dL_law_1420 (lv_at hl 0 rfl) ?_
    refine lv_i2l (v := (r2).toInt64) hM.x hM.b dL_law_1422 rfl ?_
    refine W.lcmp hM.x hM.b dL_law_1423 ?_
    refine lv_if_eq (tgt := 1429) hM.x hM.b dL_law_1424 (by decide) (fun _ => ?_) (fun cz => absurd (lgc32 (((hsim _ _ (by omega) hS _ _ hpκ1).2 _ _ hpκ2).2.1 c1)) cz)
    refine lv_goto (tgt := 2211) hM.x hM.b dL_law_1429 (by decide) ?_
    refine W.widen (k := cells + 30) (n := slots + 200) (by omega) (by omega) ?_
    exact hx κ2 d0 H locs ls ((hsim _ _ (by omega) hS _ _ hpκ1).2 _ _ hpκ2).2.2 hd0 (lv_sub hl [2, 3, 4, 5, 6] rfl) hw
set_option maxRecDepth 100000 in
set_option maxHeartbeats 4000000 in
theorem lc_roasts {p : Program} {e : Env} {s : State} {m : MethodId} {below : List Frame} {meth : Method} {c : Code} {Q : State → Prop} (l : Launch) (hlst : l.stackTraces = false) (g : Gt) {b L t : Nat} {xs : Nat → Int32} {S : Nat → Kp → Prop} (hsim : SimRd S (fun κ => f_X4_roasts κ ) (fun κ => f_X5_roasts κ )) (hM0 : Mc g p s m ([.ref b] : List Value).toArray meth c cL_law 9 RL) (hX : va_X b L xs s s.heap) (hbl : b < s.heap.size) (hbA : ¬ fr g s.heap.size b) (hL : 3 * t + 3 ≤ L) (hL2 : L ≤ 1536) {cells slots : Nat} (hcl : cells + 30 ≤ 655566) (hsl : slots + 200 ≤ 7129405) (κ : Kp) (hS : S t κ) (d0 : Drawn) (hd0 : s.drawn.sameBut d0 lw_cs) (H : Heap) (locs : List Loc) (ls : Array Slot) (hl : lv_has ls 9 (lwL g b t)) (hw : Ws g s κ H locs) (hx : ∀ (κ2 : Kp) (d1 : Drawn) (H : Heap) (locs : List Loc) (ls : Array Slot), S (t + 1) κ2 → s.drawn.sameBut d1 lw_cs → lv_has ls 9 (lwL g b t) → Ws g s κ2 H locs → W p l e room_1 (s.setDrawn d1) m ([.ref b] : List Value).toArray below meth c H locs (cells + 30) (slots + 200) Q (F0 m 2211 ls [])) : W p l e room_1 (s.setDrawn d0) m ([.ref b] : List Value).toArray below meth c H locs cells slots Q (F0 m 1432 ls []) := by
  have hM := hM0.drawn d0
  have hw : Ws g (s.setDrawn d0) κ H locs := hw
  refine lv_aload_n hM.x hM.b dL_law_1432 rfl (lv_at hl 3 rfl) ?_
  refine k_cip hw (k_runV [] [] hM hw (m_X4_roasts l g κ _) (kd_lt kd_0 (by decide)) (sh4 kd_0) rfl (k_gV u_ml_L_203 u_im_X4_roasts u_se_X4_roasts u_ini_X4 u_co_X4_roasts) (q_X4_roasts) rfl rfl rfl ⟨Nat.le_of_ble_eq_true rfl, Nat.le_of_ble_eq_true rfl⟩ hl.1 rfl (Nat.le_of_ble_eq_true rfl) dL_law_1433 ⟨(show _ ≤ 655566 by omega), (show _ ≤ 7129405 by omega)⟩) (fun H locs hw => ?_)
  refine lv_aload_n hM.x hM.b dL_law_1436 rfl (lv_at hl 2 rfl) ?_
  refine k_ci hw (k_runV [] [.int (f_X4_roasts κ)] hM hw (m_X5_roasts l g κ _) (kd_lt kd_91 (by decide)) (sh5 kd_91) rfl (k_gV u_ml_L_206 u_im_X5_roasts u_se_X5_roasts u_ini_X5 u_co_X5_roasts) (q_X5_roasts) rfl rfl rfl ⟨Nat.le_of_ble_eq_true rfl, Nat.le_of_ble_eq_true rfl⟩ hl.1 rfl (Nat.le_of_ble_eq_true rfl) dL_law_1437 ⟨(show _ ≤ 655566 by omega), (show _ ≤ 7129405 by omega)⟩) (fun r1 κ1 H locs hpκ1 hw => ?_)
  refine lv_icmp_eq (tgt := 2211) hM.x hM.b dL_law_1440 (by decide) (fun _ => ?_) (fun cz => absurd ((hsim _ _ (by omega) hS).2 _ _ hpκ1).1 cz)
  refine W.widen (k := cells + 30) (n := slots + 200) (by omega) (by omega) ?_
  exact hx κ1 d0 H locs ls ((hsim _ _ (by omega) hS).2 _ _ hpκ1).2 hd0 (lv_sub hl [0, 1, 2, 3, 4] rfl) hw
set_option maxRecDepth 100000 in
set_option maxHeartbeats 4000000 in
theorem lc_poundsOf {p : Program} {e : Env} {s : State} {m : MethodId} {below : List Frame} {meth : Method} {c : Code} {Q : State → Prop} (l : Launch) (hlst : l.stackTraces = false) (g : Gt) {b L t : Nat} {xs : Nat → Int32} {S : Nat → Kp → Prop} (hsim : SimOp S (fun κ => f_L_poundsOf κ (xs (3 * t + 1))) (fun κ => f_X5_poundsOf κ (xs (3 * t + 1)))) (hM0 : Mc g p s m ([.ref b] : List Value).toArray meth c cL_law 9 RL) (hX : va_X b L xs s s.heap) (hbl : b < s.heap.size) (hbA : ¬ fr g s.heap.size b) (hL : 3 * t + 3 ≤ L) (hL2 : L ≤ 1536) {cells slots : Nat} (hcl : cells + 30 ≤ 655566) (hsl : slots + 200 ≤ 7129405) (κ : Kp) (hS : S t κ) (d0 : Drawn) (hd0 : s.drawn.sameBut d0 lw_cs) (H : Heap) (locs : List Loc) (ls : Array Slot) (hl : lv_has ls 9 (lwL g b t)) (hw : Ws g s κ H locs) (hx : ∀ (κ2 : Kp) (d1 : Drawn) (H : Heap) (locs : List Loc) (ls : Array Slot), S (t + 1) κ2 → s.drawn.sameBut d1 lw_cs → lv_has ls 9 (lwL g b t) → Ws g s κ2 H locs → W p l e room_1 (s.setDrawn d1) m ([.ref b] : List Value).toArray below meth c H locs (cells + 30) (slots + 200) Q (F0 m 2211 ls [])) : W p l e room_1 (s.setDrawn d0) m ([.ref b] : List Value).toArray below meth c H locs cells slots Q (F0 m 1445 ls []) := by
  have hM := hM0.drawn d0
  have hw : Ws g (s.setDrawn d0) κ H locs := hw
  refine lv_aload_n hM.x hM.b dL_law_1445 rfl (lv_at hl 3 rfl) ?_
  refine lv_aload_n hM.x hM.b dL_law_1446 rfl (lv_at hl 4 rfl) ?_
  refine lv_iload hM.x hM.b dL_law_1447 (lv_at hl 0 rfl) ?_
  refine lv_iconst (v := 1) hM.x hM.b dL_law_1449 (by decide) ?_
  refine k_iaddN (a := 3 * t) (b := 1) hM dL_law_1450 ?_
  refine k_sld (i := (3 * t + 1)) hM hX hbl hbA hw (by omega) hL2 dL_law_1451 ?_
  refine lv_aload_n hM.x hM.b dL_law_1452 rfl (lv_at hl 1 rfl) ?_
  refine k_ci hw (k_runSW [.ref (g.2.2 (0)), .int (xs ((3 * t + 1))), .ref (g.2.2 (98))] [] hM hw (m_L_poundsOf l g κ _ (xs ((3 * t + 1))) hlst) (k_gSW u_ml_L_207 u_st_L_poundsOf u_ini_L u_co_L_poundsOf) (q_L_poundsOf) rfl rfl rfl ⟨Nat.le_of_ble_eq_true rfl, Nat.le_of_ble_eq_true rfl⟩ hl.1 rfl (Nat.le_of_ble_eq_true rfl) dL_law_1453 ⟨(show _ ≤ 655566 by omega), (show _ ≤ 7129405 by omega)⟩) (fun r1 κ1 H locs hpκ1 hw => ?_)
  refine lv_istore (lv' := [(5, .int (r1)), (4, .int (nI (3 * t))), (3, .ref (g.2.2 (98))), (2, .ref (g.2.2 (91))), (1, .ref (g.2.2 (0))), (0, .ref b)]) hM.x hM.b dL_law_1456 hl (by decide) rfl (fun ls hl => ?_)
  refine lv_aload_n hM.x hM.b dL_law_1458 rfl (lv_at hl 3 rfl) ?_
  refine lv_aload_n hM.x hM.b dL_law_1459 rfl (lv_at hl 5 rfl) ?_
  refine lv_iload hM.x hM.b dL_law_1460 (lv_at hl 1 rfl) ?_
  refine lv_iconst (v := 1) hM.x hM.b dL_law_1462 (by decide) ?_
  refine k_iaddN (a := 3 * t) (b := 1) hM dL_law_1463 ?_
  refine k_sld (i := (3 * t + 1)) hM hX hbl hbA hw (by omega) hL2 dL_law_1464 ?_
  refine k_ci hw (k_runV [.int (xs ((3 * t + 1)))] [] hM hw (m_X5_poundsOf l g κ1 _ (xs ((3 * t + 1))) (hsim _ _ (by omega) hS _ _ hpκ1).1) (kd_lt kd_91 (by decide)) (sh5 kd_91) rfl (k_gV u_ml_L_209 u_im_X5_poundsOf u_se_X5_poundsOf u_ini_X5 u_co_X5_poundsOf) (q_X5_poundsOf) rfl rfl rfl ⟨Nat.le_of_ble_eq_true rfl, Nat.le_of_ble_eq_true rfl⟩ hl.1 rfl (Nat.le_of_ble_eq_true rfl) dL_law_1465 ⟨(show _ ≤ 655566 by omega), (show _ ≤ 7129405 by omega)⟩) (fun r2 κ2 H locs hpκ2 hw => ?_)
  refine lv_istore (lv' := [(6, .int (r2)), (5, .int (r1)), (4, .int (nI (3 * t))), (3, .ref (g.2.2 (98))), (2, .ref (g.2.2 (91))), (1, .ref (g.2.2 (0))), (0, .ref b)]) hM.x hM.b dL_law_1468 hl (by decide) rfl (fun ls hl => ?_)
  refine lv_aload_n hM.x hM.b dL_law_1470 rfl (lv_at hl 4 rfl) ?_
  refine k_cip hw (k_runV [] [] hM hw (m_X5_thrown l g κ2 _) (kd_lt kd_91 (by decide)) (sh5 kd_91) rfl (k_gV u_ml_L_125 u_im_X5_thrown u_se_X5_thrown u_ini_X5 u_co_X5_thrown) (q_X5_thrown) rfl rfl rfl ⟨Nat.le_of_ble_eq_true rfl, Nat.le_of_ble_eq_true rfl⟩ hl.1 rfl (Nat.le_of_ble_eq_true rfl) dL_law_1471 ⟨(show _ ≤ 655566 by omega), (show _ ≤ 7129405 by omega)⟩) (fun H locs hw => ?_)
  refine lv_iload hM.x hM.b dL_law_1474 (lv_at hl 1 rfl) ?_
  refine lv_icmp_eq (tgt := 1481) hM.x hM.b dL_law_1476 (by decide) (fun _ => ?_) (fun cz => absurd ((hsim _ _ (by omega) hS _ _ hpκ1).2 _ _ hpκ2).1 cz)
  refine lv_iload hM.x hM.b dL_law_1481 (lv_at hl 1 rfl) ?_
  refine lv_if_ne (tgt := 1498) hM.x hM.b dL_law_1483 (by decide) (fun c1 => ?_) (fun c1 => ?_)
  · skip
    refine lv_goto (tgt := 2211) hM.x hM.b dL_law_1498 (by decide) ?_
    refine W.widen (k := cells + 30) (n := slots + 200) (by omega) (by omega) ?_
    exact hx κ2 d0 H locs ls ((hsim _ _ (by omega) hS _ _ hpκ1).2 _ _ hpκ2).2.2 hd0 (lv_sub hl [2, 3, 4, 5, 6] rfl) hw
  · skip
    refine lv_aload_n hM.x hM.b dL_law_1486 rfl (lv_at hl 3 rfl) ?_
    refine lv_iconst (v := 0) hM.x hM.b dL_law_1487 (by decide) ?_
    refine k_lald hM hw dL_law_1488 ?_
    refine lv_iload hM.x hM.b dL_law_1489 (lv_at hl 0 rfl) ?_
    refine lv_i2l (v := (r2).toInt64) hM.x hM.b dL_law_1491 rfl ?_
    refine W.lcmp hM.x hM.b dL_law_1492 ?_
    refine lv_if_eq (tgt := 1498) hM.x hM.b dL_law_1493 (by decide) (fun _ => ?_) (fun cz => absurd (lgc32 (((hsim _ _ (by omega) hS _ _ hpκ1).2 _ _ hpκ2).2.1 c1)) cz)
    refine lv_goto (tgt := 2211) hM.x hM.b dL_law_1498 (by decide) ?_
    refine W.widen (k := cells + 30) (n := slots + 200) (by omega) (by omega) ?_
    exact hx κ2 d0 H locs ls ((hsim _ _ (by omega) hS _ _ hpκ1).2 _ _ hpκ2).2.2 hd0 (lv_sub hl [2, 3, 4, 5, 6] rfl) hw
set_option maxRecDepth 100000 in
set_option maxHeartbeats 4000000 in
theorem lc_spitOf {p : Program} {e : Env} {s : State} {m : MethodId} {below : List Frame} {meth : Method} {c : Code} {Q : State → Prop} (l : Launch) (hlst : l.stackTraces = false) (g : Gt) {b L t : Nat} {xs : Nat → Int32} {S : Nat → Kp → Prop} (hsim : SimOp S (fun κ => f_L_spitOf κ (xs (3 * t + 1))) (fun κ => f_X5_spitOf κ (xs (3 * t + 1)))) (hM0 : Mc g p s m ([.ref b] : List Value).toArray meth c cL_law 9 RL) (hX : va_X b L xs s s.heap) (hbl : b < s.heap.size) (hbA : ¬ fr g s.heap.size b) (hL : 3 * t + 3 ≤ L) (hL2 : L ≤ 1536) {cells slots : Nat} (hcl : cells + 30 ≤ 655566) (hsl : slots + 200 ≤ 7129405) (κ : Kp) (hS : S t κ) (d0 : Drawn) (hd0 : s.drawn.sameBut d0 lw_cs) (H : Heap) (locs : List Loc) (ls : Array Slot) (hl : lv_has ls 9 (lwL g b t)) (hw : Ws g s κ H locs) (hx : ∀ (κ2 : Kp) (d1 : Drawn) (H : Heap) (locs : List Loc) (ls : Array Slot), S (t + 1) κ2 → s.drawn.sameBut d1 lw_cs → lv_has ls 9 (lwL g b t) → Ws g s κ2 H locs → W p l e room_1 (s.setDrawn d1) m ([.ref b] : List Value).toArray below meth c H locs (cells + 30) (slots + 200) Q (F0 m 2211 ls [])) : W p l e room_1 (s.setDrawn d0) m ([.ref b] : List Value).toArray below meth c H locs cells slots Q (F0 m 1501 ls []) := by
  have hM := hM0.drawn d0
  have hw : Ws g (s.setDrawn d0) κ H locs := hw
  refine lv_aload_n hM.x hM.b dL_law_1501 rfl (lv_at hl 3 rfl) ?_
  refine lv_aload_n hM.x hM.b dL_law_1502 rfl (lv_at hl 4 rfl) ?_
  refine lv_iload hM.x hM.b dL_law_1503 (lv_at hl 0 rfl) ?_
  refine lv_iconst (v := 1) hM.x hM.b dL_law_1505 (by decide) ?_
  refine k_iaddN (a := 3 * t) (b := 1) hM dL_law_1506 ?_
  refine k_sld (i := (3 * t + 1)) hM hX hbl hbA hw (by omega) hL2 dL_law_1507 ?_
  refine lv_aload_n hM.x hM.b dL_law_1508 rfl (lv_at hl 1 rfl) ?_
  refine k_ci hw (k_runSW [.ref (g.2.2 (0)), .int (xs ((3 * t + 1))), .ref (g.2.2 (98))] [] hM hw (m_L_spitOf l g κ _ (xs ((3 * t + 1))) hlst) (k_gSW u_ml_L_210 u_st_L_spitOf u_ini_L u_co_L_spitOf) (q_L_spitOf) rfl rfl rfl ⟨Nat.le_of_ble_eq_true rfl, Nat.le_of_ble_eq_true rfl⟩ hl.1 rfl (Nat.le_of_ble_eq_true rfl) dL_law_1509 ⟨(show _ ≤ 655566 by omega), (show _ ≤ 7129405 by omega)⟩) (fun r1 κ1 H locs hpκ1 hw => ?_)
  refine lv_istore (lv' := [(5, .int (r1)), (4, .int (nI (3 * t))), (3, .ref (g.2.2 (98))), (2, .ref (g.2.2 (91))), (1, .ref (g.2.2 (0))), (0, .ref b)]) hM.x hM.b dL_law_1512 hl (by decide) rfl (fun ls hl => ?_)
  refine lv_aload_n hM.x hM.b dL_law_1514 rfl (lv_at hl 3 rfl) ?_
  refine lv_aload_n hM.x hM.b dL_law_1515 rfl (lv_at hl 5 rfl) ?_
  refine lv_iload hM.x hM.b dL_law_1516 (lv_at hl 1 rfl) ?_
  refine lv_iconst (v := 1) hM.x hM.b dL_law_1518 (by decide) ?_
  refine k_iaddN (a := 3 * t) (b := 1) hM dL_law_1519 ?_
  refine k_sld (i := (3 * t + 1)) hM hX hbl hbA hw (by omega) hL2 dL_law_1520 ?_
  refine k_ci hw (k_runV [.int (xs ((3 * t + 1)))] [] hM hw (m_X5_spitOf l g κ1 _ (xs ((3 * t + 1))) (hsim _ _ (by omega) hS _ _ hpκ1).1) (kd_lt kd_91 (by decide)) (sh5 kd_91) rfl (k_gV u_ml_L_212 u_im_X5_spitOf u_se_X5_spitOf u_ini_X5 u_co_X5_spitOf) (q_X5_spitOf) rfl rfl rfl ⟨Nat.le_of_ble_eq_true rfl, Nat.le_of_ble_eq_true rfl⟩ hl.1 rfl (Nat.le_of_ble_eq_true rfl) dL_law_1521 ⟨(show _ ≤ 655566 by omega), (show _ ≤ 7129405 by omega)⟩) (fun r2 κ2 H locs hpκ2 hw => ?_)
  refine lv_istore (lv' := [(6, .int (r2)), (5, .int (r1)), (4, .int (nI (3 * t))), (3, .ref (g.2.2 (98))), (2, .ref (g.2.2 (91))), (1, .ref (g.2.2 (0))), (0, .ref b)]) hM.x hM.b dL_law_1524 hl (by decide) rfl (fun ls hl => ?_)
  refine lv_aload_n hM.x hM.b dL_law_1526 rfl (lv_at hl 4 rfl) ?_
  refine k_cip hw (k_runV [] [] hM hw (m_X5_thrown l g κ2 _) (kd_lt kd_91 (by decide)) (sh5 kd_91) rfl (k_gV u_ml_L_125 u_im_X5_thrown u_se_X5_thrown u_ini_X5 u_co_X5_thrown) (q_X5_thrown) rfl rfl rfl ⟨Nat.le_of_ble_eq_true rfl, Nat.le_of_ble_eq_true rfl⟩ hl.1 rfl (Nat.le_of_ble_eq_true rfl) dL_law_1527 ⟨(show _ ≤ 655566 by omega), (show _ ≤ 7129405 by omega)⟩) (fun H locs hw => ?_)
  refine lv_iload hM.x hM.b dL_law_1530 (lv_at hl 1 rfl) ?_
  refine lv_icmp_eq (tgt := 1537) hM.x hM.b dL_law_1532 (by decide) (fun _ => ?_) (fun cz => absurd ((hsim _ _ (by omega) hS _ _ hpκ1).2 _ _ hpκ2).1 cz)
  refine lv_iload hM.x hM.b dL_law_1537 (lv_at hl 1 rfl) ?_
  refine lv_if_ne (tgt := 1554) hM.x hM.b dL_law_1539 (by decide) (fun c1 => ?_) (fun c1 => ?_)
  · skip
    refine lv_goto (tgt := 2211) hM.x hM.b dL_law_1554 (by decide) ?_
    refine W.widen (k := cells + 30) (n := slots + 200) (by omega) (by omega) ?_
    exact hx κ2 d0 H locs ls ((hsim _ _ (by omega) hS _ _ hpκ1).2 _ _ hpκ2).2.2 hd0 (lv_sub hl [2, 3, 4, 5, 6] rfl) hw
  · skip
    refine lv_aload_n hM.x hM.b dL_law_1542 rfl (lv_at hl 3 rfl) ?_
    refine lv_iconst (v := 0) hM.x hM.b dL_law_1543 (by decide) ?_
    refine k_lald hM hw dL_law_1544 ?_
    refine lv_iload hM.x hM.b dL_law_1545 (lv_at hl 0 rfl) ?_
    refine lv_i2l (v := (r2).toInt64) hM.x hM.b dL_law_1547 rfl ?_
    refine W.lcmp hM.x hM.b dL_law_1548 ?_
    refine lv_if_eq (tgt := 1554) hM.x hM.b dL_law_1549 (by decide) (fun _ => ?_) (fun cz => absurd (lgc32 (((hsim _ _ (by omega) hS _ _ hpκ1).2 _ _ hpκ2).2.1 c1)) cz)
    refine lv_goto (tgt := 2211) hM.x hM.b dL_law_1554 (by decide) ?_
    refine W.widen (k := cells + 30) (n := slots + 200) (by omega) (by omega) ?_
    exact hx κ2 d0 H locs ls ((hsim _ _ (by omega) hS _ _ hpκ1).2 _ _ hpκ2).2.2 hd0 (lv_sub hl [2, 3, 4, 5, 6] rfl) hw
set_option maxRecDepth 100000 in
set_option maxHeartbeats 4000000 in
theorem lc_sideToFire {p : Program} {e : Env} {s : State} {m : MethodId} {below : List Frame} {meth : Method} {c : Code} {Q : State → Prop} (l : Launch) (hlst : l.stackTraces = false) (g : Gt) {b L t : Nat} {xs : Nat → Int32} {S : Nat → Kp → Prop} (hsim : SimOp S (fun κ => f_L_sideToFire κ (xs (3 * t + 1))) (fun κ => f_X5_sideToFire κ (xs (3 * t + 1)))) (hM0 : Mc g p s m ([.ref b] : List Value).toArray meth c cL_law 9 RL) (hX : va_X b L xs s s.heap) (hbl : b < s.heap.size) (hbA : ¬ fr g s.heap.size b) (hL : 3 * t + 3 ≤ L) (hL2 : L ≤ 1536) {cells slots : Nat} (hcl : cells + 30 ≤ 655566) (hsl : slots + 200 ≤ 7129405) (κ : Kp) (hS : S t κ) (d0 : Drawn) (hd0 : s.drawn.sameBut d0 lw_cs) (H : Heap) (locs : List Loc) (ls : Array Slot) (hl : lv_has ls 9 (lwL g b t)) (hw : Ws g s κ H locs) (hx : ∀ (κ2 : Kp) (d1 : Drawn) (H : Heap) (locs : List Loc) (ls : Array Slot), S (t + 1) κ2 → s.drawn.sameBut d1 lw_cs → lv_has ls 9 (lwL g b t) → Ws g s κ2 H locs → W p l e room_1 (s.setDrawn d1) m ([.ref b] : List Value).toArray below meth c H locs (cells + 30) (slots + 200) Q (F0 m 2211 ls [])) : W p l e room_1 (s.setDrawn d0) m ([.ref b] : List Value).toArray below meth c H locs cells slots Q (F0 m 1557 ls []) := by
  have hM := hM0.drawn d0
  have hw : Ws g (s.setDrawn d0) κ H locs := hw
  refine lv_aload_n hM.x hM.b dL_law_1557 rfl (lv_at hl 3 rfl) ?_
  refine lv_aload_n hM.x hM.b dL_law_1558 rfl (lv_at hl 4 rfl) ?_
  refine lv_iload hM.x hM.b dL_law_1559 (lv_at hl 0 rfl) ?_
  refine lv_iconst (v := 1) hM.x hM.b dL_law_1561 (by decide) ?_
  refine k_iaddN (a := 3 * t) (b := 1) hM dL_law_1562 ?_
  refine k_sld (i := (3 * t + 1)) hM hX hbl hbA hw (by omega) hL2 dL_law_1563 ?_
  refine lv_aload_n hM.x hM.b dL_law_1564 rfl (lv_at hl 1 rfl) ?_
  refine k_ci hw (k_runSW [.ref (g.2.2 (0)), .int (xs ((3 * t + 1))), .ref (g.2.2 (98))] [] hM hw (m_L_sideToFire l g κ _ (xs ((3 * t + 1))) hlst) (k_gSW u_ml_L_213 u_st_L_sideToFire u_ini_L u_co_L_sideToFire) (q_L_sideToFire) rfl rfl rfl ⟨Nat.le_of_ble_eq_true rfl, Nat.le_of_ble_eq_true rfl⟩ hl.1 rfl (Nat.le_of_ble_eq_true rfl) dL_law_1565 ⟨(show _ ≤ 655566 by omega), (show _ ≤ 7129405 by omega)⟩) (fun r1 κ1 H locs hpκ1 hw => ?_)
  refine lv_istore (lv' := [(5, .int (r1)), (4, .int (nI (3 * t))), (3, .ref (g.2.2 (98))), (2, .ref (g.2.2 (91))), (1, .ref (g.2.2 (0))), (0, .ref b)]) hM.x hM.b dL_law_1568 hl (by decide) rfl (fun ls hl => ?_)
  refine lv_aload_n hM.x hM.b dL_law_1570 rfl (lv_at hl 3 rfl) ?_
  refine lv_aload_n hM.x hM.b dL_law_1571 rfl (lv_at hl 5 rfl) ?_
  refine lv_iload hM.x hM.b dL_law_1572 (lv_at hl 1 rfl) ?_
  refine lv_iconst (v := 1) hM.x hM.b dL_law_1574 (by decide) ?_
  refine k_iaddN (a := 3 * t) (b := 1) hM dL_law_1575 ?_
  refine k_sld (i := (3 * t + 1)) hM hX hbl hbA hw (by omega) hL2 dL_law_1576 ?_
  refine k_ci hw (k_runV [.int (xs ((3 * t + 1)))] [] hM hw (m_X5_sideToFire l g κ1 _ (xs ((3 * t + 1))) (hsim _ _ (by omega) hS _ _ hpκ1).1) (kd_lt kd_91 (by decide)) (sh5 kd_91) rfl (k_gV u_ml_L_215 u_im_X5_sideToFire u_se_X5_sideToFire u_ini_X5 u_co_X5_sideToFire) (q_X5_sideToFire) rfl rfl rfl ⟨Nat.le_of_ble_eq_true rfl, Nat.le_of_ble_eq_true rfl⟩ hl.1 rfl (Nat.le_of_ble_eq_true rfl) dL_law_1577 ⟨(show _ ≤ 655566 by omega), (show _ ≤ 7129405 by omega)⟩) (fun r2 κ2 H locs hpκ2 hw => ?_)
  refine lv_istore (lv' := [(6, .int (r2)), (5, .int (r1)), (4, .int (nI (3 * t))), (3, .ref (g.2.2 (98))), (2, .ref (g.2.2 (91))), (1, .ref (g.2.2 (0))), (0, .ref b)]) hM.x hM.b dL_law_1580 hl (by decide) rfl (fun ls hl => ?_)
  refine lv_aload_n hM.x hM.b dL_law_1582 rfl (lv_at hl 4 rfl) ?_
  refine k_cip hw (k_runV [] [] hM hw (m_X5_thrown l g κ2 _) (kd_lt kd_91 (by decide)) (sh5 kd_91) rfl (k_gV u_ml_L_125 u_im_X5_thrown u_se_X5_thrown u_ini_X5 u_co_X5_thrown) (q_X5_thrown) rfl rfl rfl ⟨Nat.le_of_ble_eq_true rfl, Nat.le_of_ble_eq_true rfl⟩ hl.1 rfl (Nat.le_of_ble_eq_true rfl) dL_law_1583 ⟨(show _ ≤ 655566 by omega), (show _ ≤ 7129405 by omega)⟩) (fun H locs hw => ?_)
  refine lv_iload hM.x hM.b dL_law_1586 (lv_at hl 1 rfl) ?_
  refine lv_icmp_eq (tgt := 1593) hM.x hM.b dL_law_1588 (by decide) (fun _ => ?_) (fun cz => absurd ((hsim _ _ (by omega) hS _ _ hpκ1).2 _ _ hpκ2).1 cz)
  refine lv_iload hM.x hM.b dL_law_1593 (lv_at hl 1 rfl) ?_
  refine lv_if_ne (tgt := 1610) hM.x hM.b dL_law_1595 (by decide) (fun c1 => ?_) (fun c1 => ?_)
  · skip
    refine lv_goto (tgt := 2211) hM.x hM.b dL_law_1610 (by decide) ?_
    refine W.widen (k := cells + 30) (n := slots + 200) (by omega) (by omega) ?_
    exact hx κ2 d0 H locs ls ((hsim _ _ (by omega) hS _ _ hpκ1).2 _ _ hpκ2).2.2 hd0 (lv_sub hl [2, 3, 4, 5, 6] rfl) hw
  · skip
    refine lv_aload_n hM.x hM.b dL_law_1598 rfl (lv_at hl 3 rfl) ?_
    refine lv_iconst (v := 0) hM.x hM.b dL_law_1599 (by decide) ?_
    refine k_lald hM hw dL_law_1600 ?_
    refine lv_iload hM.x hM.b dL_law_1601 (lv_at hl 0 rfl) ?_
    refine lv_i2l (v := (r2).toInt64) hM.x hM.b dL_law_1603 rfl ?_
    refine W.lcmp hM.x hM.b dL_law_1604 ?_
    refine lv_if_eq (tgt := 1610) hM.x hM.b dL_law_1605 (by decide) (fun _ => ?_) (fun cz => absurd (lgc32 (((hsim _ _ (by omega) hS _ _ hpκ1).2 _ _ hpκ2).2.1 c1)) cz)
    refine lv_goto (tgt := 2211) hM.x hM.b dL_law_1610 (by decide) ?_
    refine W.widen (k := cells + 30) (n := slots + 200) (by omega) (by omega) ?_
    exact hx κ2 d0 H locs ls ((hsim _ _ (by omega) hS _ _ hpκ1).2 _ _ hpκ2).2.2 hd0 (lv_sub hl [2, 3, 4, 5, 6] rfl) hw
set_option maxRecDepth 100000 in
set_option maxHeartbeats 4000000 in
theorem lc_brownOf {p : Program} {e : Env} {s : State} {m : MethodId} {below : List Frame} {meth : Method} {c : Code} {Q : State → Prop} (l : Launch) (hlst : l.stackTraces = false) (g : Gt) {b L t : Nat} {xs : Nat → Int32} {S : Nat → Kp → Prop} (hsim : SimOp S (fun κ => f_L_brownOf κ (xs (3 * t + 1)) (xs (3 * t + 2))) (fun κ => f_X5_brownOf κ (xs (3 * t + 1)) (xs (3 * t + 2)))) (hM0 : Mc g p s m ([.ref b] : List Value).toArray meth c cL_law 9 RL) (hX : va_X b L xs s s.heap) (hbl : b < s.heap.size) (hbA : ¬ fr g s.heap.size b) (hL : 3 * t + 3 ≤ L) (hL2 : L ≤ 1536) {cells slots : Nat} (hcl : cells + 30 ≤ 655566) (hsl : slots + 200 ≤ 7129405) (κ : Kp) (hS : S t κ) (d0 : Drawn) (hd0 : s.drawn.sameBut d0 lw_cs) (H : Heap) (locs : List Loc) (ls : Array Slot) (hl : lv_has ls 9 (lwL g b t)) (hw : Ws g s κ H locs) (hx : ∀ (κ2 : Kp) (d1 : Drawn) (H : Heap) (locs : List Loc) (ls : Array Slot), S (t + 1) κ2 → s.drawn.sameBut d1 lw_cs → lv_has ls 9 (lwL g b t) → Ws g s κ2 H locs → W p l e room_1 (s.setDrawn d1) m ([.ref b] : List Value).toArray below meth c H locs (cells + 30) (slots + 200) Q (F0 m 2211 ls [])) : W p l e room_1 (s.setDrawn d0) m ([.ref b] : List Value).toArray below meth c H locs cells slots Q (F0 m 1613 ls []) := by
  have hM := hM0.drawn d0
  have hw : Ws g (s.setDrawn d0) κ H locs := hw
  refine lv_aload_n hM.x hM.b dL_law_1613 rfl (lv_at hl 3 rfl) ?_
  refine lv_aload_n hM.x hM.b dL_law_1614 rfl (lv_at hl 4 rfl) ?_
  refine lv_iload hM.x hM.b dL_law_1615 (lv_at hl 0 rfl) ?_
  refine lv_iconst (v := 1) hM.x hM.b dL_law_1617 (by decide) ?_
  refine k_iaddN (a := 3 * t) (b := 1) hM dL_law_1618 ?_
  refine k_sld (i := (3 * t + 1)) hM hX hbl hbA hw (by omega) hL2 dL_law_1619 ?_
  refine lv_aload_n hM.x hM.b dL_law_1620 rfl (lv_at hl 4 rfl) ?_
  refine lv_iload hM.x hM.b dL_law_1621 (lv_at hl 0 rfl) ?_
  refine lv_iconst (v := 2) hM.x hM.b dL_law_1623 (by decide) ?_
  refine k_iaddN (a := 3 * t) (b := 2) hM dL_law_1624 ?_
  refine k_sld (i := (3 * t + 2)) hM hX hbl hbA hw (by omega) hL2 dL_law_1625 ?_
  refine lv_aload_n hM.x hM.b dL_law_1626 rfl (lv_at hl 1 rfl) ?_
  refine k_ci hw (k_runSW [.ref (g.2.2 (0)), .int (xs ((3 * t + 1))), .int (xs ((3 * t + 2))), .ref (g.2.2 (98))] [] hM hw (m_L_brownOf l g κ _ (xs ((3 * t + 1))) (xs ((3 * t + 2))) hlst) (k_gSW u_ml_L_216 u_st_L_brownOf u_ini_L u_co_L_brownOf) (q_L_brownOf) rfl rfl rfl ⟨Nat.le_of_ble_eq_true rfl, Nat.le_of_ble_eq_true rfl⟩ hl.1 rfl (Nat.le_of_ble_eq_true rfl) dL_law_1627 ⟨(show _ ≤ 655566 by omega), (show _ ≤ 7129405 by omega)⟩) (fun r1 κ1 H locs hpκ1 hw => ?_)
  refine lv_istore (lv' := [(5, .int (r1)), (4, .int (nI (3 * t))), (3, .ref (g.2.2 (98))), (2, .ref (g.2.2 (91))), (1, .ref (g.2.2 (0))), (0, .ref b)]) hM.x hM.b dL_law_1630 hl (by decide) rfl (fun ls hl => ?_)
  refine lv_aload_n hM.x hM.b dL_law_1632 rfl (lv_at hl 3 rfl) ?_
  refine lv_aload_n hM.x hM.b dL_law_1633 rfl (lv_at hl 5 rfl) ?_
  refine lv_iload hM.x hM.b dL_law_1634 (lv_at hl 1 rfl) ?_
  refine lv_iconst (v := 1) hM.x hM.b dL_law_1636 (by decide) ?_
  refine k_iaddN (a := 3 * t) (b := 1) hM dL_law_1637 ?_
  refine k_sld (i := (3 * t + 1)) hM hX hbl hbA hw (by omega) hL2 dL_law_1638 ?_
  refine lv_aload_n hM.x hM.b dL_law_1639 rfl (lv_at hl 5 rfl) ?_
  refine lv_iload hM.x hM.b dL_law_1640 (lv_at hl 1 rfl) ?_
  refine lv_iconst (v := 2) hM.x hM.b dL_law_1642 (by decide) ?_
  refine k_iaddN (a := 3 * t) (b := 2) hM dL_law_1643 ?_
  refine k_sld (i := (3 * t + 2)) hM hX hbl hbA hw (by omega) hL2 dL_law_1644 ?_
  refine k_ci hw (k_runV [.int (xs ((3 * t + 1))), .int (xs ((3 * t + 2)))] [] hM hw (m_X5_brownOf l g κ1 _ (xs ((3 * t + 1))) (xs ((3 * t + 2))) (hsim _ _ (by omega) hS _ _ hpκ1).1) (kd_lt kd_91 (by decide)) (sh5 kd_91) rfl (k_gV u_ml_L_218 u_im_X5_brownOf u_se_X5_brownOf u_ini_X5 u_co_X5_brownOf) (q_X5_brownOf) rfl rfl rfl ⟨Nat.le_of_ble_eq_true rfl, Nat.le_of_ble_eq_true rfl⟩ hl.1 rfl (Nat.le_of_ble_eq_true rfl) dL_law_1645 ⟨(show _ ≤ 655566 by omega), (show _ ≤ 7129405 by omega)⟩) (fun r2 κ2 H locs hpκ2 hw => ?_)
  refine lv_istore (lv' := [(6, .int (r2)), (5, .int (r1)), (4, .int (nI (3 * t))), (3, .ref (g.2.2 (98))), (2, .ref (g.2.2 (91))), (1, .ref (g.2.2 (0))), (0, .ref b)]) hM.x hM.b dL_law_1648 hl (by decide) rfl (fun ls hl => ?_)
  refine lv_aload_n hM.x hM.b dL_law_1650 rfl (lv_at hl 4 rfl) ?_
  refine k_cip hw (k_runV [] [] hM hw (m_X5_thrown l g κ2 _) (kd_lt kd_91 (by decide)) (sh5 kd_91) rfl (k_gV u_ml_L_125 u_im_X5_thrown u_se_X5_thrown u_ini_X5 u_co_X5_thrown) (q_X5_thrown) rfl rfl rfl ⟨Nat.le_of_ble_eq_true rfl, Nat.le_of_ble_eq_true rfl⟩ hl.1 rfl (Nat.le_of_ble_eq_true rfl) dL_law_1651 ⟨(show _ ≤ 655566 by omega), (show _ ≤ 7129405 by omega)⟩) (fun H locs hw => ?_)
  refine lv_iload hM.x hM.b dL_law_1654 (lv_at hl 1 rfl) ?_
  refine lv_icmp_eq (tgt := 1661) hM.x hM.b dL_law_1656 (by decide) (fun _ => ?_) (fun cz => absurd ((hsim _ _ (by omega) hS _ _ hpκ1).2 _ _ hpκ2).1 cz)
  refine lv_iload hM.x hM.b dL_law_1661 (lv_at hl 1 rfl) ?_
  refine lv_if_ne (tgt := 1678) hM.x hM.b dL_law_1663 (by decide) (fun c1 => ?_) (fun c1 => ?_)
  · skip
    refine lv_goto (tgt := 2211) hM.x hM.b dL_law_1678 (by decide) ?_
    refine W.widen (k := cells + 30) (n := slots + 200) (by omega) (by omega) ?_
    exact hx κ2 d0 H locs ls ((hsim _ _ (by omega) hS _ _ hpκ1).2 _ _ hpκ2).2.2 hd0 (lv_sub hl [2, 3, 4, 5, 6] rfl) hw
  · skip
    refine lv_aload_n hM.x hM.b dL_law_1666 rfl (lv_at hl 3 rfl) ?_
    refine lv_iconst (v := 0) hM.x hM.b dL_law_1667 (by decide) ?_
    refine k_lald hM hw dL_law_1668 ?_
    refine lv_iload hM.x hM.b dL_law_1669 (lv_at hl 0 rfl) ?_
    refine lv_i2l (v := (r2).toInt64) hM.x hM.b dL_law_1671 rfl ?_
    refine W.lcmp hM.x hM.b dL_law_1672 ?_
    refine lv_if_eq (tgt := 1678) hM.x hM.b dL_law_1673 (by decide) (fun _ => ?_) (fun cz => absurd (lgc32 (((hsim _ _ (by omega) hS _ _ hpκ1).2 _ _ hpκ2).2.1 c1)) cz)
    refine lv_goto (tgt := 2211) hM.x hM.b dL_law_1678 (by decide) ?_
    refine W.widen (k := cells + 30) (n := slots + 200) (by omega) (by omega) ?_
    exact hx κ2 d0 H locs ls ((hsim _ _ (by omega) hS _ _ hpκ1).2 _ _ hpκ2).2.2 hd0 (lv_sub hl [2, 3, 4, 5, 6] rfl) hw
set_option maxRecDepth 100000 in
set_option maxHeartbeats 4000000 in
theorem lc_fatOf {p : Program} {e : Env} {s : State} {m : MethodId} {below : List Frame} {meth : Method} {c : Code} {Q : State → Prop} (l : Launch) (hlst : l.stackTraces = false) (g : Gt) {b L t : Nat} {xs : Nat → Int32} {S : Nat → Kp → Prop} (hsim : SimOp S (fun κ => f_L_fatOf κ (xs (3 * t + 1))) (fun κ => f_X5_fatOf κ (xs (3 * t + 1)))) (hM0 : Mc g p s m ([.ref b] : List Value).toArray meth c cL_law 9 RL) (hX : va_X b L xs s s.heap) (hbl : b < s.heap.size) (hbA : ¬ fr g s.heap.size b) (hL : 3 * t + 3 ≤ L) (hL2 : L ≤ 1536) {cells slots : Nat} (hcl : cells + 30 ≤ 655566) (hsl : slots + 200 ≤ 7129405) (κ : Kp) (hS : S t κ) (d0 : Drawn) (hd0 : s.drawn.sameBut d0 lw_cs) (H : Heap) (locs : List Loc) (ls : Array Slot) (hl : lv_has ls 9 (lwL g b t)) (hw : Ws g s κ H locs) (hx : ∀ (κ2 : Kp) (d1 : Drawn) (H : Heap) (locs : List Loc) (ls : Array Slot), S (t + 1) κ2 → s.drawn.sameBut d1 lw_cs → lv_has ls 9 (lwL g b t) → Ws g s κ2 H locs → W p l e room_1 (s.setDrawn d1) m ([.ref b] : List Value).toArray below meth c H locs (cells + 30) (slots + 200) Q (F0 m 2211 ls [])) : W p l e room_1 (s.setDrawn d0) m ([.ref b] : List Value).toArray below meth c H locs cells slots Q (F0 m 1681 ls []) := by
  have hM := hM0.drawn d0
  have hw : Ws g (s.setDrawn d0) κ H locs := hw
  refine lv_aload_n hM.x hM.b dL_law_1681 rfl (lv_at hl 3 rfl) ?_
  refine lv_aload_n hM.x hM.b dL_law_1682 rfl (lv_at hl 4 rfl) ?_
  refine lv_iload hM.x hM.b dL_law_1683 (lv_at hl 0 rfl) ?_
  refine lv_iconst (v := 1) hM.x hM.b dL_law_1685 (by decide) ?_
  refine k_iaddN (a := 3 * t) (b := 1) hM dL_law_1686 ?_
  refine k_sld (i := (3 * t + 1)) hM hX hbl hbA hw (by omega) hL2 dL_law_1687 ?_
  refine lv_aload_n hM.x hM.b dL_law_1688 rfl (lv_at hl 1 rfl) ?_
  refine k_ci hw (k_runSW [.ref (g.2.2 (0)), .int (xs ((3 * t + 1))), .ref (g.2.2 (98))] [] hM hw (m_L_fatOf l g κ _ (xs ((3 * t + 1))) hlst) (k_gSW u_ml_L_219 u_st_L_fatOf u_ini_L u_co_L_fatOf) (q_L_fatOf) rfl rfl rfl ⟨Nat.le_of_ble_eq_true rfl, Nat.le_of_ble_eq_true rfl⟩ hl.1 rfl (Nat.le_of_ble_eq_true rfl) dL_law_1689 ⟨(show _ ≤ 655566 by omega), (show _ ≤ 7129405 by omega)⟩) (fun r1 κ1 H locs hpκ1 hw => ?_)
  refine lv_istore (lv' := [(5, .int (r1)), (4, .int (nI (3 * t))), (3, .ref (g.2.2 (98))), (2, .ref (g.2.2 (91))), (1, .ref (g.2.2 (0))), (0, .ref b)]) hM.x hM.b dL_law_1692 hl (by decide) rfl (fun ls hl => ?_)
  refine lv_aload_n hM.x hM.b dL_law_1694 rfl (lv_at hl 3 rfl) ?_
  refine lv_aload_n hM.x hM.b dL_law_1695 rfl (lv_at hl 5 rfl) ?_
  refine lv_iload hM.x hM.b dL_law_1696 (lv_at hl 1 rfl) ?_
  refine lv_iconst (v := 1) hM.x hM.b dL_law_1698 (by decide) ?_
  refine k_iaddN (a := 3 * t) (b := 1) hM dL_law_1699 ?_
  refine k_sld (i := (3 * t + 1)) hM hX hbl hbA hw (by omega) hL2 dL_law_1700 ?_
  refine k_ci hw (k_runV [.int (xs ((3 * t + 1)))] [] hM hw (m_X5_fatOf l g κ1 _ (xs ((3 * t + 1))) (hsim _ _ (by omega) hS _ _ hpκ1).1) (kd_lt kd_91 (by decide)) (sh5 kd_91) rfl (k_gV u_ml_L_221 u_im_X5_fatOf u_se_X5_fatOf u_ini_X5 u_co_X5_fatOf) (q_X5_fatOf) rfl rfl rfl ⟨Nat.le_of_ble_eq_true rfl, Nat.le_of_ble_eq_true rfl⟩ hl.1 rfl (Nat.le_of_ble_eq_true rfl) dL_law_1701 ⟨(show _ ≤ 655566 by omega), (show _ ≤ 7129405 by omega)⟩) (fun r2 κ2 H locs hpκ2 hw => ?_)
  refine lv_istore (lv' := [(6, .int (r2)), (5, .int (r1)), (4, .int (nI (3 * t))), (3, .ref (g.2.2 (98))), (2, .ref (g.2.2 (91))), (1, .ref (g.2.2 (0))), (0, .ref b)]) hM.x hM.b dL_law_1704 hl (by decide) rfl (fun ls hl => ?_)
  refine lv_aload_n hM.x hM.b dL_law_1706 rfl (lv_at hl 4 rfl) ?_
  refine k_cip hw (k_runV [] [] hM hw (m_X5_thrown l g κ2 _) (kd_lt kd_91 (by decide)) (sh5 kd_91) rfl (k_gV u_ml_L_125 u_im_X5_thrown u_se_X5_thrown u_ini_X5 u_co_X5_thrown) (q_X5_thrown) rfl rfl rfl ⟨Nat.le_of_ble_eq_true rfl, Nat.le_of_ble_eq_true rfl⟩ hl.1 rfl (Nat.le_of_ble_eq_true rfl) dL_law_1707 ⟨(show _ ≤ 655566 by omega), (show _ ≤ 7129405 by omega)⟩) (fun H locs hw => ?_)
  refine lv_iload hM.x hM.b dL_law_1710 (lv_at hl 1 rfl) ?_
  refine lv_icmp_eq (tgt := 1717) hM.x hM.b dL_law_1712 (by decide) (fun _ => ?_) (fun cz => absurd ((hsim _ _ (by omega) hS _ _ hpκ1).2 _ _ hpκ2).1 cz)
  refine lv_iload hM.x hM.b dL_law_1717 (lv_at hl 1 rfl) ?_
  refine lv_if_ne (tgt := 1734) hM.x hM.b dL_law_1719 (by decide) (fun c1 => ?_) (fun c1 => ?_)
  · skip
    refine lv_goto (tgt := 2211) hM.x hM.b dL_law_1734 (by decide) ?_
    refine W.widen (k := cells + 30) (n := slots + 200) (by omega) (by omega) ?_
    exact hx κ2 d0 H locs ls ((hsim _ _ (by omega) hS _ _ hpκ1).2 _ _ hpκ2).2.2 hd0 (lv_sub hl [2, 3, 4, 5, 6] rfl) hw
  · skip
    refine lv_aload_n hM.x hM.b dL_law_1722 rfl (lv_at hl 3 rfl) ?_
    refine lv_iconst (v := 0) hM.x hM.b dL_law_1723 (by decide) ?_
    refine k_lald hM hw dL_law_1724 ?_
    refine lv_iload hM.x hM.b dL_law_1725 (lv_at hl 0 rfl) ?_
    refine lv_i2l (v := (r2).toInt64) hM.x hM.b dL_law_1727 rfl ?_
    refine W.lcmp hM.x hM.b dL_law_1728 ?_
    refine lv_if_eq (tgt := 1734) hM.x hM.b dL_law_1729 (by decide) (fun _ => ?_) (fun cz => absurd (lgc32 (((hsim _ _ (by omega) hS _ _ hpκ1).2 _ _ hpκ2).2.1 c1)) cz)
    refine lv_goto (tgt := 2211) hM.x hM.b dL_law_1734 (by decide) ?_
    refine W.widen (k := cells + 30) (n := slots + 200) (by omega) (by omega) ?_
    exact hx κ2 d0 H locs ls ((hsim _ _ (by omega) hS _ _ hpκ1).2 _ _ hpκ2).2.2 hd0 (lv_sub hl [2, 3, 4, 5, 6] rfl) hw
set_option maxRecDepth 100000 in
set_option maxHeartbeats 4000000 in
theorem lc_wetFor {p : Program} {e : Env} {s : State} {m : MethodId} {below : List Frame} {meth : Method} {c : Code} {Q : State → Prop} (l : Launch) (hlst : l.stackTraces = false) (g : Gt) {b L t : Nat} {xs : Nat → Int32} {S : Nat → Kp → Prop} (hsim : SimOp S (fun κ => f_L_wetFor κ (xs (3 * t + 1))) (fun κ => f_X5_wetFor κ (xs (3 * t + 1)))) (hM0 : Mc g p s m ([.ref b] : List Value).toArray meth c cL_law 9 RL) (hX : va_X b L xs s s.heap) (hbl : b < s.heap.size) (hbA : ¬ fr g s.heap.size b) (hL : 3 * t + 3 ≤ L) (hL2 : L ≤ 1536) {cells slots : Nat} (hcl : cells + 30 ≤ 655566) (hsl : slots + 200 ≤ 7129405) (κ : Kp) (hS : S t κ) (d0 : Drawn) (hd0 : s.drawn.sameBut d0 lw_cs) (H : Heap) (locs : List Loc) (ls : Array Slot) (hl : lv_has ls 9 (lwL g b t)) (hw : Ws g s κ H locs) (hx : ∀ (κ2 : Kp) (d1 : Drawn) (H : Heap) (locs : List Loc) (ls : Array Slot), S (t + 1) κ2 → s.drawn.sameBut d1 lw_cs → lv_has ls 9 (lwL g b t) → Ws g s κ2 H locs → W p l e room_1 (s.setDrawn d1) m ([.ref b] : List Value).toArray below meth c H locs (cells + 30) (slots + 200) Q (F0 m 2211 ls [])) : W p l e room_1 (s.setDrawn d0) m ([.ref b] : List Value).toArray below meth c H locs cells slots Q (F0 m 1737 ls []) := by
  have hM := hM0.drawn d0
  have hw : Ws g (s.setDrawn d0) κ H locs := hw
  refine lv_aload_n hM.x hM.b dL_law_1737 rfl (lv_at hl 3 rfl) ?_
  refine lv_aload_n hM.x hM.b dL_law_1738 rfl (lv_at hl 4 rfl) ?_
  refine lv_iload hM.x hM.b dL_law_1739 (lv_at hl 0 rfl) ?_
  refine lv_iconst (v := 1) hM.x hM.b dL_law_1741 (by decide) ?_
  refine k_iaddN (a := 3 * t) (b := 1) hM dL_law_1742 ?_
  refine k_sld (i := (3 * t + 1)) hM hX hbl hbA hw (by omega) hL2 dL_law_1743 ?_
  refine lv_aload_n hM.x hM.b dL_law_1744 rfl (lv_at hl 1 rfl) ?_
  refine k_ci hw (k_runSW [.ref (g.2.2 (0)), .int (xs ((3 * t + 1))), .ref (g.2.2 (98))] [] hM hw (m_L_wetFor l g κ _ (xs ((3 * t + 1))) hlst) (k_gSW u_ml_L_222 u_st_L_wetFor u_ini_L u_co_L_wetFor) (q_L_wetFor) rfl rfl rfl ⟨Nat.le_of_ble_eq_true rfl, Nat.le_of_ble_eq_true rfl⟩ hl.1 rfl (Nat.le_of_ble_eq_true rfl) dL_law_1745 ⟨(show _ ≤ 655566 by omega), (show _ ≤ 7129405 by omega)⟩) (fun r1 κ1 H locs hpκ1 hw => ?_)
  refine lv_istore (lv' := [(5, .int (r1)), (4, .int (nI (3 * t))), (3, .ref (g.2.2 (98))), (2, .ref (g.2.2 (91))), (1, .ref (g.2.2 (0))), (0, .ref b)]) hM.x hM.b dL_law_1748 hl (by decide) rfl (fun ls hl => ?_)
  refine lv_aload_n hM.x hM.b dL_law_1750 rfl (lv_at hl 3 rfl) ?_
  refine lv_aload_n hM.x hM.b dL_law_1751 rfl (lv_at hl 5 rfl) ?_
  refine lv_iload hM.x hM.b dL_law_1752 (lv_at hl 1 rfl) ?_
  refine lv_iconst (v := 1) hM.x hM.b dL_law_1754 (by decide) ?_
  refine k_iaddN (a := 3 * t) (b := 1) hM dL_law_1755 ?_
  refine k_sld (i := (3 * t + 1)) hM hX hbl hbA hw (by omega) hL2 dL_law_1756 ?_
  refine k_ci hw (k_runV [.int (xs ((3 * t + 1)))] [] hM hw (m_X5_wetFor l g κ1 _ (xs ((3 * t + 1))) (hsim _ _ (by omega) hS _ _ hpκ1).1) (kd_lt kd_91 (by decide)) (sh5 kd_91) rfl (k_gV u_ml_L_224 u_im_X5_wetFor u_se_X5_wetFor u_ini_X5 u_co_X5_wetFor) (q_X5_wetFor) rfl rfl rfl ⟨Nat.le_of_ble_eq_true rfl, Nat.le_of_ble_eq_true rfl⟩ hl.1 rfl (Nat.le_of_ble_eq_true rfl) dL_law_1757 ⟨(show _ ≤ 655566 by omega), (show _ ≤ 7129405 by omega)⟩) (fun r2 κ2 H locs hpκ2 hw => ?_)
  refine lv_istore (lv' := [(6, .int (r2)), (5, .int (r1)), (4, .int (nI (3 * t))), (3, .ref (g.2.2 (98))), (2, .ref (g.2.2 (91))), (1, .ref (g.2.2 (0))), (0, .ref b)]) hM.x hM.b dL_law_1760 hl (by decide) rfl (fun ls hl => ?_)
  refine lv_aload_n hM.x hM.b dL_law_1762 rfl (lv_at hl 4 rfl) ?_
  refine k_cip hw (k_runV [] [] hM hw (m_X5_thrown l g κ2 _) (kd_lt kd_91 (by decide)) (sh5 kd_91) rfl (k_gV u_ml_L_125 u_im_X5_thrown u_se_X5_thrown u_ini_X5 u_co_X5_thrown) (q_X5_thrown) rfl rfl rfl ⟨Nat.le_of_ble_eq_true rfl, Nat.le_of_ble_eq_true rfl⟩ hl.1 rfl (Nat.le_of_ble_eq_true rfl) dL_law_1763 ⟨(show _ ≤ 655566 by omega), (show _ ≤ 7129405 by omega)⟩) (fun H locs hw => ?_)
  refine lv_iload hM.x hM.b dL_law_1766 (lv_at hl 1 rfl) ?_
  refine lv_icmp_eq (tgt := 1773) hM.x hM.b dL_law_1768 (by decide) (fun _ => ?_) (fun cz => absurd ((hsim _ _ (by omega) hS _ _ hpκ1).2 _ _ hpκ2).1 cz)
  refine lv_iload hM.x hM.b dL_law_1773 (lv_at hl 1 rfl) ?_
  refine lv_if_ne (tgt := 1790) hM.x hM.b dL_law_1775 (by decide) (fun c1 => ?_) (fun c1 => ?_)
  · skip
    refine lv_goto (tgt := 2211) hM.x hM.b dL_law_1790 (by decide) ?_
    refine W.widen (k := cells + 30) (n := slots + 200) (by omega) (by omega) ?_
    exact hx κ2 d0 H locs ls ((hsim _ _ (by omega) hS _ _ hpκ1).2 _ _ hpκ2).2.2 hd0 (lv_sub hl [2, 3, 4, 5, 6] rfl) hw
  · skip
    refine lv_aload_n hM.x hM.b dL_law_1778 rfl (lv_at hl 3 rfl) ?_
    refine lv_iconst (v := 0) hM.x hM.b dL_law_1779 (by decide) ?_
    refine k_lald hM hw dL_law_1780 ?_
    refine lv_iload hM.x hM.b dL_law_1781 (lv_at hl 0 rfl) ?_
    refine lv_i2l (v := (r2).toInt64) hM.x hM.b dL_law_1783 rfl ?_
    refine W.lcmp hM.x hM.b dL_law_1784 ?_
    refine lv_if_eq (tgt := 1790) hM.x hM.b dL_law_1785 (by decide) (fun _ => ?_) (fun cz => absurd (lgc32 (((hsim _ _ (by omega) hS _ _ hpκ1).2 _ _ hpκ2).2.1 c1)) cz)
    refine lv_goto (tgt := 2211) hM.x hM.b dL_law_1790 (by decide) ?_
    refine W.widen (k := cells + 30) (n := slots + 200) (by omega) (by omega) ?_
    exact hx κ2 d0 H locs ls ((hsim _ _ (by omega) hS _ _ hpκ1).2 _ _ hpκ2).2.2 hd0 (lv_sub hl [2, 3, 4, 5, 6] rfl) hw
set_option maxRecDepth 100000 in
set_option maxHeartbeats 4000000 in
theorem lc_isDone {p : Program} {e : Env} {s : State} {m : MethodId} {below : List Frame} {meth : Method} {c : Code} {Q : State → Prop} (l : Launch) (hlst : l.stackTraces = false) (g : Gt) {b L t : Nat} {xs : Nat → Int32} {S : Nat → Kp → Prop} (hsim : SimOz S (fun κ => f_L_isDone κ (xs (3 * t + 1))) (fun κ => f_X5_isDone κ (xs (3 * t + 1)))) (hM0 : Mc g p s m ([.ref b] : List Value).toArray meth c cL_law 9 RL) (hX : va_X b L xs s s.heap) (hbl : b < s.heap.size) (hbA : ¬ fr g s.heap.size b) (hL : 3 * t + 3 ≤ L) (hL2 : L ≤ 1536) {cells slots : Nat} (hcl : cells + 30 ≤ 655566) (hsl : slots + 200 ≤ 7129405) (κ : Kp) (hS : S t κ) (d0 : Drawn) (hd0 : s.drawn.sameBut d0 lw_cs) (H : Heap) (locs : List Loc) (ls : Array Slot) (hl : lv_has ls 9 (lwL g b t)) (hw : Ws g s κ H locs) (hx : ∀ (κ2 : Kp) (d1 : Drawn) (H : Heap) (locs : List Loc) (ls : Array Slot), S (t + 1) κ2 → s.drawn.sameBut d1 lw_cs → lv_has ls 9 (lwL g b t) → Ws g s κ2 H locs → W p l e room_1 (s.setDrawn d1) m ([.ref b] : List Value).toArray below meth c H locs (cells + 30) (slots + 200) Q (F0 m 2211 ls [])) : W p l e room_1 (s.setDrawn d0) m ([.ref b] : List Value).toArray below meth c H locs cells slots Q (F0 m 1793 ls []) := by
  have hM := hM0.drawn d0
  have hw : Ws g (s.setDrawn d0) κ H locs := hw
  refine lv_aload_n hM.x hM.b dL_law_1793 rfl (lv_at hl 3 rfl) ?_
  refine lv_aload_n hM.x hM.b dL_law_1794 rfl (lv_at hl 4 rfl) ?_
  refine lv_iload hM.x hM.b dL_law_1795 (lv_at hl 0 rfl) ?_
  refine lv_iconst (v := 1) hM.x hM.b dL_law_1797 (by decide) ?_
  refine k_iaddN (a := 3 * t) (b := 1) hM dL_law_1798 ?_
  refine k_sld (i := (3 * t + 1)) hM hX hbl hbA hw (by omega) hL2 dL_law_1799 ?_
  refine lv_aload_n hM.x hM.b dL_law_1800 rfl (lv_at hl 1 rfl) ?_
  refine k_ci hw (k_runSW [.ref (g.2.2 (0)), .int (xs ((3 * t + 1))), .ref (g.2.2 (98))] [] hM hw (m_L_isDone l g κ _ (xs ((3 * t + 1))) hlst) (k_gSW u_ml_L_225 u_st_L_isDone u_ini_L u_co_L_isDone) (q_L_isDone) rfl rfl rfl ⟨Nat.le_of_ble_eq_true rfl, Nat.le_of_ble_eq_true rfl⟩ hl.1 rfl (Nat.le_of_ble_eq_true rfl) dL_law_1801 ⟨(show _ ≤ 655566 by omega), (show _ ≤ 7129405 by omega)⟩) (fun r1 κ1 H locs hpκ1 hw => ?_)
  refine lv_istore (lv' := [(5, .int (r1)), (4, .int (nI (3 * t))), (3, .ref (g.2.2 (98))), (2, .ref (g.2.2 (91))), (1, .ref (g.2.2 (0))), (0, .ref b)]) hM.x hM.b dL_law_1804 hl (by decide) rfl (fun ls hl => ?_)
  refine lv_aload_n hM.x hM.b dL_law_1806 rfl (lv_at hl 3 rfl) ?_
  refine lv_aload_n hM.x hM.b dL_law_1807 rfl (lv_at hl 5 rfl) ?_
  refine lv_iload hM.x hM.b dL_law_1808 (lv_at hl 1 rfl) ?_
  refine lv_iconst (v := 1) hM.x hM.b dL_law_1810 (by decide) ?_
  refine k_iaddN (a := 3 * t) (b := 1) hM dL_law_1811 ?_
  refine k_sld (i := (3 * t + 1)) hM hX hbl hbA hw (by omega) hL2 dL_law_1812 ?_
  refine k_ci hw (k_runV [.int (xs ((3 * t + 1)))] [] hM hw (m_X5_isDone l g κ1 _ (xs ((3 * t + 1))) (hsim.1 _ _ (by omega) hS _ _ hpκ1).1) (kd_lt kd_91 (by decide)) (sh5 kd_91) rfl (k_gV u_ml_L_227 u_im_X5_isDone u_se_X5_isDone u_ini_X5 u_co_X5_isDone) (q_X5_isDone) rfl rfl rfl ⟨Nat.le_of_ble_eq_true rfl, Nat.le_of_ble_eq_true rfl⟩ hl.1 rfl (Nat.le_of_ble_eq_true rfl) dL_law_1813 ⟨(show _ ≤ 655566 by omega), (show _ ≤ 7129405 by omega)⟩) (fun r2 κ2 H locs hpκ2 hw => ?_)
  refine lv_istore (lv' := [(6, .int (r2)), (5, .int (r1)), (4, .int (nI (3 * t))), (3, .ref (g.2.2 (98))), (2, .ref (g.2.2 (91))), (1, .ref (g.2.2 (0))), (0, .ref b)]) hM.x hM.b dL_law_1816 hl (by decide) rfl (fun ls hl => ?_)
  refine lv_aload_n hM.x hM.b dL_law_1818 rfl (lv_at hl 4 rfl) ?_
  refine k_cip hw (k_runV [] [] hM hw (m_X5_thrown l g κ2 _) (kd_lt kd_91 (by decide)) (sh5 kd_91) rfl (k_gV u_ml_L_125 u_im_X5_thrown u_se_X5_thrown u_ini_X5 u_co_X5_thrown) (q_X5_thrown) rfl rfl rfl ⟨Nat.le_of_ble_eq_true rfl, Nat.le_of_ble_eq_true rfl⟩ hl.1 rfl (Nat.le_of_ble_eq_true rfl) dL_law_1819 ⟨(show _ ≤ 655566 by omega), (show _ ≤ 7129405 by omega)⟩) (fun H locs hw => ?_)
  refine lv_iload hM.x hM.b dL_law_1822 (lv_at hl 1 rfl) ?_
  refine lv_icmp_eq (tgt := 1829) hM.x hM.b dL_law_1824 (by decide) (fun _ => ?_) (fun cz => absurd ((hsim.1 _ _ (by omega) hS _ _ hpκ1).2 _ _ hpκ2).1 cz)
  refine lv_iload hM.x hM.b dL_law_1829 (lv_at hl 1 rfl) ?_
  refine lv_if_ne (tgt := 1853) hM.x hM.b dL_law_1831 (by decide) (fun c1 => ?_) (fun c1 => ?_)
  · skip
    refine lv_goto (tgt := 2211) hM.x hM.b dL_law_1853 (by decide) ?_
    refine W.widen (k := cells + 30) (n := slots + 200) (by omega) (by omega) ?_
    exact hx κ2 d0 H locs ls ((hsim.1 _ _ (by omega) hS _ _ hpκ1).2 _ _ hpκ2).2.2 hd0 (lv_sub hl [2, 3, 4, 5, 6] rfl) hw
  · skip
    refine lv_aload_n hM.x hM.b dL_law_1834 rfl (lv_at hl 3 rfl) ?_
    refine lv_iconst (v := 0) hM.x hM.b dL_law_1835 (by decide) ?_
    refine k_lald hM hw dL_law_1836 ?_
    refine lv_iload hM.x hM.b dL_law_1837 (lv_at hl 0 rfl) ?_
    refine lv_if_eq (tgt := 1846) hM.x hM.b dL_law_1839 (by decide) (fun c2 => ?_) (fun c2 => ?_)
    · skip
      refine lv_lconst (v := 0) hM.x hM.b dL_law_1846 (by decide) ?_
      refine W.lcmp hM.x hM.b dL_law_1847 ?_
      refine lv_if_eq (tgt := 1853) hM.x hM.b dL_law_1848 (by decide) (fun _ => ?_) (fun cz => absurd (lgc_0 (((hsim.1 _ _ (by omega) hS _ _ hpκ1).2 _ _ hpκ2).2.1 c1) c2) cz)
      refine lv_goto (tgt := 2211) hM.x hM.b dL_law_1853 (by decide) ?_
      refine W.widen (k := cells + 30) (n := slots + 200) (by omega) (by omega) ?_
      exact hx κ2 d0 H locs ls ((hsim.1 _ _ (by omega) hS _ _ hpκ1).2 _ _ hpκ2).2.2 hd0 (lv_sub hl [2, 3, 4, 5, 6] rfl) hw
    · skip
      refine lv_lconst (v := 1) hM.x hM.b dL_law_1842 (by decide) ?_
      refine lv_goto (tgt := 1847) hM.x hM.b dL_law_1843 (by decide) ?_
      refine W.lcmp hM.x hM.b dL_law_1847 ?_
      refine lv_if_eq (tgt := 1853) hM.x hM.b dL_law_1848 (by decide) (fun _ => ?_) (fun cz => absurd (lgc_1 (((hsim.1 _ _ (by omega) hS _ _ hpκ1).2 _ _ hpκ2).2.1 c1) c2 (hsim.2 _ _ _ hpκ2)) cz)
      refine lv_goto (tgt := 2211) hM.x hM.b dL_law_1853 (by decide) ?_
      refine W.widen (k := cells + 30) (n := slots + 200) (by omega) (by omega) ?_
      exact hx κ2 d0 H locs ls ((hsim.1 _ _ (by omega) hS _ _ hpκ1).2 _ _ hpκ2).2.2 hd0 (lv_sub hl [2, 3, 4, 5, 6] rfl) hw
set_option maxRecDepth 100000 in
set_option maxHeartbeats 4000000 in
theorem lc_isBurnt {p : Program} {e : Env} {s : State} {m : MethodId} {below : List Frame} {meth : Method} {c : Code} {Q : State → Prop} (l : Launch) (hlst : l.stackTraces = false) (g : Gt) {b L t : Nat} {xs : Nat → Int32} {S : Nat → Kp → Prop} (hsim : SimOz S (fun κ => f_L_isBurnt κ (xs (3 * t + 1))) (fun κ => f_X5_isBurnt κ (xs (3 * t + 1)))) (hM0 : Mc g p s m ([.ref b] : List Value).toArray meth c cL_law 9 RL) (hX : va_X b L xs s s.heap) (hbl : b < s.heap.size) (hbA : ¬ fr g s.heap.size b) (hL : 3 * t + 3 ≤ L) (hL2 : L ≤ 1536) {cells slots : Nat} (hcl : cells + 30 ≤ 655566) (hsl : slots + 200 ≤ 7129405) (κ : Kp) (hS : S t κ) (d0 : Drawn) (hd0 : s.drawn.sameBut d0 lw_cs) (H : Heap) (locs : List Loc) (ls : Array Slot) (hl : lv_has ls 9 (lwL g b t)) (hw : Ws g s κ H locs) (hx : ∀ (κ2 : Kp) (d1 : Drawn) (H : Heap) (locs : List Loc) (ls : Array Slot), S (t + 1) κ2 → s.drawn.sameBut d1 lw_cs → lv_has ls 9 (lwL g b t) → Ws g s κ2 H locs → W p l e room_1 (s.setDrawn d1) m ([.ref b] : List Value).toArray below meth c H locs (cells + 30) (slots + 200) Q (F0 m 2211 ls [])) : W p l e room_1 (s.setDrawn d0) m ([.ref b] : List Value).toArray below meth c H locs cells slots Q (F0 m 1856 ls []) := by
  have hM := hM0.drawn d0
  have hw : Ws g (s.setDrawn d0) κ H locs := hw
  refine lv_aload_n hM.x hM.b dL_law_1856 rfl (lv_at hl 3 rfl) ?_
  refine lv_aload_n hM.x hM.b dL_law_1857 rfl (lv_at hl 4 rfl) ?_
  refine lv_iload hM.x hM.b dL_law_1858 (lv_at hl 0 rfl) ?_
  refine lv_iconst (v := 1) hM.x hM.b dL_law_1860 (by decide) ?_
  refine k_iaddN (a := 3 * t) (b := 1) hM dL_law_1861 ?_
  refine k_sld (i := (3 * t + 1)) hM hX hbl hbA hw (by omega) hL2 dL_law_1862 ?_
  refine lv_aload_n hM.x hM.b dL_law_1863 rfl (lv_at hl 1 rfl) ?_
  refine k_ci hw (k_runSW [.ref (g.2.2 (0)), .int (xs ((3 * t + 1))), .ref (g.2.2 (98))] [] hM hw (m_L_isBurnt l g κ _ (xs ((3 * t + 1))) hlst) (k_gSW u_ml_L_228 u_st_L_isBurnt u_ini_L u_co_L_isBurnt) (q_L_isBurnt) rfl rfl rfl ⟨Nat.le_of_ble_eq_true rfl, Nat.le_of_ble_eq_true rfl⟩ hl.1 rfl (Nat.le_of_ble_eq_true rfl) dL_law_1864 ⟨(show _ ≤ 655566 by omega), (show _ ≤ 7129405 by omega)⟩) (fun r1 κ1 H locs hpκ1 hw => ?_)
  refine lv_istore (lv' := [(5, .int (r1)), (4, .int (nI (3 * t))), (3, .ref (g.2.2 (98))), (2, .ref (g.2.2 (91))), (1, .ref (g.2.2 (0))), (0, .ref b)]) hM.x hM.b dL_law_1867 hl (by decide) rfl (fun ls hl => ?_)
  refine lv_aload_n hM.x hM.b dL_law_1869 rfl (lv_at hl 3 rfl) ?_
  refine lv_aload_n hM.x hM.b dL_law_1870 rfl (lv_at hl 5 rfl) ?_
  refine lv_iload hM.x hM.b dL_law_1871 (lv_at hl 1 rfl) ?_
  refine lv_iconst (v := 1) hM.x hM.b dL_law_1873 (by decide) ?_
  refine k_iaddN (a := 3 * t) (b := 1) hM dL_law_1874 ?_
  refine k_sld (i := (3 * t + 1)) hM hX hbl hbA hw (by omega) hL2 dL_law_1875 ?_
  refine k_ci hw (k_runV [.int (xs ((3 * t + 1)))] [] hM hw (m_X5_isBurnt l g κ1 _ (xs ((3 * t + 1))) (hsim.1 _ _ (by omega) hS _ _ hpκ1).1) (kd_lt kd_91 (by decide)) (sh5 kd_91) rfl (k_gV u_ml_L_230 u_im_X5_isBurnt u_se_X5_isBurnt u_ini_X5 u_co_X5_isBurnt) (q_X5_isBurnt) rfl rfl rfl ⟨Nat.le_of_ble_eq_true rfl, Nat.le_of_ble_eq_true rfl⟩ hl.1 rfl (Nat.le_of_ble_eq_true rfl) dL_law_1876 ⟨(show _ ≤ 655566 by omega), (show _ ≤ 7129405 by omega)⟩) (fun r2 κ2 H locs hpκ2 hw => ?_)
  refine lv_istore (lv' := [(6, .int (r2)), (5, .int (r1)), (4, .int (nI (3 * t))), (3, .ref (g.2.2 (98))), (2, .ref (g.2.2 (91))), (1, .ref (g.2.2 (0))), (0, .ref b)]) hM.x hM.b dL_law_1879 hl (by decide) rfl (fun ls hl => ?_)
  refine lv_aload_n hM.x hM.b dL_law_1881 rfl (lv_at hl 4 rfl) ?_
  refine k_cip hw (k_runV [] [] hM hw (m_X5_thrown l g κ2 _) (kd_lt kd_91 (by decide)) (sh5 kd_91) rfl (k_gV u_ml_L_125 u_im_X5_thrown u_se_X5_thrown u_ini_X5 u_co_X5_thrown) (q_X5_thrown) rfl rfl rfl ⟨Nat.le_of_ble_eq_true rfl, Nat.le_of_ble_eq_true rfl⟩ hl.1 rfl (Nat.le_of_ble_eq_true rfl) dL_law_1882 ⟨(show _ ≤ 655566 by omega), (show _ ≤ 7129405 by omega)⟩) (fun H locs hw => ?_)
  refine lv_iload hM.x hM.b dL_law_1885 (lv_at hl 1 rfl) ?_
  refine lv_icmp_eq (tgt := 1892) hM.x hM.b dL_law_1887 (by decide) (fun _ => ?_) (fun cz => absurd ((hsim.1 _ _ (by omega) hS _ _ hpκ1).2 _ _ hpκ2).1 cz)
  refine lv_iload hM.x hM.b dL_law_1892 (lv_at hl 1 rfl) ?_
  refine lv_if_ne (tgt := 1916) hM.x hM.b dL_law_1894 (by decide) (fun c1 => ?_) (fun c1 => ?_)
  · skip
    refine lv_goto (tgt := 2211) hM.x hM.b dL_law_1916 (by decide) ?_
    refine W.widen (k := cells + 30) (n := slots + 200) (by omega) (by omega) ?_
    exact hx κ2 d0 H locs ls ((hsim.1 _ _ (by omega) hS _ _ hpκ1).2 _ _ hpκ2).2.2 hd0 (lv_sub hl [2, 3, 4, 5, 6] rfl) hw
  · skip
    refine lv_aload_n hM.x hM.b dL_law_1897 rfl (lv_at hl 3 rfl) ?_
    refine lv_iconst (v := 0) hM.x hM.b dL_law_1898 (by decide) ?_
    refine k_lald hM hw dL_law_1899 ?_
    refine lv_iload hM.x hM.b dL_law_1900 (lv_at hl 0 rfl) ?_
    refine lv_if_eq (tgt := 1909) hM.x hM.b dL_law_1902 (by decide) (fun c2 => ?_) (fun c2 => ?_)
    · skip
      refine lv_lconst (v := 0) hM.x hM.b dL_law_1909 (by decide) ?_
      refine W.lcmp hM.x hM.b dL_law_1910 ?_
      refine lv_if_eq (tgt := 1916) hM.x hM.b dL_law_1911 (by decide) (fun _ => ?_) (fun cz => absurd (lgc_0 (((hsim.1 _ _ (by omega) hS _ _ hpκ1).2 _ _ hpκ2).2.1 c1) c2) cz)
      refine lv_goto (tgt := 2211) hM.x hM.b dL_law_1916 (by decide) ?_
      refine W.widen (k := cells + 30) (n := slots + 200) (by omega) (by omega) ?_
      exact hx κ2 d0 H locs ls ((hsim.1 _ _ (by omega) hS _ _ hpκ1).2 _ _ hpκ2).2.2 hd0 (lv_sub hl [2, 3, 4, 5, 6] rfl) hw
    · skip
      refine lv_lconst (v := 1) hM.x hM.b dL_law_1905 (by decide) ?_
      refine lv_goto (tgt := 1910) hM.x hM.b dL_law_1906 (by decide) ?_
      refine W.lcmp hM.x hM.b dL_law_1910 ?_
      refine lv_if_eq (tgt := 1916) hM.x hM.b dL_law_1911 (by decide) (fun _ => ?_) (fun cz => absurd (lgc_1 (((hsim.1 _ _ (by omega) hS _ _ hpκ1).2 _ _ hpκ2).2.1 c1) c2 (hsim.2 _ _ _ hpκ2)) cz)
      refine lv_goto (tgt := 2211) hM.x hM.b dL_law_1916 (by decide) ?_
      refine W.widen (k := cells + 30) (n := slots + 200) (by omega) (by omega) ?_
      exact hx κ2 d0 H locs ls ((hsim.1 _ _ (by omega) hS _ _ hpκ1).2 _ _ hpκ2).2.2 hd0 (lv_sub hl [2, 3, 4, 5, 6] rfl) hw
set_option maxRecDepth 100000 in
set_option maxHeartbeats 4000000 in
theorem lc_minutesUntilDone {p : Program} {e : Env} {s : State} {m : MethodId} {below : List Frame} {meth : Method} {c : Code} {Q : State → Prop} (l : Launch) (hlst : l.stackTraces = false) (g : Gt) {b L t : Nat} {xs : Nat → Int32} {S : Nat → Kp → Prop} (hsim : SimOp S (fun κ => f_L_minutesUntilDone κ (xs (3 * t + 1))) (fun κ => f_X5_minutesUntilDone κ (xs (3 * t + 1)))) (hM0 : Mc g p s m ([.ref b] : List Value).toArray meth c cL_law 9 RL) (hX : va_X b L xs s s.heap) (hbl : b < s.heap.size) (hbA : ¬ fr g s.heap.size b) (hL : 3 * t + 3 ≤ L) (hL2 : L ≤ 1536) {cells slots : Nat} (hcl : cells + 30 ≤ 655566) (hsl : slots + 200 ≤ 7129405) (κ : Kp) (hS : S t κ) (d0 : Drawn) (hd0 : s.drawn.sameBut d0 lw_cs) (H : Heap) (locs : List Loc) (ls : Array Slot) (hl : lv_has ls 9 (lwL g b t)) (hw : Ws g s κ H locs) (hx : ∀ (κ2 : Kp) (d1 : Drawn) (H : Heap) (locs : List Loc) (ls : Array Slot), S (t + 1) κ2 → s.drawn.sameBut d1 lw_cs → lv_has ls 9 (lwL g b t) → Ws g s κ2 H locs → W p l e room_1 (s.setDrawn d1) m ([.ref b] : List Value).toArray below meth c H locs (cells + 30) (slots + 200) Q (F0 m 2211 ls [])) : W p l e room_1 (s.setDrawn d0) m ([.ref b] : List Value).toArray below meth c H locs cells slots Q (F0 m 1919 ls []) := by
  have hM := hM0.drawn d0
  have hw : Ws g (s.setDrawn d0) κ H locs := hw
  refine lv_aload_n hM.x hM.b dL_law_1919 rfl (lv_at hl 3 rfl) ?_
  refine lv_aload_n hM.x hM.b dL_law_1920 rfl (lv_at hl 4 rfl) ?_
  refine lv_iload hM.x hM.b dL_law_1921 (lv_at hl 0 rfl) ?_
  refine lv_iconst (v := 1) hM.x hM.b dL_law_1923 (by decide) ?_
  refine k_iaddN (a := 3 * t) (b := 1) hM dL_law_1924 ?_
  refine k_sld (i := (3 * t + 1)) hM hX hbl hbA hw (by omega) hL2 dL_law_1925 ?_
  refine lv_aload_n hM.x hM.b dL_law_1926 rfl (lv_at hl 1 rfl) ?_
  refine k_ci hw (k_runSW [.ref (g.2.2 (0)), .int (xs ((3 * t + 1))), .ref (g.2.2 (98))] [] hM hw (m_L_minutesUntilDone l g κ _ (xs ((3 * t + 1))) hlst) (k_gSW u_ml_L_231 u_st_L_minutesUntilDone u_ini_L u_co_L_minutesUntilDone) (q_L_minutesUntilDone) rfl rfl rfl ⟨Nat.le_of_ble_eq_true rfl, Nat.le_of_ble_eq_true rfl⟩ hl.1 rfl (Nat.le_of_ble_eq_true rfl) dL_law_1927 ⟨(show _ ≤ 655566 by omega), (show _ ≤ 7129405 by omega)⟩) (fun r1 κ1 H locs hpκ1 hw => ?_)
  refine lv_istore (lv' := [(5, .int (r1)), (4, .int (nI (3 * t))), (3, .ref (g.2.2 (98))), (2, .ref (g.2.2 (91))), (1, .ref (g.2.2 (0))), (0, .ref b)]) hM.x hM.b dL_law_1930 hl (by decide) rfl (fun ls hl => ?_)
  refine lv_aload_n hM.x hM.b dL_law_1932 rfl (lv_at hl 3 rfl) ?_
  refine lv_aload_n hM.x hM.b dL_law_1933 rfl (lv_at hl 5 rfl) ?_
  refine lv_iload hM.x hM.b dL_law_1934 (lv_at hl 1 rfl) ?_
  refine lv_iconst (v := 1) hM.x hM.b dL_law_1936 (by decide) ?_
  refine k_iaddN (a := 3 * t) (b := 1) hM dL_law_1937 ?_
  refine k_sld (i := (3 * t + 1)) hM hX hbl hbA hw (by omega) hL2 dL_law_1938 ?_
  refine k_ci hw (k_runV [.int (xs ((3 * t + 1)))] [] hM hw (m_X5_minutesUntilDone l g κ1 _ (xs ((3 * t + 1))) (hsim _ _ (by omega) hS _ _ hpκ1).1) (kd_lt kd_91 (by decide)) (sh5 kd_91) rfl (k_gV u_ml_L_233 u_im_X5_minutesUntilDone u_se_X5_minutesUntilDone u_ini_X5 u_co_X5_minutesUntilDone) (q_X5_minutesUntilDone) rfl rfl rfl ⟨Nat.le_of_ble_eq_true rfl, Nat.le_of_ble_eq_true rfl⟩ hl.1 rfl (Nat.le_of_ble_eq_true rfl) dL_law_1939 ⟨(show _ ≤ 655566 by omega), (show _ ≤ 7129405 by omega)⟩) (fun r2 κ2 H locs hpκ2 hw => ?_)
  refine lv_istore (lv' := [(6, .int (r2)), (5, .int (r1)), (4, .int (nI (3 * t))), (3, .ref (g.2.2 (98))), (2, .ref (g.2.2 (91))), (1, .ref (g.2.2 (0))), (0, .ref b)]) hM.x hM.b dL_law_1942 hl (by decide) rfl (fun ls hl => ?_)
  refine lv_aload_n hM.x hM.b dL_law_1944 rfl (lv_at hl 4 rfl) ?_
  refine k_cip hw (k_runV [] [] hM hw (m_X5_thrown l g κ2 _) (kd_lt kd_91 (by decide)) (sh5 kd_91) rfl (k_gV u_ml_L_125 u_im_X5_thrown u_se_X5_thrown u_ini_X5 u_co_X5_thrown) (q_X5_thrown) rfl rfl rfl ⟨Nat.le_of_ble_eq_true rfl, Nat.le_of_ble_eq_true rfl⟩ hl.1 rfl (Nat.le_of_ble_eq_true rfl) dL_law_1945 ⟨(show _ ≤ 655566 by omega), (show _ ≤ 7129405 by omega)⟩) (fun H locs hw => ?_)
  refine lv_iload hM.x hM.b dL_law_1948 (lv_at hl 1 rfl) ?_
  refine lv_icmp_eq (tgt := 1955) hM.x hM.b dL_law_1950 (by decide) (fun _ => ?_) (fun cz => absurd ((hsim _ _ (by omega) hS _ _ hpκ1).2 _ _ hpκ2).1 cz)
  refine lv_iload hM.x hM.b dL_law_1955 (lv_at hl 1 rfl) ?_
  refine lv_if_ne (tgt := 1972) hM.x hM.b dL_law_1957 (by decide) (fun c1 => ?_) (fun c1 => ?_)
  · skip
    refine lv_goto (tgt := 2211) hM.x hM.b dL_law_1972 (by decide) ?_
    refine W.widen (k := cells + 30) (n := slots + 200) (by omega) (by omega) ?_
    exact hx κ2 d0 H locs ls ((hsim _ _ (by omega) hS _ _ hpκ1).2 _ _ hpκ2).2.2 hd0 (lv_sub hl [2, 3, 4, 5, 6] rfl) hw
  · skip
    refine lv_aload_n hM.x hM.b dL_law_1960 rfl (lv_at hl 3 rfl) ?_
    refine lv_iconst (v := 0) hM.x hM.b dL_law_1961 (by decide) ?_
    refine k_lald hM hw dL_law_1962 ?_
    refine lv_iload hM.x hM.b dL_law_1963 (lv_at hl 0 rfl) ?_
    refine lv_i2l (v := (r2).toInt64) hM.x hM.b dL_law_1965 rfl ?_
    refine W.lcmp hM.x hM.b dL_law_1966 ?_
    refine lv_if_eq (tgt := 1972) hM.x hM.b dL_law_1967 (by decide) (fun _ => ?_) (fun cz => absurd (lgc32 (((hsim _ _ (by omega) hS _ _ hpκ1).2 _ _ hpκ2).2.1 c1)) cz)
    refine lv_goto (tgt := 2211) hM.x hM.b dL_law_1972 (by decide) ?_
    refine W.widen (k := cells + 30) (n := slots + 200) (by omega) (by omega) ?_
    exact hx κ2 d0 H locs ls ((hsim _ _ (by omega) hS _ _ hpκ1).2 _ _ hpκ2).2.2 hd0 (lv_sub hl [2, 3, 4, 5, 6] rfl) hw
set_option maxRecDepth 100000 in
set_option maxHeartbeats 4000000 in
theorem lc_minutesUntilBurnt {p : Program} {e : Env} {s : State} {m : MethodId} {below : List Frame} {meth : Method} {c : Code} {Q : State → Prop} (l : Launch) (hlst : l.stackTraces = false) (g : Gt) {b L t : Nat} {xs : Nat → Int32} {S : Nat → Kp → Prop} (hsim : SimOp S (fun κ => f_L_minutesUntilBurnt κ (xs (3 * t + 1))) (fun κ => f_X5_minutesUntilBurnt κ (xs (3 * t + 1)))) (hM0 : Mc g p s m ([.ref b] : List Value).toArray meth c cL_law 9 RL) (hX : va_X b L xs s s.heap) (hbl : b < s.heap.size) (hbA : ¬ fr g s.heap.size b) (hL : 3 * t + 3 ≤ L) (hL2 : L ≤ 1536) {cells slots : Nat} (hcl : cells + 30 ≤ 655566) (hsl : slots + 200 ≤ 7129405) (κ : Kp) (hS : S t κ) (d0 : Drawn) (hd0 : s.drawn.sameBut d0 lw_cs) (H : Heap) (locs : List Loc) (ls : Array Slot) (hl : lv_has ls 9 (lwL g b t)) (hw : Ws g s κ H locs) (hx : ∀ (κ2 : Kp) (d1 : Drawn) (H : Heap) (locs : List Loc) (ls : Array Slot), S (t + 1) κ2 → s.drawn.sameBut d1 lw_cs → lv_has ls 9 (lwL g b t) → Ws g s κ2 H locs → W p l e room_1 (s.setDrawn d1) m ([.ref b] : List Value).toArray below meth c H locs (cells + 30) (slots + 200) Q (F0 m 2211 ls [])) : W p l e room_1 (s.setDrawn d0) m ([.ref b] : List Value).toArray below meth c H locs cells slots Q (F0 m 1975 ls []) := by
  have hM := hM0.drawn d0
  have hw : Ws g (s.setDrawn d0) κ H locs := hw
  refine lv_aload_n hM.x hM.b dL_law_1975 rfl (lv_at hl 3 rfl) ?_
  refine lv_aload_n hM.x hM.b dL_law_1976 rfl (lv_at hl 4 rfl) ?_
  refine lv_iload hM.x hM.b dL_law_1977 (lv_at hl 0 rfl) ?_
  refine lv_iconst (v := 1) hM.x hM.b dL_law_1979 (by decide) ?_
  refine k_iaddN (a := 3 * t) (b := 1) hM dL_law_1980 ?_
  refine k_sld (i := (3 * t + 1)) hM hX hbl hbA hw (by omega) hL2 dL_law_1981 ?_
  refine lv_aload_n hM.x hM.b dL_law_1982 rfl (lv_at hl 1 rfl) ?_
  refine k_ci hw (k_runSW [.ref (g.2.2 (0)), .int (xs ((3 * t + 1))), .ref (g.2.2 (98))] [] hM hw (m_L_minutesUntilBurnt l g κ _ (xs ((3 * t + 1))) hlst) (k_gSW u_ml_L_234 u_st_L_minutesUntilBurnt u_ini_L u_co_L_minutesUntilBurnt) (q_L_minutesUntilBurnt) rfl rfl rfl ⟨Nat.le_of_ble_eq_true rfl, Nat.le_of_ble_eq_true rfl⟩ hl.1 rfl (Nat.le_of_ble_eq_true rfl) dL_law_1983 ⟨(show _ ≤ 655566 by omega), (show _ ≤ 7129405 by omega)⟩) (fun r1 κ1 H locs hpκ1 hw => ?_)
  refine lv_istore (lv' := [(5, .int (r1)), (4, .int (nI (3 * t))), (3, .ref (g.2.2 (98))), (2, .ref (g.2.2 (91))), (1, .ref (g.2.2 (0))), (0, .ref b)]) hM.x hM.b dL_law_1986 hl (by decide) rfl (fun ls hl => ?_)
  refine lv_aload_n hM.x hM.b dL_law_1988 rfl (lv_at hl 3 rfl) ?_
  refine lv_aload_n hM.x hM.b dL_law_1989 rfl (lv_at hl 5 rfl) ?_
  refine lv_iload hM.x hM.b dL_law_1990 (lv_at hl 1 rfl) ?_
  refine lv_iconst (v := 1) hM.x hM.b dL_law_1992 (by decide) ?_
  refine k_iaddN (a := 3 * t) (b := 1) hM dL_law_1993 ?_
  refine k_sld (i := (3 * t + 1)) hM hX hbl hbA hw (by omega) hL2 dL_law_1994 ?_
  refine k_ci hw (k_runV [.int (xs ((3 * t + 1)))] [] hM hw (m_X5_minutesUntilBurnt l g κ1 _ (xs ((3 * t + 1))) (hsim _ _ (by omega) hS _ _ hpκ1).1) (kd_lt kd_91 (by decide)) (sh5 kd_91) rfl (k_gV u_ml_L_236 u_im_X5_minutesUntilBurnt u_se_X5_minutesUntilBurnt u_ini_X5 u_co_X5_minutesUntilBurnt) (q_X5_minutesUntilBurnt) rfl rfl rfl ⟨Nat.le_of_ble_eq_true rfl, Nat.le_of_ble_eq_true rfl⟩ hl.1 rfl (Nat.le_of_ble_eq_true rfl) dL_law_1995 ⟨(show _ ≤ 655566 by omega), (show _ ≤ 7129405 by omega)⟩) (fun r2 κ2 H locs hpκ2 hw => ?_)
  refine lv_istore (lv' := [(6, .int (r2)), (5, .int (r1)), (4, .int (nI (3 * t))), (3, .ref (g.2.2 (98))), (2, .ref (g.2.2 (91))), (1, .ref (g.2.2 (0))), (0, .ref b)]) hM.x hM.b dL_law_1998 hl (by decide) rfl (fun ls hl => ?_)
  refine lv_aload_n hM.x hM.b dL_law_2000 rfl (lv_at hl 4 rfl) ?_
  refine k_cip hw (k_runV [] [] hM hw (m_X5_thrown l g κ2 _) (kd_lt kd_91 (by decide)) (sh5 kd_91) rfl (k_gV u_ml_L_125 u_im_X5_thrown u_se_X5_thrown u_ini_X5 u_co_X5_thrown) (q_X5_thrown) rfl rfl rfl ⟨Nat.le_of_ble_eq_true rfl, Nat.le_of_ble_eq_true rfl⟩ hl.1 rfl (Nat.le_of_ble_eq_true rfl) dL_law_2001 ⟨(show _ ≤ 655566 by omega), (show _ ≤ 7129405 by omega)⟩) (fun H locs hw => ?_)
  refine lv_iload hM.x hM.b dL_law_2004 (lv_at hl 1 rfl) ?_
  refine lv_icmp_eq (tgt := 2011) hM.x hM.b dL_law_2006 (by decide) (fun _ => ?_) (fun cz => absurd ((hsim _ _ (by omega) hS _ _ hpκ1).2 _ _ hpκ2).1 cz)
  refine lv_iload hM.x hM.b dL_law_2011 (lv_at hl 1 rfl) ?_
  refine lv_if_ne (tgt := 2028) hM.x hM.b dL_law_2013 (by decide) (fun c1 => ?_) (fun c1 => ?_)
  · skip
    refine lv_goto (tgt := 2211) hM.x hM.b dL_law_2028 (by decide) ?_
    refine W.widen (k := cells + 30) (n := slots + 200) (by omega) (by omega) ?_
    exact hx κ2 d0 H locs ls ((hsim _ _ (by omega) hS _ _ hpκ1).2 _ _ hpκ2).2.2 hd0 (lv_sub hl [2, 3, 4, 5, 6] rfl) hw
  · skip
    refine lv_aload_n hM.x hM.b dL_law_2016 rfl (lv_at hl 3 rfl) ?_
    refine lv_iconst (v := 0) hM.x hM.b dL_law_2017 (by decide) ?_
    refine k_lald hM hw dL_law_2018 ?_
    refine lv_iload hM.x hM.b dL_law_2019 (lv_at hl 0 rfl) ?_
    refine lv_i2l (v := (r2).toInt64) hM.x hM.b dL_law_2021 rfl ?_
    refine W.lcmp hM.x hM.b dL_law_2022 ?_
    refine lv_if_eq (tgt := 2028) hM.x hM.b dL_law_2023 (by decide) (fun _ => ?_) (fun cz => absurd (lgc32 (((hsim _ _ (by omega) hS _ _ hpκ1).2 _ _ hpκ2).2.1 c1)) cz)
    refine lv_goto (tgt := 2211) hM.x hM.b dL_law_2028 (by decide) ?_
    refine W.widen (k := cells + 30) (n := slots + 200) (by omega) (by omega) ?_
    exact hx κ2 d0 H locs ls ((hsim _ _ (by omega) hS _ _ hpκ1).2 _ _ hpκ2).2.2 hd0 (lv_sub hl [2, 3, 4, 5, 6] rfl) hw
set_option maxRecDepth 100000 in
set_option maxHeartbeats 4000000 in
theorem lc_doneAtFeast {p : Program} {e : Env} {s : State} {m : MethodId} {below : List Frame} {meth : Method} {c : Code} {Q : State → Prop} (l : Launch) (hlst : l.stackTraces = false) (g : Gt) {b L t : Nat} {xs : Nat → Int32} {S : Nat → Kp → Prop} (hsim : SimFe S (fun κ => f_X4_doneAtFeast κ ) (fun κ => f_X5_doneAtFeast κ )) (hM0 : Mc g p s m ([.ref b] : List Value).toArray meth c cL_law 9 RL) (hX : va_X b L xs s s.heap) (hbl : b < s.heap.size) (hbA : ¬ fr g s.heap.size b) (hL : 3 * t + 3 ≤ L) (hL2 : L ≤ 1536) {cells slots : Nat} (hcl : cells + 30 ≤ 655566) (hsl : slots + 200 ≤ 7129405) (κ : Kp) (hS : S t κ) (d0 : Drawn) (hd0 : s.drawn.sameBut d0 lw_cs) (H : Heap) (locs : List Loc) (ls : Array Slot) (hl : lv_has ls 9 (lwL g b t)) (hw : Ws g s κ H locs) (hx : ∀ (κ2 : Kp) (d1 : Drawn) (H : Heap) (locs : List Loc) (ls : Array Slot), S (t + 1) κ2 → s.drawn.sameBut d1 lw_cs → lv_has ls 9 (lwL g b t) → Ws g s κ2 H locs → W p l e room_1 (s.setDrawn d1) m ([.ref b] : List Value).toArray below meth c H locs (cells + 30) (slots + 200) Q (F0 m 2211 ls [])) : W p l e room_1 (s.setDrawn d0) m ([.ref b] : List Value).toArray below meth c H locs cells slots Q (F0 m 2031 ls []) := by
  have hM := hM0.drawn d0
  have hw : Ws g (s.setDrawn d0) κ H locs := hw
  refine lv_aload_n hM.x hM.b dL_law_2031 rfl (lv_at hl 3 rfl) ?_
  refine k_ci hw (k_runV [] [] hM hw (m_X4_doneAtFeast l g κ _) (kd_lt kd_0 (by decide)) (sh4 kd_0) rfl (k_gV u_ml_L_237 u_im_X4_doneAtFeast u_se_X4_doneAtFeast u_ini_X4 u_co_X4_doneAtFeast) (q_X4_doneAtFeast) rfl rfl rfl ⟨Nat.le_of_ble_eq_true rfl, Nat.le_of_ble_eq_true rfl⟩ hl.1 rfl (Nat.le_of_ble_eq_true rfl) dL_law_2032 ⟨(show _ ≤ 655566 by omega), (show _ ≤ 7129405 by omega)⟩) (fun r1 κ1 H locs hpκ1 hw => ?_)
  refine lv_aload_n hM.x hM.b dL_law_2035 rfl (lv_at hl 2 rfl) ?_
  refine k_ci hw (k_runV [] [.int (r1)] hM hw (m_X5_doneAtFeast l g κ1 _ (hsim _ _ (by omega) hS _ _ hpκ1).1.1 (hsim _ _ (by omega) hS _ _ hpκ1).1.2.1 (hsim _ _ (by omega) hS _ _ hpκ1).1.2.2) (kd_lt kd_91 (by decide)) (sh5 kd_91) rfl (k_gV u_ml_L_240 u_im_X5_doneAtFeast u_se_X5_doneAtFeast u_ini_X5 u_co_X5_doneAtFeast) (q_X5_doneAtFeast) rfl rfl rfl ⟨Nat.le_of_ble_eq_true rfl, Nat.le_of_ble_eq_true rfl⟩ hl.1 rfl (Nat.le_of_ble_eq_true rfl) dL_law_2036 ⟨(show _ ≤ 655566 by omega), (show _ ≤ 7129405 by omega)⟩) (fun r2 κ2 H locs hpκ2 hw => ?_)
  refine lv_icmp_eq (tgt := 2211) hM.x hM.b dL_law_2039 (by decide) (fun _ => ?_) (fun cz => absurd ((hsim _ _ (by omega) hS _ _ hpκ1).2 _ _ hpκ2).1 cz)
  refine W.widen (k := cells + 30) (n := slots + 200) (by omega) (by omega) ?_
  exact hx κ2 d0 H locs ls ((hsim _ _ (by omega) hS _ _ hpκ1).2 _ _ hpκ2).2 hd0 (lv_sub hl [0, 1, 2, 3, 4] rfl) hw
set_option maxRecDepth 100000 in
set_option maxHeartbeats 4000000 in
theorem lc_bestEach {p : Program} {e : Env} {s : State} {m : MethodId} {below : List Frame} {meth : Method} {c : Code} {Q : State → Prop} (l : Launch) (hlst : l.stackTraces = false) (g : Gt) {b L t : Nat} {xs : Nat → Int32} {S : Nat → Kp → Prop} (hsim : SimOp S (fun κ => f_L_bestEach κ (xs (3 * t + 1))) (fun κ => f_X5_bestEach κ (xs (3 * t + 1)))) (hM0 : Mc g p s m ([.ref b] : List Value).toArray meth c cL_law 9 RL) (hX : va_X b L xs s s.heap) (hbl : b < s.heap.size) (hbA : ¬ fr g s.heap.size b) (hL : 3 * t + 3 ≤ L) (hL2 : L ≤ 1536) {cells slots : Nat} (hcl : cells + 30 ≤ 655566) (hsl : slots + 200 ≤ 7129405) (κ : Kp) (hS : S t κ) (d0 : Drawn) (hd0 : s.drawn.sameBut d0 lw_cs) (H : Heap) (locs : List Loc) (ls : Array Slot) (hl : lv_has ls 9 (lwL g b t)) (hw : Ws g s κ H locs) (hx : ∀ (κ2 : Kp) (d1 : Drawn) (H : Heap) (locs : List Loc) (ls : Array Slot), S (t + 1) κ2 → s.drawn.sameBut d1 lw_cs → lv_has ls 9 (lwL g b t) → Ws g s κ2 H locs → W p l e room_1 (s.setDrawn d1) m ([.ref b] : List Value).toArray below meth c H locs (cells + 30) (slots + 200) Q (F0 m 2211 ls [])) : W p l e room_1 (s.setDrawn d0) m ([.ref b] : List Value).toArray below meth c H locs cells slots Q (F0 m 2044 ls []) := by
  have hM := hM0.drawn d0
  have hw : Ws g (s.setDrawn d0) κ H locs := hw
  refine lv_aload_n hM.x hM.b dL_law_2044 rfl (lv_at hl 3 rfl) ?_
  refine lv_aload_n hM.x hM.b dL_law_2045 rfl (lv_at hl 4 rfl) ?_
  refine lv_iload hM.x hM.b dL_law_2046 (lv_at hl 0 rfl) ?_
  refine lv_iconst (v := 1) hM.x hM.b dL_law_2048 (by decide) ?_
  refine k_iaddN (a := 3 * t) (b := 1) hM dL_law_2049 ?_
  refine k_sld (i := (3 * t + 1)) hM hX hbl hbA hw (by omega) hL2 dL_law_2050 ?_
  refine lv_aload_n hM.x hM.b dL_law_2051 rfl (lv_at hl 1 rfl) ?_
  refine k_ci hw (k_runSW [.ref (g.2.2 (0)), .int (xs ((3 * t + 1))), .ref (g.2.2 (98))] [] hM hw (m_L_bestEach l g κ _ (xs ((3 * t + 1))) hlst) (k_gSW u_ml_L_241 u_st_L_bestEach u_ini_L u_co_L_bestEach) (q_L_bestEach) rfl rfl rfl ⟨Nat.le_of_ble_eq_true rfl, Nat.le_of_ble_eq_true rfl⟩ hl.1 rfl (Nat.le_of_ble_eq_true rfl) dL_law_2052 ⟨(show _ ≤ 655566 by omega), (show _ ≤ 7129405 by omega)⟩) (fun r1 κ1 H locs hpκ1 hw => ?_)
  refine lv_istore (lv' := [(5, .int (r1)), (4, .int (nI (3 * t))), (3, .ref (g.2.2 (98))), (2, .ref (g.2.2 (91))), (1, .ref (g.2.2 (0))), (0, .ref b)]) hM.x hM.b dL_law_2055 hl (by decide) rfl (fun ls hl => ?_)
  refine lv_aload_n hM.x hM.b dL_law_2057 rfl (lv_at hl 3 rfl) ?_
  refine lv_aload_n hM.x hM.b dL_law_2058 rfl (lv_at hl 5 rfl) ?_
  refine lv_iload hM.x hM.b dL_law_2059 (lv_at hl 1 rfl) ?_
  refine lv_iconst (v := 1) hM.x hM.b dL_law_2061 (by decide) ?_
  refine k_iaddN (a := 3 * t) (b := 1) hM dL_law_2062 ?_
  refine k_sld (i := (3 * t + 1)) hM hX hbl hbA hw (by omega) hL2 dL_law_2063 ?_
  refine k_ci hw (k_runV [.int (xs ((3 * t + 1)))] [] hM hw (m_X5_bestEach l g κ1 _ (xs ((3 * t + 1))) (hsim _ _ (by omega) hS _ _ hpκ1).1) (kd_lt kd_91 (by decide)) (sh5 kd_91) rfl (k_gV u_ml_L_243 u_im_X5_bestEach u_se_X5_bestEach u_ini_X5 u_co_X5_bestEach) (q_X5_bestEach) rfl rfl rfl ⟨Nat.le_of_ble_eq_true rfl, Nat.le_of_ble_eq_true rfl⟩ hl.1 rfl (Nat.le_of_ble_eq_true rfl) dL_law_2064 ⟨(show _ ≤ 655566 by omega), (show _ ≤ 7129405 by omega)⟩) (fun r2 κ2 H locs hpκ2 hw => ?_)
  refine lv_istore (lv' := [(6, .int (r2)), (5, .int (r1)), (4, .int (nI (3 * t))), (3, .ref (g.2.2 (98))), (2, .ref (g.2.2 (91))), (1, .ref (g.2.2 (0))), (0, .ref b)]) hM.x hM.b dL_law_2067 hl (by decide) rfl (fun ls hl => ?_)
  refine lv_aload_n hM.x hM.b dL_law_2069 rfl (lv_at hl 4 rfl) ?_
  refine k_cip hw (k_runV [] [] hM hw (m_X5_thrown l g κ2 _) (kd_lt kd_91 (by decide)) (sh5 kd_91) rfl (k_gV u_ml_L_125 u_im_X5_thrown u_se_X5_thrown u_ini_X5 u_co_X5_thrown) (q_X5_thrown) rfl rfl rfl ⟨Nat.le_of_ble_eq_true rfl, Nat.le_of_ble_eq_true rfl⟩ hl.1 rfl (Nat.le_of_ble_eq_true rfl) dL_law_2070 ⟨(show _ ≤ 655566 by omega), (show _ ≤ 7129405 by omega)⟩) (fun H locs hw => ?_)
  refine lv_iload hM.x hM.b dL_law_2073 (lv_at hl 1 rfl) ?_
  refine lv_icmp_eq (tgt := 2080) hM.x hM.b dL_law_2075 (by decide) (fun _ => ?_) (fun cz => absurd ((hsim _ _ (by omega) hS _ _ hpκ1).2 _ _ hpκ2).1 cz)
  refine lv_iload hM.x hM.b dL_law_2080 (lv_at hl 1 rfl) ?_
  refine lv_if_ne (tgt := 2097) hM.x hM.b dL_law_2082 (by decide) (fun c1 => ?_) (fun c1 => ?_)
  · skip
    refine lv_goto (tgt := 2211) hM.x hM.b dL_law_2097 (by decide) ?_
    refine W.widen (k := cells + 30) (n := slots + 200) (by omega) (by omega) ?_
    exact hx κ2 d0 H locs ls ((hsim _ _ (by omega) hS _ _ hpκ1).2 _ _ hpκ2).2.2 hd0 (lv_sub hl [2, 3, 4, 5, 6] rfl) hw
  · skip
    refine lv_aload_n hM.x hM.b dL_law_2085 rfl (lv_at hl 3 rfl) ?_
    refine lv_iconst (v := 0) hM.x hM.b dL_law_2086 (by decide) ?_
    refine k_lald hM hw dL_law_2087 ?_
    refine lv_iload hM.x hM.b dL_law_2088 (lv_at hl 0 rfl) ?_
    refine lv_i2l (v := (r2).toInt64) hM.x hM.b dL_law_2090 rfl ?_
    refine W.lcmp hM.x hM.b dL_law_2091 ?_
    refine lv_if_eq (tgt := 2097) hM.x hM.b dL_law_2092 (by decide) (fun _ => ?_) (fun cz => absurd (lgc32 (((hsim _ _ (by omega) hS _ _ hpκ1).2 _ _ hpκ2).2.1 c1)) cz)
    refine lv_goto (tgt := 2211) hM.x hM.b dL_law_2097 (by decide) ?_
    refine W.widen (k := cells + 30) (n := slots + 200) (by omega) (by omega) ?_
    exact hx κ2 d0 H locs ls ((hsim _ _ (by omega) hS _ _ hpκ1).2 _ _ hpκ2).2.2 hd0 (lv_sub hl [2, 3, 4, 5, 6] rfl) hw
set_option maxRecDepth 100000 in
set_option maxHeartbeats 4000000 in
theorem lc_bestSpit {p : Program} {e : Env} {s : State} {m : MethodId} {below : List Frame} {meth : Method} {c : Code} {Q : State → Prop} (l : Launch) (hlst : l.stackTraces = false) (g : Gt) {b L t : Nat} {xs : Nat → Int32} {S : Nat → Kp → Prop} (hsim : SimOp S (fun κ => f_L_bestSpit κ (xs (3 * t + 1))) (fun κ => f_X5_bestSpit κ (xs (3 * t + 1)))) (hsp : ∀ t κ, S t κ → κ 1 4 ≤ nI 6) (hM0 : Mc g p s m ([.ref b] : List Value).toArray meth c cL_law 9 RL) (hX : va_X b L xs s s.heap) (hbl : b < s.heap.size) (hbA : ¬ fr g s.heap.size b) (hL : 3 * t + 3 ≤ L) (hL2 : L ≤ 1536) {cells slots : Nat} (hcl : cells + 30 ≤ 655566) (hsl : slots + 200 ≤ 7129405) (κ : Kp) (hS : S t κ) (d0 : Drawn) (hd0 : s.drawn.sameBut d0 lw_cs) (H : Heap) (locs : List Loc) (ls : Array Slot) (hl : lv_has ls 9 (lwL g b t)) (hw : Ws g s κ H locs) (hx : ∀ (κ2 : Kp) (d1 : Drawn) (H : Heap) (locs : List Loc) (ls : Array Slot), S (t + 1) κ2 → s.drawn.sameBut d1 lw_cs → lv_has ls 9 (lwL g b t) → Ws g s κ2 H locs → W p l e room_1 (s.setDrawn d1) m ([.ref b] : List Value).toArray below meth c H locs (cells + 30) (slots + 200) Q (F0 m 2211 ls [])) : W p l e room_1 (s.setDrawn d0) m ([.ref b] : List Value).toArray below meth c H locs cells slots Q (F0 m 2100 ls []) := by
  have hM := hM0.drawn d0
  have hw : Ws g (s.setDrawn d0) κ H locs := hw
  refine lv_aload_n hM.x hM.b dL_law_2100 rfl (lv_at hl 3 rfl) ?_
  refine lv_aload_n hM.x hM.b dL_law_2101 rfl (lv_at hl 4 rfl) ?_
  refine lv_iload hM.x hM.b dL_law_2102 (lv_at hl 0 rfl) ?_
  refine lv_iconst (v := 1) hM.x hM.b dL_law_2104 (by decide) ?_
  refine k_iaddN (a := 3 * t) (b := 1) hM dL_law_2105 ?_
  refine k_sld (i := (3 * t + 1)) hM hX hbl hbA hw (by omega) hL2 dL_law_2106 ?_
  refine lv_aload_n hM.x hM.b dL_law_2107 rfl (lv_at hl 1 rfl) ?_
  refine k_ci hw (k_runSW [.ref (g.2.2 (0)), .int (xs ((3 * t + 1))), .ref (g.2.2 (98))] [] hM hw (m_L_bestSpit l g κ _ (xs ((3 * t + 1))) (hsp _ _ hS) hlst) (k_gSW u_ml_L_244 u_st_L_bestSpit u_ini_L u_co_L_bestSpit) (q_L_bestSpit) rfl rfl rfl ⟨Nat.le_of_ble_eq_true rfl, Nat.le_of_ble_eq_true rfl⟩ hl.1 rfl (Nat.le_of_ble_eq_true rfl) dL_law_2108 ⟨(show _ ≤ 655566 by omega), (show _ ≤ 7129405 by omega)⟩) (fun r1 κ1 H locs hpκ1 hw => ?_)
  refine lv_istore (lv' := [(5, .int (r1)), (4, .int (nI (3 * t))), (3, .ref (g.2.2 (98))), (2, .ref (g.2.2 (91))), (1, .ref (g.2.2 (0))), (0, .ref b)]) hM.x hM.b dL_law_2111 hl (by decide) rfl (fun ls hl => ?_)
  refine lv_aload_n hM.x hM.b dL_law_2113 rfl (lv_at hl 3 rfl) ?_
  refine lv_aload_n hM.x hM.b dL_law_2114 rfl (lv_at hl 5 rfl) ?_
  refine lv_iload hM.x hM.b dL_law_2115 (lv_at hl 1 rfl) ?_
  refine lv_iconst (v := 1) hM.x hM.b dL_law_2117 (by decide) ?_
  refine k_iaddN (a := 3 * t) (b := 1) hM dL_law_2118 ?_
  refine k_sld (i := (3 * t + 1)) hM hX hbl hbA hw (by omega) hL2 dL_law_2119 ?_
  refine k_ci hw (k_runV [.int (xs ((3 * t + 1)))] [] hM hw (m_X5_bestSpit l g κ1 _ (xs ((3 * t + 1))) (hsim _ _ (by omega) hS _ _ hpκ1).1) (kd_lt kd_91 (by decide)) (sh5 kd_91) rfl (k_gV u_ml_L_246 u_im_X5_bestSpit u_se_X5_bestSpit u_ini_X5 u_co_X5_bestSpit) (q_X5_bestSpit) rfl rfl rfl ⟨Nat.le_of_ble_eq_true rfl, Nat.le_of_ble_eq_true rfl⟩ hl.1 rfl (Nat.le_of_ble_eq_true rfl) dL_law_2120 ⟨(show _ ≤ 655566 by omega), (show _ ≤ 7129405 by omega)⟩) (fun r2 κ2 H locs hpκ2 hw => ?_)
  refine lv_istore (lv' := [(6, .int (r2)), (5, .int (r1)), (4, .int (nI (3 * t))), (3, .ref (g.2.2 (98))), (2, .ref (g.2.2 (91))), (1, .ref (g.2.2 (0))), (0, .ref b)]) hM.x hM.b dL_law_2123 hl (by decide) rfl (fun ls hl => ?_)
  refine lv_aload_n hM.x hM.b dL_law_2125 rfl (lv_at hl 4 rfl) ?_
  refine k_cip hw (k_runV [] [] hM hw (m_X5_thrown l g κ2 _) (kd_lt kd_91 (by decide)) (sh5 kd_91) rfl (k_gV u_ml_L_125 u_im_X5_thrown u_se_X5_thrown u_ini_X5 u_co_X5_thrown) (q_X5_thrown) rfl rfl rfl ⟨Nat.le_of_ble_eq_true rfl, Nat.le_of_ble_eq_true rfl⟩ hl.1 rfl (Nat.le_of_ble_eq_true rfl) dL_law_2126 ⟨(show _ ≤ 655566 by omega), (show _ ≤ 7129405 by omega)⟩) (fun H locs hw => ?_)
  refine lv_iload hM.x hM.b dL_law_2129 (lv_at hl 1 rfl) ?_
  refine lv_icmp_eq (tgt := 2136) hM.x hM.b dL_law_2131 (by decide) (fun _ => ?_) (fun cz => absurd ((hsim _ _ (by omega) hS _ _ hpκ1).2 _ _ hpκ2).1 cz)
  refine lv_iload hM.x hM.b dL_law_2136 (lv_at hl 1 rfl) ?_
  refine lv_if_ne (tgt := 2153) hM.x hM.b dL_law_2138 (by decide) (fun c1 => ?_) (fun c1 => ?_)
  · skip
    refine lv_goto (tgt := 2211) hM.x hM.b dL_law_2153 (by decide) ?_
    refine W.widen (k := cells + 30) (n := slots + 200) (by omega) (by omega) ?_
    exact hx κ2 d0 H locs ls ((hsim _ _ (by omega) hS _ _ hpκ1).2 _ _ hpκ2).2.2 hd0 (lv_sub hl [2, 3, 4, 5, 6] rfl) hw
  · skip
    refine lv_aload_n hM.x hM.b dL_law_2141 rfl (lv_at hl 3 rfl) ?_
    refine lv_iconst (v := 0) hM.x hM.b dL_law_2142 (by decide) ?_
    refine k_lald hM hw dL_law_2143 ?_
    refine lv_iload hM.x hM.b dL_law_2144 (lv_at hl 0 rfl) ?_
    refine lv_i2l (v := (r2).toInt64) hM.x hM.b dL_law_2146 rfl ?_
    refine W.lcmp hM.x hM.b dL_law_2147 ?_
    refine lv_if_eq (tgt := 2153) hM.x hM.b dL_law_2148 (by decide) (fun _ => ?_) (fun cz => absurd (lgc32 (((hsim _ _ (by omega) hS _ _ hpκ1).2 _ _ hpκ2).2.1 c1)) cz)
    refine lv_goto (tgt := 2211) hM.x hM.b dL_law_2153 (by decide) ?_
    refine W.widen (k := cells + 30) (n := slots + 200) (by omega) (by omega) ?_
    exact hx κ2 d0 H locs ls ((hsim _ _ (by omega) hS _ _ hpκ1).2 _ _ hpκ2).2.2 hd0 (lv_sub hl [2, 3, 4, 5, 6] rfl) hw
set_option maxRecDepth 100000 in
set_option maxHeartbeats 4000000 in
theorem lc_meanBrown {p : Program} {e : Env} {s : State} {m : MethodId} {below : List Frame} {meth : Method} {c : Code} {Q : State → Prop} (l : Launch) (hlst : l.stackTraces = false) (g : Gt) {b L t : Nat} {xs : Nat → Int32} {S : Nat → Kp → Prop} (hsim : SimDb S (fun κ => f_X4_meanBrown κ ) (fun κ => f_X5_meanBrown κ )) (hM0 : Mc g p s m ([.ref b] : List Value).toArray meth c cL_law 9 RL) (hX : va_X b L xs s s.heap) (hbl : b < s.heap.size) (hbA : ¬ fr g s.heap.size b) (hL : 3 * t + 3 ≤ L) (hL2 : L ≤ 1536) {cells slots : Nat} (hcl : cells + 30 ≤ 655566) (hsl : slots + 200 ≤ 7129405) (κ : Kp) (hS : S t κ) (d0 : Drawn) (hd0 : s.drawn.sameBut d0 lw_cs) (H : Heap) (locs : List Loc) (ls : Array Slot) (hl : lv_has ls 9 (lwL g b t)) (hw : Ws g s κ H locs) (hx : ∀ (κ2 : Kp) (d1 : Drawn) (H : Heap) (locs : List Loc) (ls : Array Slot), S (t + 1) κ2 → s.drawn.sameBut d1 lw_cs → lv_has ls 9 (lwL g b t) → Ws g s κ2 H locs → W p l e room_1 (s.setDrawn d1) m ([.ref b] : List Value).toArray below meth c H locs (cells + 30) (slots + 200) Q (F0 m 2211 ls [])) : W p l e room_1 (s.setDrawn d0) m ([.ref b] : List Value).toArray below meth c H locs cells slots Q (F0 m 2156 ls []) := by
  have hM := hM0.drawn d0
  have hw : Ws g (s.setDrawn d0) κ H locs := hw
  refine lv_aload_n hM.x hM.b dL_law_2156 rfl (lv_at hl 3 rfl) ?_
  refine k_cd hd0 hw (k_runVD [] [] hM hw (m_X4_meanBrown l g κ _) (kd_lt kd_0 (by decide)) (sh4 kd_0) rfl (k_gV u_ml_L_247 u_im_X4_meanBrown u_se_X4_meanBrown u_ini_X4 u_co_X4_meanBrown) q_X4_meanBrown rfl rfl rfl ⟨Nat.le_of_ble_eq_true rfl, Nat.le_of_ble_eq_true rfl⟩ hl.1 rfl (Nat.le_of_ble_eq_true rfl) dL_law_2157 ⟨(show _ ≤ 655566 by omega), (show _ ≤ 7129405 by omega)⟩) (fun x1 κ1 H locs d1 hd1 hp1 hw => ?_)
  obtain ⟨hal1, he1⟩ := hp1
  rw [he1] at hw
  have hM := hM0.drawn d1
  refine lv_dstore (lv' := (5, .double x1) :: lwL g b t) hM.x hM.b dL_law_2160 hl (by decide) rfl (fun ls hl => ?_)
  refine lv_aload_n hM.x hM.b dL_law_2162 rfl (lv_at hl 3 rfl) ?_
  refine k_cd hd1 hw (k_runVD [] [] hM hw (m_X5_meanBrown l g κ _ (hsim _ _ (by omega) hS).1) (kd_lt kd_91 (by decide)) (sh5 kd_91) rfl (k_gV u_ml_L_251 u_im_X5_meanBrown u_se_X5_meanBrown u_ini_X5 u_co_X5_meanBrown) q_X5_meanBrown rfl rfl rfl ⟨Nat.le_of_ble_eq_true rfl, Nat.le_of_ble_eq_true rfl⟩ hl.1 rfl (Nat.le_of_ble_eq_true rfl) dL_law_2163 ⟨(show _ ≤ 655566 by omega), (show _ ≤ 7129405 by omega)⟩) (fun x2 κ2 H locs d2 hd2 hp2 hw => ?_)
  obtain ⟨v, hv, hal2⟩ := hp2
  obtain ⟨hq, hS2⟩ := (hsim _ _ (by omega) hS).2 _ _ hv
  rw [show f_X4_meanBrown κ = v from hq] at hal1
  have hor := alike_or hal1 hal2
  have hM := hM0.drawn d2
  refine lv_dstore (lv' := (7, .double x2) :: (5, .double x1) :: lwL g b t) hM.x hM.b dL_law_2166 hl (by decide) rfl (fun ls hl => ?_)
  have done : ∀ ls : Array Slot, lv_has ls 9 ((7, .double x2) :: (5, .double x1) :: lwL g b t) → W p l e room_1 (s.setDrawn d2) m ([.ref b] : List Value).toArray below meth c H locs (cells + 0 + 0) (slots + 0 + 0) Q (F0 m 2211 ls []) := by
    intro ls hl
    refine W.widen (k := cells + 30) (n := slots + 200) (by omega) (by omega) ?_
    exact hx κ2 d2 H locs ls hS2 hd2 (lv_sub hl [2, 3, 4, 5, 6] rfl) hw
  refine lv_dload hM.x hM.b dL_law_2168 (lv_at hl 1 rfl) ?_
  refine lv_dload hM.x hM.b dL_law_2170 (lv_at hl 0 rfl) ?_
  refine lv_dcmp hM.x hM.b dL_law_2172 ?_
  refine lv_if_eq (tgt := 2194) hM.x hM.b dL_law_2173 (by decide) (fun _ => ?_) (fun c1 => ?_)
  · refine lv_goto (tgt := 2211) hM.x hM.b dL_law_2194 (by decide) ?_
    exact done ls hl
  · have hn1 : ¬ Op.cmpValue (FP.dcmp x1 x1) CmpOp.l = 0 := by
      rcases hor with h | ⟨h, -⟩
      · subst h; exact c1
      · exact nan_cmp h
    have hn2 : ¬ Op.cmpValue (FP.dcmp x2 x2) CmpOp.l = 0 := by
      rcases hor with h | ⟨-, h⟩
      · subst h; exact c1
      · exact nan_cmp h
    refine lv_dload hM.x hM.b dL_law_2176 (lv_at hl 1 rfl) ?_
    refine lv_dload hM.x hM.b dL_law_2178 (lv_at hl 1 rfl) ?_
    refine lv_dcmp hM.x hM.b dL_law_2180 ?_
    refine lv_if_eq (tgt := 2192) hM.x hM.b dL_law_2181 (by decide) (fun cz => absurd cz hn1) (fun _ => ?_)
    refine lv_dload hM.x hM.b dL_law_2184 (lv_at hl 0 rfl) ?_
    refine lv_dload hM.x hM.b dL_law_2186 (lv_at hl 0 rfl) ?_
    refine lv_dcmp hM.x hM.b dL_law_2188 ?_
    refine lv_if_ne (tgt := 2194) hM.x hM.b dL_law_2189 (by decide) (fun _ => ?_) (fun cz => absurd cz hn2)
    refine lv_goto (tgt := 2211) hM.x hM.b dL_law_2194 (by decide) ?_
    exact done ls hl
set_option maxRecDepth 100000 in
set_option maxHeartbeats 4000000 in
theorem lc_digest {p : Program} {e : Env} {s : State} {m : MethodId} {below : List Frame} {meth : Method} {c : Code} {Q : State → Prop} (l : Launch) (hlst : l.stackTraces = false) (g : Gt) {b L t : Nat} {xs : Nat → Int32} {S : Nat → Kp → Prop} (hsim : SimLg S (fun κ => f_X4_digest κ ) (fun κ => f_X5_digest κ )) (hM0 : Mc g p s m ([.ref b] : List Value).toArray meth c cL_law 9 RL) (hX : va_X b L xs s s.heap) (hbl : b < s.heap.size) (hbA : ¬ fr g s.heap.size b) (hL : 3 * t + 3 ≤ L) (hL2 : L ≤ 1536) {cells slots : Nat} (hcl : cells + 30 ≤ 655566) (hsl : slots + 200 ≤ 7129405) (κ : Kp) (hS : S t κ) (d0 : Drawn) (hd0 : s.drawn.sameBut d0 lw_cs) (H : Heap) (locs : List Loc) (ls : Array Slot) (hl : lv_has ls 9 (lwL g b t)) (hw : Ws g s κ H locs) (hx : ∀ (κ2 : Kp) (d1 : Drawn) (H : Heap) (locs : List Loc) (ls : Array Slot), S (t + 1) κ2 → s.drawn.sameBut d1 lw_cs → lv_has ls 9 (lwL g b t) → Ws g s κ2 H locs → W p l e room_1 (s.setDrawn d1) m ([.ref b] : List Value).toArray below meth c H locs (cells + 30) (slots + 200) Q (F0 m 2211 ls [])) : W p l e room_1 (s.setDrawn d0) m ([.ref b] : List Value).toArray below meth c H locs cells slots Q (F0 m 2197 ls []) := by
  have hM := hM0.drawn d0
  have hw : Ws g (s.setDrawn d0) κ H locs := hw
  refine lv_aload_n hM.x hM.b dL_law_2197 rfl (lv_at hl 3 rfl) ?_
  refine k_clp hw (k_runV [] [] hM hw (m_X4_digest l g κ _) (kd_lt kd_0 (by decide)) (sh4 kd_0) rfl (k_gV u_ml_L_252 u_im_X4_digest u_se_X4_digest u_ini_X4 u_co_X4_digest) (q_X4_digest) rfl rfl rfl ⟨Nat.le_of_ble_eq_true rfl, Nat.le_of_ble_eq_true rfl⟩ hl.1 rfl (Nat.le_of_ble_eq_true rfl) dL_law_2198 ⟨(show _ ≤ 655566 by omega), (show _ ≤ 7129405 by omega)⟩) (fun H locs hw => ?_)
  refine lv_aload_n hM.x hM.b dL_law_2201 rfl (lv_at hl 2 rfl) ?_
  refine k_cl hw (k_runV [] [.long (f_X4_digest κ)] hM hw (m_X5_digest l g κ _ (hsim _ _ (by omega) hS).1) (kd_lt kd_91 (by decide)) (sh5 kd_91) rfl (k_gV u_ml_L_256 u_im_X5_digest u_se_X5_digest u_ini_X5 u_co_X5_digest) (q_X5_digest) rfl rfl rfl ⟨Nat.le_of_ble_eq_true rfl, Nat.le_of_ble_eq_true rfl⟩ hl.1 rfl (Nat.le_of_ble_eq_true rfl) dL_law_2202 ⟨(show _ ≤ 655566 by omega), (show _ ≤ 7129405 by omega)⟩) (fun r1 κ1 H locs hpκ1 hw => ?_)
  refine W.lcmp hM.x hM.b dL_law_2205 ?_
  refine lv_if_eq (tgt := 2211) hM.x hM.b dL_law_2206 (by decide) (fun _ => ?_) (fun cz => absurd (lgc ((hsim _ _ (by omega) hS).2 _ _ hpκ1).1) cz)
  refine W.widen (k := cells + 30) (n := slots + 200) (by omega) (by omega) ?_
  exact hx κ1 d0 H locs ls ((hsim _ _ (by omega) hS).2 _ _ hpκ1).2 hd0 (lv_sub hl [0, 1, 2, 3, 4] rfl) hw
