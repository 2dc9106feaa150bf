set_option maxRecDepth 100000 in
set_option maxHeartbeats 4000000 in
theorem law_F {p : Program} {e : Env} {s : State} {m : MethodId} {args : Array Value} {below : List Frame} {meth : Method} {c : Code} {Q : State → Prop} {A : Nat → Prop} {D : va_G} {cA : Nat → ClassId} {L : List Nat} {ad : Nat → Nat} {nf ns nr : Nat} {b t k1 n1 : Nat} (l : Launch) (hlst : l.stackTraces = false) (hM : Ma A D cA p s m args meth c cL_law 27 RL) (hT : TW L ad nf ns nr) (hk1 : k1 ≤ 800000) (hn1 : n1 ≤ 6000000) {κ : Kp} (hR : RR nf ns nr κ) : ∀ (n j : Nat), j + n = nf → ∀ (μ : Kp), LoQ κ μ → TF κ μ j → ∀ (H : Heap) (locs : List Loc) (ls : Array Slot), lv_has ls 27 [(16, .int (nI (j))), (13, .int (0)), (0, .ref b), (1, .ref (ad (0))), (2, .ref (ad (91))), (3, .int (nI (t))), (5, .int (nI (ns))), (6, .int (nI (nr))), (7, .ref (ad (136))), (8, .ref (ad (153))), (9, .ref (ad (154))), (10, .ref (ad (155))), (11, .ref (ad (156))), (12, .ref (ad (157))), (14, .ref (ad (158))), (15, .ref (ad (159)))] → Wa A D cA L ad s μ H locs → (∀ (μ : Kp) (H : Heap) (locs : List Loc) (ls : Array Slot), LoQ κ μ → TF κ μ nf → lv_has ls 27 [(13, .int (0)), (0, .ref b), (1, .ref (ad (0))), (2, .ref (ad (91))), (3, .int (nI (t))), (5, .int (nI (ns))), (6, .int (nI (nr))), (7, .ref (ad (136))), (8, .ref (ad (153))), (9, .ref (ad (154))), (10, .ref (ad (155))), (11, .ref (ad (156))), (12, .ref (ad (157))), (14, .ref (ad (158))), (15, .ref (ad (159)))] → Wa A D cA L ad s μ H locs → W p l e room_1 s m args below meth c H locs (k1 + 6) (n1 + 36) Q (F0 m 211 ls [])) → W p l e room_1 s m args below meth c H locs (k1 + 2 * j) (n1 + 12 * j) Q (F0 m 136 ls []) := by
  have hb := hR.b
  intro n
  induction n with
  | zero =>
    intro j hj μ hq hF H locs ls hl hw kk
    obtain rfl : j = nf := by omega
    refine lv_iload hM.x hM.b dL_law_136 (lv_at hl 0 rfl) ?_
    refine lv_aload_n hM.x hM.b dL_law_138 rfl (lv_at hl 3 rfl) ?_
    refine k_cip hw (k_runV [] [.int (nI (j))] hM hw (m_X4_fires l ((D, L), cA, ad) μ _) (hw.dm kd_0 (by decide)) (sh4 kd_0) rfl (k_gV u_ml_L_114 u_im_X4_fires u_se_X4_fires u_ini_X4 u_co_X4_fires) (q_X4_fires) rfl rfl rfl ⟨Nat.le_of_ble_eq_true rfl, Nat.le_of_ble_eq_true rfl⟩ hl.1 rfl (Nat.le_of_ble_eq_true rfl) dL_law_139 ⟨(by show _ ≤ (817018 : Nat); omega), (by show _ ≤ (6650127 : Nat); omega)⟩) (fun H locs hw => ?_)
    rw [show f_X4_fires μ = nI j from (congrFun (hq 1 (by decide)) 3).trans hR.1.2.1.1]
    refine lv_icmp_ge (tgt := 211) hM.x hM.b dL_law_142 (by decide) (fun _ => ?_) (fun cz => absurd (nI_le (by omega) (by omega)) cz)
    exact W.widen (by omega) (by omega) (kk μ H locs ls hq hF (lv_sub hl [1, 2, 3, 4, 5, 6, 7, 8, 9, 10, 11, 12, 13, 14, 15] rfl) hw)
  | succ n ih =>
    intro j hj μ hq hF H locs ls hl hw kk
    have hjN : j < nf := by omega
    obtain ⟨v1, v0⟩ := heat_in hR.1 hjN
    have r1 := rng (n := 9) v1 (by decide)
    have r0 := rng (n := 40) v0 (by decide)
    refine lv_iload hM.x hM.b dL_law_136 (lv_at hl 0 rfl) ?_
    refine lv_aload_n hM.x hM.b dL_law_138 rfl (lv_at hl 3 rfl) ?_
    refine k_cip hw (k_runV [] [.int (nI (j))] hM hw (m_X4_fires l ((D, L), cA, ad) μ _) (hw.dm kd_0 (by decide)) (sh4 kd_0) rfl (k_gV u_ml_L_114 u_im_X4_fires u_se_X4_fires u_ini_X4 u_co_X4_fires) (q_X4_fires) rfl rfl rfl ⟨Nat.le_of_ble_eq_true rfl, Nat.le_of_ble_eq_true rfl⟩ hl.1 rfl (Nat.le_of_ble_eq_true rfl) dL_law_139 ⟨(by show _ ≤ (817018 : Nat); omega), (by show _ ≤ (6650127 : Nat); omega)⟩) (fun H locs hw => ?_)
    rw [show f_X4_fires μ = nI nf from (congrFun (hq 1 (by decide)) 3).trans hR.1.2.1.1]
    refine lv_icmp_ge (tgt := 211) hM.x hM.b dL_law_142 (by decide) (fun cz => absurd cz (nI_ge (by omega) (by omega))) (fun _ => ?_)
    refine lv_aload hM.x hM.b dL_law_145 (lv_at hl 14 rfl) ?_
    refine lv_iload hM.x hM.b dL_law_147 (lv_at hl 0 rfl) ?_
    refine lv_aload_n hM.x hM.b dL_law_149 rfl (lv_at hl 3 rfl) ?_
    refine lv_iload hM.x hM.b dL_law_150 (lv_at hl 0 rfl) ?_
    refine k_xiK (rd_fire hR hq hjN).2 hw (k_runXV [.int (nI (j))] [.int (nI (j)), .ref (ad (158))] hM hw (m_X4_heatOf l ((D, L), cA, ad) μ _ (nI (j)) hlst) (hw.dm kd_0 (by decide)) (sh4 kd_0) rfl (k_gV u_ml_L_116 u_im_X4_heatOf u_se_X4_heatOf u_ini_X4 u_co_X4_heatOf) (q_X4_heatOf) rfl rfl rfl ⟨(Nat.le_of_ble_eq_true rfl), (Nat.le_of_ble_eq_true rfl)⟩ hl.1 rfl (Nat.le_of_ble_eq_true rfl) dL_law_152 ⟨(by show _ ≤ (817018 : Nat); omega), (by show _ ≤ (6650127 : Nat); omega)⟩) (fun H locs hw => ?_)
    refine k_iastN (i := j) (n := nf) hM hw (hT.m 158 (by decide) (by decide)) (fun r => (hT.s158)) hjN (by omega) dL_law_155 (fun H locs hw => ?_)
    obtain ⟨κ1, eκ1⟩ : ∃ z : Kp, up2 μ (158) (j) (κ (5 + j) 1) = z := ⟨_, rfl⟩
    rw [eκ1] at hw
    have hSκ1 : LoQ κ κ1 := by rw [← eκ1]; exact (LoQ.up hq (by omega))
    refine lv_aload hM.x hM.b dL_law_156 (lv_at hl 15 rfl) ?_
    refine lv_iload hM.x hM.b dL_law_158 (lv_at hl 0 rfl) ?_
    refine lv_aload_n hM.x hM.b dL_law_160 rfl (lv_at hl 3 rfl) ?_
    refine lv_iload hM.x hM.b dL_law_161 (lv_at hl 0 rfl) ?_
    refine k_xiK (rd_fire hR hSκ1 hjN).1 hw (k_runXV [.int (nI (j))] [.int (nI (j)), .ref (ad (159))] hM hw (m_X4_logsOf l ((D, L), cA, ad) κ1 _ (nI (j)) hlst) (hw.dm kd_0 (by decide)) (sh4 kd_0) rfl (k_gV u_ml_L_119 u_im_X4_logsOf u_se_X4_logsOf u_ini_X4 u_co_X4_logsOf) (q_X4_logsOf) rfl rfl rfl ⟨(Nat.le_of_ble_eq_true rfl), (Nat.le_of_ble_eq_true rfl)⟩ hl.1 rfl (Nat.le_of_ble_eq_true rfl) dL_law_163 ⟨(by show _ ≤ (817018 : Nat); omega), (by show _ ≤ (6650127 : Nat); omega)⟩) (fun H locs hw => ?_)
    refine k_iastN (i := j) (n := nf) hM hw (hT.m 159 (by decide) (by decide)) (fun r => (hT.s159)) hjN (by omega) dL_law_166 (fun H locs hw => ?_)
    obtain ⟨κ2, eκ2⟩ : ∃ z : Kp, up2 κ1 (159) (j) (κ (5 + j) 0) = z := ⟨_, rfl⟩
    rw [eκ2] at hw
    have hSκ2 : LoQ κ κ2 := by rw [← eκ2]; exact (LoQ.up hSκ1 (by omega))
    have e8 : κ2 158 j = κ (5 + j) 1 := by rw [← eκ2, up2_row (by decide), ← eκ1]; exact up2_self _ _ _ _
    have e9 : κ2 159 j = κ (5 + j) 0 := by rw [← eκ2]; exact up2_self _ _ _ _
    refine lv_aload hM.x hM.b dL_law_167 (lv_at hl 14 rfl) ?_
    refine lv_iload hM.x hM.b dL_law_169 (lv_at hl 0 rfl) ?_
    refine k_ialdN (i := j) (n := nf) hM hw (hT.m 158 (by decide) (by decide)) ((hT.s158)) hjN (by omega) dL_law_171 ?_
    refine lv_if_lt (tgt := 203) hM.x hM.b dL_law_172 (by decide) (fun cz => absurd cz (by rw [e8]; exact r1.1)) (fun _ => ?_)
    refine lv_aload hM.x hM.b dL_law_175 (lv_at hl 14 rfl) ?_
    refine lv_iload hM.x hM.b dL_law_177 (lv_at hl 0 rfl) ?_
    refine k_ialdN (i := j) (n := nf) hM hw (hT.m 158 (by decide) (by decide)) ((hT.s158)) hjN (by omega) dL_law_179 ?_
    refine lv_bipush (v := 9) hM.x hM.b dL_law_180 (by decide) ?_
    refine lv_icmp_gt (tgt := 203) hM.x hM.b dL_law_182 (by decide) (fun cz => absurd cz (by rw [e8]; exact r1.2.1)) (fun _ => ?_)
    refine lv_aload hM.x hM.b dL_law_185 (lv_at hl 15 rfl) ?_
    refine lv_iload hM.x hM.b dL_law_187 (lv_at hl 0 rfl) ?_
    refine k_ialdN (i := j) (n := nf) hM hw (hT.m 159 (by decide) (by decide)) ((hT.s159)) hjN (by omega) dL_law_189 ?_
    refine lv_if_lt (tgt := 203) hM.x hM.b dL_law_190 (by decide) (fun cz => absurd cz (by rw [e9]; exact r0.1)) (fun _ => ?_)
    refine lv_aload hM.x hM.b dL_law_193 (lv_at hl 15 rfl) ?_
    refine lv_iload hM.x hM.b dL_law_195 (lv_at hl 0 rfl) ?_
    refine k_ialdN (i := j) (n := nf) hM hw (hT.m 159 (by decide) (by decide)) ((hT.s159)) hjN (by omega) dL_law_197 ?_
    refine lv_bipush (v := 40) hM.x hM.b dL_law_198 (by decide) ?_
    refine lv_icmp_le (tgt := 205) hM.x hM.b dL_law_200 (by decide) (fun _ => ?_) (fun cz => absurd (by rw [e9]; exact r0.2.2) cz)
    refine lv_iinc (v := nI (j + 1)) (lv' := [(16, .int (nI (j + 1))), (13, .int (0)), (0, .ref b), (1, .ref (ad (0))), (2, .ref (ad (91))), (3, .int (nI (t))), (5, .int (nI (ns))), (6, .int (nI (nr))), (7, .ref (ad (136))), (8, .ref (ad (153))), (9, .ref (ad (154))), (10, .ref (ad (155))), (11, .ref (ad (156))), (12, .ref (ad (157))), (14, .ref (ad (158))), (15, .ref (ad (159)))]) hM.x hM.b dL_law_205 hl (k := 0) rfl (nI_1 (j)) (by decide) rfl (fun ls hl => ?_)
    refine lv_goto (tgt := 136) hM.x hM.b dL_law_208 (by decide) ?_
    refine W.widen (k := k1 + 2 * (j + 1)) (n := n1 + 12 * (j + 1)) (by omega) (by omega) ?_
    exact ih (j + 1) (by omega) κ2 hSκ2 (by rw [← eκ2, ← eκ1]; exact TF.add hF) H locs ls (lv_sub hl [0, 1, 2, 3, 4, 5, 6, 7, 8, 9, 10, 11, 12, 13, 14, 15] rfl) hw kk
set_option maxRecDepth 100000 in
set_option maxHeartbeats 4000000 in
theorem law_S {p : Program} {e : Env} {s : State} {m : MethodId} {args : Array Value} {below : List Frame} {meth : Method} {c : Code} {Q : State → Prop} {A : Nat → Prop} {D : va_G} {cA : Nat → ClassId} {L : List Nat} {ad : Nat → Nat} {nf ns nr : Nat} {b t k1 n1 : Nat} (l : Launch) (hlst : l.stackTraces = false) (hM : Ma A D cA p s m args meth c cL_law 27 RL) (hT : TW L ad nf ns nr) (hk1 : k1 ≤ 800000) (hn1 : n1 ≤ 6000000) {κ : Kp} (hR : RR nf ns nr κ) : ∀ (n j : Nat), j + n = ns → ∀ (μ : Kp), LoQ κ μ → TF κ μ nf → TS κ μ j → ∀ (H : Heap) (locs : List Loc) (ls : Array Slot), lv_has ls 27 [(16, .int (nI (j))), (13, .int (dripP κ j)), (0, .ref b), (1, .ref (ad (0))), (2, .ref (ad (91))), (3, .int (nI (t))), (5, .int (nI (ns))), (6, .int (nI (nr))), (7, .ref (ad (136))), (8, .ref (ad (153))), (9, .ref (ad (154))), (10, .ref (ad (155))), (11, .ref (ad (156))), (12, .ref (ad (157))), (14, .ref (ad (158))), (15, .ref (ad (159)))] → Wa A D cA L ad s μ H locs → (∀ (μ : Kp) (H : Heap) (locs : List Loc) (ls : Array Slot), LoQ κ μ → TF κ μ nf → TS κ μ ns → lv_has ls 27 [(13, .int (dripP κ ns)), (0, .ref b), (1, .ref (ad (0))), (2, .ref (ad (91))), (3, .int (nI (t))), (5, .int (nI (ns))), (6, .int (nI (nr))), (7, .ref (ad (136))), (8, .ref (ad (153))), (9, .ref (ad (154))), (10, .ref (ad (155))), (11, .ref (ad (156))), (12, .ref (ad (157))), (14, .ref (ad (158))), (15, .ref (ad (159)))] → Wa A D cA L ad s μ H locs → W p l e room_1 s m args below meth c H locs (k1 + 60) (n1 + 360) Q (F0 m 327 ls [])) → W p l e room_1 s m args below meth c H locs (k1 + 9 * j) (n1 + 54 * j) Q (F0 m 214 ls []) := by
  have hb := hR.b
  intro n
  induction n with
  | zero =>
    intro j hj μ hq hF hS H locs ls hl hw kk
    obtain rfl : j = ns := by omega
    refine lv_iload hM.x hM.b dL_law_214 (lv_at hl 0 rfl) ?_
    refine lv_iload hM.x hM.b dL_law_216 (lv_at hl 6 rfl) ?_
    refine lv_icmp_ge (tgt := 327) hM.x hM.b dL_law_218 (by decide) (fun _ => ?_) (fun cz => absurd (nI_le (by omega) (by omega)) cz)
    exact W.widen (by omega) (by omega) (kk μ H locs ls hq hF hS (lv_sub hl [1, 2, 3, 4, 5, 6, 7, 8, 9, 10, 11, 12, 13, 14, 15] rfl) hw)
  | succ n ih =>
    intro j hj μ hq hF hS H locs ls hl hw kk
    have hjN : j < ns := by omega
    obtain ⟨f0, hf0, ef0⟩ := vp_in_of (hR.1.2.2.1.fire hjN hb.2.1 (by have := hR.1.1.2.2.2; omega)) (by omega)
    have rd := rng (n := 20) (drip_in hR hjN) (by decide)
    refine lv_iload hM.x hM.b dL_law_214 (lv_at hl 0 rfl) ?_
    refine lv_iload hM.x hM.b dL_law_216 (lv_at hl 6 rfl) ?_
    refine lv_icmp_ge (tgt := 327) hM.x hM.b dL_law_218 (by decide) (fun cz => absurd cz (nI_ge (by omega) (by omega))) (fun _ => ?_)
    refine lv_aload hM.x hM.b dL_law_221 (lv_at hl 13 rfl) ?_
    refine lv_iload hM.x hM.b dL_law_223 (lv_at hl 0 rfl) ?_
    refine lv_aload_n hM.x hM.b dL_law_225 rfl (lv_at hl 3 rfl) ?_
    refine lv_iload hM.x hM.b dL_law_226 (lv_at hl 0 rfl) ?_
    refine k_xiK (rd_spit hR hq hjN).2.2.2.2.2 hw (k_runXV [.int (nI (j))] [.int (nI (j)), .ref (ad (157))] hM hw (m_X4_glowAt l ((D, L), cA, ad) μ _ (nI (j)) hlst) (hw.dm kd_0 (by decide)) (sh4 kd_0) rfl (k_gV u_ml_L_122 u_im_X4_glowAt u_se_X4_glowAt u_ini_X4 u_co_X4_glowAt) (q_X4_glowAt) rfl rfl rfl ⟨(Nat.le_of_ble_eq_true rfl), (Nat.le_of_ble_eq_true rfl)⟩ hl.1 rfl (Nat.le_of_ble_eq_true rfl) dL_law_228 ⟨(by show _ ≤ (817018 : Nat); omega), (by show _ ≤ (6650127 : Nat); omega)⟩) (fun H locs hw => ?_)
    refine k_iastN (i := j) (n := ns) hM hw (hT.m 157 (by decide) (by decide)) (fun r => (hT.s157)) hjN (by omega) dL_law_231 (fun H locs hw => ?_)
    obtain ⟨κ1, eκ1⟩ : ∃ z : Kp, up2 μ (157) (j) (gl κ j) = z := ⟨_, rfl⟩
    rw [eκ1] at hw
    have hSκ1 : LoQ κ κ1 := by rw [← eκ1]; exact (LoQ.up hq (by omega))
    have e7 : κ1 157 j = gl κ j := by rw [← eκ1]; exact up2_self _ _ _ _
    refine lv_iload hM.x hM.b dL_law_232 (lv_at hl 1 rfl) ?_
    refine lv_aload_n hM.x hM.b dL_law_234 rfl (lv_at hl 3 rfl) ?_
    refine lv_iload hM.x hM.b dL_law_235 (lv_at hl 0 rfl) ?_
    refine k_xiK (rd_spit hR hSκ1 hjN).2.2.2.1 hw (k_runXV [.int (nI (j))] [.int (dripP κ j)] hM hw (m_X4_drippingsOf l ((D, L), cA, ad) κ1 _ (nI (j)) hlst) (hw.dm kd_0 (by decide)) (sh4 kd_0) rfl (k_gV u_ml_L_125 u_im_X4_drippingsOf u_se_X4_drippingsOf u_ini_X4 u_co_X4_drippingsOf) (q_X4_drippingsOf) rfl rfl rfl ⟨(Nat.le_of_ble_eq_true rfl), (Nat.le_of_ble_eq_true rfl)⟩ hl.1 rfl (Nat.le_of_ble_eq_true rfl) dL_law_237 ⟨(by show _ ≤ (817018 : Nat); omega), (by show _ ≤ (6650127 : Nat); omega)⟩) (fun H locs hw => ?_)
    refine lv_iadd hM.x hM.b dL_law_240 ?_
    refine lv_istore (lv' := [(13, .int (((dripP κ j) + (κ (8 + j) 4)))), (16, .int (nI (j))), (0, .ref b), (1, .ref (ad (0))), (2, .ref (ad (91))), (3, .int (nI (t))), (5, .int (nI (ns))), (6, .int (nI (nr))), (7, .ref (ad (136))), (8, .ref (ad (153))), (9, .ref (ad (154))), (10, .ref (ad (155))), (11, .ref (ad (156))), (12, .ref (ad (157))), (14, .ref (ad (158))), (15, .ref (ad (159)))]) hM.x hM.b dL_law_241 hl (by decide) rfl (fun ls hl => ?_)
    refine lv_aload_n hM.x hM.b dL_law_243 rfl (lv_at hl 3 rfl) ?_
    refine lv_iload hM.x hM.b dL_law_244 (lv_at hl 1 rfl) ?_
    refine k_xiK (rd_spit hR hSκ1 hjN).2.2.2.2.1 hw (k_runXV [.int (nI (j))] [] hM hw (m_X4_roastOn l ((D, L), cA, ad) κ1 _ (nI (j)) hlst) (hw.dm kd_0 (by decide)) (sh4 kd_0) rfl (k_gV u_ml_L_128 u_im_X4_roastOn u_se_X4_roastOn u_ini_X4 u_co_X4_roastOn) (q_X4_roastOn) rfl rfl rfl ⟨(Nat.le_of_ble_eq_true rfl), (Nat.le_of_ble_eq_true rfl)⟩ hl.1 rfl (Nat.le_of_ble_eq_true rfl) dL_law_246 ⟨(by show _ ≤ (817018 : Nat); omega), (by show _ ≤ (6650127 : Nat); omega)⟩) (fun H locs hw => ?_)
    refine lv_istore (lv' := [(17, .int (κ (8 + j) 5)), (13, .int (((dripP κ j) + (κ (8 + j) 4)))), (16, .int (nI (j))), (0, .ref b), (1, .ref (ad (0))), (2, .ref (ad (91))), (3, .int (nI (t))), (5, .int (nI (ns))), (6, .int (nI (nr))), (7, .ref (ad (136))), (8, .ref (ad (153))), (9, .ref (ad (154))), (10, .ref (ad (155))), (11, .ref (ad (156))), (12, .ref (ad (157))), (14, .ref (ad (158))), (15, .ref (ad (159)))]) hM.x hM.b dL_law_249 hl (by decide) rfl (fun ls hl => ?_)
    refine lv_aload hM.x hM.b dL_law_251 (lv_at hl 14 rfl) ?_
    refine lv_iload hM.x hM.b dL_law_253 (lv_at hl 2 rfl) ?_
    refine k_ialdN (i := j) (n := ns) hM hw (hT.m 157 (by decide) (by decide)) ((hT.s157)) hjN (by omega) dL_law_255 ?_
    refine lv_aload_n hM.x hM.b dL_law_256 rfl (lv_at hl 4 rfl) ?_
    refine lv_aload_n hM.x hM.b dL_law_257 rfl (lv_at hl 4 rfl) ?_
    refine lv_iload hM.x hM.b dL_law_258 (lv_at hl 2 rfl) ?_
    refine k_xiK (rd_spit hR hSκ1 hjN).1 hw (k_runXV [.int (nI (j))] [.ref (ad (0)), .int (κ1 (157) (j))] hM hw (m_X4_fireOf l ((D, L), cA, ad) κ1 _ (nI (j)) hlst) (hw.dm kd_0 (by decide)) (sh4 kd_0) rfl (k_gV u_ml_L_131 u_im_X4_fireOf u_se_X4_fireOf u_ini_X4 u_co_X4_fireOf) (q_X4_fireOf) rfl rfl rfl ⟨(Nat.le_of_ble_eq_true rfl), (Nat.le_of_ble_eq_true rfl)⟩ hl.1 rfl (Nat.le_of_ble_eq_true rfl) dL_law_260 ⟨(by show _ ≤ (817018 : Nat); omega), (by show _ ≤ (6650127 : Nat); omega)⟩) (fun H locs hw => ?_)
    rw [ef0]
    refine k_xiK (rd_fire hR hSκ1 hf0).2 hw (k_runXV [.int (nI (f0))] [.int (κ1 (157) (j))] hM hw (m_X4_heatOf l ((D, L), cA, ad) κ1 _ (nI (f0)) hlst) (hw.dm kd_0 (by decide)) (sh4 kd_0) rfl (k_gV u_ml_L_116 u_im_X4_heatOf u_se_X4_heatOf u_ini_X4 u_co_X4_heatOf) (q_X4_heatOf) rfl rfl rfl ⟨(Nat.le_of_ble_eq_true rfl), (Nat.le_of_ble_eq_true rfl)⟩ hl.1 rfl (Nat.le_of_ble_eq_true rfl) dL_law_263 ⟨(by show _ ≤ (817018 : Nat); omega), (by show _ ≤ (6650127 : Nat); omega)⟩) (fun H locs hw => ?_)
    refine lv_aload_n hM.x hM.b dL_law_266 rfl (lv_at hl 4 rfl) ?_
    refine lv_iload hM.x hM.b dL_law_267 (lv_at hl 2 rfl) ?_
    refine k_xiK (rd_spit hR hSκ1 hjN).2.1 hw (k_runXV [.int (nI (j))] [.int (κ (5 + f0) 1), .int (κ1 (157) (j))] hM hw (m_X4_feetOf l ((D, L), cA, ad) κ1 _ (nI (j)) hlst) (hw.dm kd_0 (by decide)) (sh4 kd_0) rfl (k_gV u_ml_L_134 u_im_X4_feetOf u_se_X4_feetOf u_ini_X4 u_co_X4_feetOf) (q_X4_feetOf) rfl rfl rfl ⟨(Nat.le_of_ble_eq_true rfl), (Nat.le_of_ble_eq_true rfl)⟩ hl.1 rfl (Nat.le_of_ble_eq_true rfl) dL_law_269 ⟨(by show _ ≤ (817018 : Nat); omega), (by show _ ≤ (6650127 : Nat); omega)⟩) (fun H locs hw => ?_)
    refine lv_idiv hM.x hM.b dL_law_272 (hR.1.2.2.2.1.1 j hjN) ?_
    refine lv_icmp_ne (tgt := 319) hM.x hM.b dL_law_273 (by decide) (fun cz => absurd (by rw [e7]; unfold gl; rw [ef0, nI_clamp (by omega)]) cz) (fun _ => ?_)
    refine lv_aload_n hM.x hM.b dL_law_276 rfl (lv_at hl 4 rfl) ?_
    refine lv_iload hM.x hM.b dL_law_277 (lv_at hl 2 rfl) ?_
    refine k_xiK (rd_spit hR hSκ1 hjN).2.2.2.1 hw (k_runXV [.int (nI (j))] [] hM hw (m_X4_drippingsOf l ((D, L), cA, ad) κ1 _ (nI (j)) hlst) (hw.dm kd_0 (by decide)) (sh4 kd_0) rfl (k_gV u_ml_L_125 u_im_X4_drippingsOf u_se_X4_drippingsOf u_ini_X4 u_co_X4_drippingsOf) (q_X4_drippingsOf) rfl rfl rfl ⟨(Nat.le_of_ble_eq_true rfl), (Nat.le_of_ble_eq_true rfl)⟩ hl.1 rfl (Nat.le_of_ble_eq_true rfl) dL_law_279 ⟨(by show _ ≤ (817018 : Nat); omega), (by show _ ≤ (6650127 : Nat); omega)⟩) (fun H locs hw => ?_)
    refine lv_if_lt (tgt := 319) hM.x hM.b dL_law_282 (by decide) (fun cz => absurd cz rd.1) (fun _ => ?_)
    refine lv_aload_n hM.x hM.b dL_law_285 rfl (lv_at hl 4 rfl) ?_
    refine lv_iload hM.x hM.b dL_law_286 (lv_at hl 2 rfl) ?_
    refine k_xiK (rd_spit hR hSκ1 hjN).2.2.2.1 hw (k_runXV [.int (nI (j))] [] hM hw (m_X4_drippingsOf l ((D, L), cA, ad) κ1 _ (nI (j)) hlst) (hw.dm kd_0 (by decide)) (sh4 kd_0) rfl (k_gV u_ml_L_125 u_im_X4_drippingsOf u_se_X4_drippingsOf u_ini_X4 u_co_X4_drippingsOf) (q_X4_drippingsOf) rfl rfl rfl ⟨(Nat.le_of_ble_eq_true rfl), (Nat.le_of_ble_eq_true rfl)⟩ hl.1 rfl (Nat.le_of_ble_eq_true rfl) dL_law_288 ⟨(by show _ ≤ (817018 : Nat); omega), (by show _ ≤ (6650127 : Nat); omega)⟩) (fun H locs hw => ?_)
    refine lv_bipush (v := 20) hM.x hM.b dL_law_291 (by decide) ?_
    refine lv_icmp_gt (tgt := 319) hM.x hM.b dL_law_293 (by decide) (fun cz => absurd cz rd.2.1) (fun _ => ?_)
    refine lv_iload hM.x hM.b dL_law_296 (lv_at hl 0 rfl) ?_
    refine lv_iload hM.x hM.b dL_law_298 (lv_at hl 8 rfl) ?_
    refine lv_icmp_ge (tgt := 319) hM.x hM.b dL_law_300 (by decide) (fun cz => absurd cz (on_lt hR hjN)) (fun _ => ?_)
    refine lv_iload hM.x hM.b dL_law_303 (lv_at hl 0 rfl) ?_
    refine lv_if_lt (tgt := 321) hM.x hM.b dL_law_305 (by decide) (fun c1 => ?_) (fun c1 => ?_)
    · skip
      refine lv_iinc (v := nI (j + 1)) (lv' := [(16, .int (nI (j + 1))), (17, .int (κ (8 + j) 5)), (13, .int (((dripP κ j) + (κ (8 + j) 4)))), (0, .ref b), (1, .ref (ad (0))), (2, .ref (ad (91))), (3, .int (nI (t))), (5, .int (nI (ns))), (6, .int (nI (nr))), (7, .ref (ad (136))), (8, .ref (ad (153))), (9, .ref (ad (154))), (10, .ref (ad (155))), (11, .ref (ad (156))), (12, .ref (ad (157))), (14, .ref (ad (158))), (15, .ref (ad (159)))]) hM.x hM.b dL_law_321 hl (k := 2) rfl (nI_1 (j)) (by decide) rfl (fun ls hl => ?_)
      refine lv_goto (tgt := 214) hM.x hM.b dL_law_324 (by decide) ?_
      refine W.widen (k := k1 + 9 * (j + 1)) (n := n1 + 54 * (j + 1)) (by omega) (by omega) ?_
      exact ih (j + 1) (by omega) κ1 hSκ1 (hF.of (by rw [← eκ1]; exact up2_row (by decide)) (by rw [← eκ1]; exact up2_row (by decide))) (by rw [← eκ1]; exact TS.add hS) H locs ls (lv_sub hl [0, 2, 3, 4, 5, 6, 7, 8, 9, 10, 11, 12, 13, 14, 15, 16] rfl) hw kk
    · skip
      obtain ⟨j0, -, hj0, ej0, em0, -⟩ := hR.1.2.2.2.2.hd hb.2.2 (by omega) c1
      refine lv_aload_n hM.x hM.b dL_law_308 rfl (lv_at hl 4 rfl) ?_
      refine lv_iload hM.x hM.b dL_law_309 (lv_at hl 0 rfl) ?_
      rw [ej0]
      refine k_xiK (rd_roast hR hSκ1 hj0).2.1 hw (k_runXV [.int (nI (j0))] [] hM hw (m_X4_spitOf l ((D, L), cA, ad) κ1 _ (nI (j0)) hlst) (hw.dm kd_0 (by decide)) (sh4 kd_0) rfl (k_gV u_ml_L_137 u_im_X4_spitOf u_se_X4_spitOf u_ini_X4 u_co_X4_spitOf) (q_X4_spitOf) rfl rfl rfl ⟨(Nat.le_of_ble_eq_true rfl), (Nat.le_of_ble_eq_true rfl)⟩ hl.1 rfl (Nat.le_of_ble_eq_true rfl) dL_law_311 ⟨(by show _ ≤ (817018 : Nat); omega), (by show _ ≤ (6650127 : Nat); omega)⟩) (fun H locs hw => ?_)
      refine lv_iload hM.x hM.b dL_law_314 (lv_at hl 2 rfl) ?_
      refine lv_icmp_eq (tgt := 321) hM.x hM.b dL_law_316 (by decide) (fun _ => ?_) (fun cz => absurd em0 cz)
      refine lv_iinc (v := nI (j + 1)) (lv' := [(16, .int (nI (j + 1))), (17, .int (κ (8 + j) 5)), (13, .int (((dripP κ j) + (κ (8 + j) 4)))), (0, .ref b), (1, .ref (ad (0))), (2, .ref (ad (91))), (3, .int (nI (t))), (5, .int (nI (ns))), (6, .int (nI (nr))), (7, .ref (ad (136))), (8, .ref (ad (153))), (9, .ref (ad (154))), (10, .ref (ad (155))), (11, .ref (ad (156))), (12, .ref (ad (157))), (14, .ref (ad (158))), (15, .ref (ad (159)))]) hM.x hM.b dL_law_321 hl (k := 2) rfl (nI_1 (j)) (by decide) rfl (fun ls hl => ?_)
      refine lv_goto (tgt := 214) hM.x hM.b dL_law_324 (by decide) ?_
      refine W.widen (k := k1 + 9 * (j + 1)) (n := n1 + 54 * (j + 1)) (by omega) (by omega) ?_
      exact ih (j + 1) (by omega) κ1 hSκ1 (hF.of (by rw [← eκ1]; exact up2_row (by decide)) (by rw [← eκ1]; exact up2_row (by decide))) (by rw [← eκ1]; exact TS.add hS) H locs ls (lv_sub hl [0, 2, 3, 4, 5, 6, 7, 8, 9, 10, 11, 12, 13, 14, 15, 16] rfl) hw kk
set_option maxRecDepth 100000 in
set_option maxHeartbeats 4000000 in
theorem law_B {p : Program} {e : Env} {s : State} {m : MethodId} {args : Array Value} {below : List Frame} {meth : Method} {c : Code} {Q : State → Prop} {A : Nat → Prop} {D : va_G} {cA : Nat → ClassId} {L : List Nat} {ad : Nat → Nat} {nf ns nr : Nat} {b t k1 n1 : Nat} (l : Launch) (hlst : l.stackTraces = false) (hM : Ma A D cA p s m args meth c cL_law 27 RL) (hT : TW L ad nf ns nr) (hk1 : k1 ≤ 801000) (hn1 : n1 ≤ 6010000) {κ : Kp} (hR : RR nf ns nr κ) {j : Nat} (hjN : j < nr) (μ0 : Kp) : ∀ (n w : Nat), w + n = 4 → ∀ (μ : Kp), LoQ κ μ → (∀ x, x < w → μ (137 + j) x = κ (15 + 2 * j) x) → (∀ q, q ≠ 137 + j → μ q = μ0 q) → ∀ (H : Heap) (locs : List Loc) (ls : Array Slot), lv_has ls 27 [(18, .int (nI (w))), (17, .int (nI (j))), (16, .int (fatP κ j)), (13, .int (dripP κ ns)), (0, .ref b), (1, .ref (ad (0))), (2, .ref (ad (91))), (3, .int (nI (t))), (5, .int (nI (ns))), (6, .int (nI (nr))), (7, .ref (ad (136))), (8, .ref (ad (153))), (9, .ref (ad (154))), (10, .ref (ad (155))), (11, .ref (ad (156))), (12, .ref (ad (157))), (14, .ref (ad (158))), (15, .ref (ad (159)))] → Wa A D cA L ad s μ H locs → (∀ (μ : Kp) (H : Heap) (locs : List Loc) (ls : Array Slot), LoQ κ μ → (∀ x, x < 4 → μ (137 + j) x = κ (15 + 2 * j) x) → (∀ q, q ≠ 137 + j → μ q = μ0 q) → lv_has ls 27 [(17, .int (nI (j))), (16, .int (fatP κ j)), (13, .int (dripP κ ns)), (0, .ref b), (1, .ref (ad (0))), (2, .ref (ad (91))), (3, .int (nI (t))), (5, .int (nI (ns))), (6, .int (nI (nr))), (7, .ref (ad (136))), (8, .ref (ad (153))), (9, .ref (ad (154))), (10, .ref (ad (155))), (11, .ref (ad (156))), (12, .ref (ad (157))), (14, .ref (ad (158))), (15, .ref (ad (159)))] → Wa A D cA L ad s μ H locs → W p l e room_1 s m args below meth c H locs (k1 + 8) (n1 + 48) Q (F0 m 371 ls [])) → W p l e room_1 s m args below meth c H locs (k1 + 2 * w) (n1 + 12 * w) Q (F0 m 343 ls []) := by
  have hb := hR.b
  intro n
  induction n with
  | zero =>
    intro w hw4 μ hq hB hO H locs ls hl hw kk
    obtain rfl : w = 4 := by omega
    refine lv_iload hM.x hM.b dL_law_343 (lv_at hl 0 rfl) ?_
    refine lv_iconst (v := nI 4) hM.x hM.b dL_law_345 (by decide) ?_
    refine lv_icmp_ge (tgt := 371) hM.x hM.b dL_law_346 (by decide) (fun _ => ?_) (fun cz => absurd (by decide) cz)
    exact W.widen (by omega) (by omega) (kk μ H locs ls hq hB hO (lv_sub hl [1, 2, 3, 4, 5, 6, 7, 8, 9, 10, 11, 12, 13, 14, 15, 16, 17] rfl) hw)
  | succ n ih =>
    intro w hw4 μ hq hB hO H locs ls hl hw kk
    have hw5 : w < 4 := by omega
    refine lv_iload hM.x hM.b dL_law_343 (lv_at hl 0 rfl) ?_
    refine lv_iconst (v := nI 4) hM.x hM.b dL_law_345 (by decide) ?_
    refine lv_icmp_ge (tgt := 371) hM.x hM.b dL_law_346 (by decide) (fun cz => absurd cz (nI_ge (by omega) (by omega))) (fun _ => ?_)
    refine lv_aload hM.x hM.b dL_law_349 (lv_at hl 10 rfl) ?_
    refine lv_iload hM.x hM.b dL_law_351 (lv_at hl 1 rfl) ?_
    refine k_aldaN (i := j) (n := nr) (t := 1) (x := ad (137 + j)) hM hw hT.1.1 hT.s136 rfl hjN (by omega) (if_pos hjN) dL_law_353 ?_
    refine lv_iload hM.x hM.b dL_law_354 (lv_at hl 0 rfl) ?_
    refine lv_aload_n hM.x hM.b dL_law_356 rfl (lv_at hl 5 rfl) ?_
    refine lv_iload hM.x hM.b dL_law_357 (lv_at hl 1 rfl) ?_
    refine lv_iload hM.x hM.b dL_law_359 (lv_at hl 0 rfl) ?_
    refine k_xiK ((rd_roast hR hq hjN).2.2.2.2.2.1 w hw5) hw (k_runXV [.int (nI (j)), .int (nI (w))] [.int (nI (w)), .ref (ad (137 + j))] hM hw (m_X4_brownOf l ((D, L), cA, ad) μ _ (nI (j)) (nI (w)) hlst) (hw.dm kd_0 (by decide)) (sh4 kd_0) rfl (k_gV u_ml_L_140 u_im_X4_brownOf u_se_X4_brownOf u_ini_X4 u_co_X4_brownOf) (q_X4_brownOf) rfl rfl rfl ⟨(Nat.le_of_ble_eq_true rfl), (Nat.le_of_ble_eq_true rfl)⟩ hl.1 rfl (Nat.le_of_ble_eq_true rfl) dL_law_361 ⟨(by show _ ≤ (817018 : Nat); omega), (by show _ ≤ (6650127 : Nat); omega)⟩) (fun H locs hw => ?_)
    refine k_iastN (i := w) (n := 4) hM hw (hT.1.2 j hjN) (fun r => (sh27 (kdB j (by omega)))) hw5 (by decide) dL_law_364 (fun H locs hw => ?_)
    obtain ⟨κ1, eκ1⟩ : ∃ z : Kp, up2 μ (137 + j) (w) (κ (15 + 2 * j) w) = z := ⟨_, rfl⟩
    rw [eκ1] at hw
    have hSκ1 : LoQ κ κ1 := by rw [← eκ1]; exact (LoQ.up hq (by omega))
    refine lv_iinc (v := nI (w + 1)) (lv' := [(18, .int (nI (w + 1))), (17, .int (nI (j))), (16, .int (fatP κ j)), (13, .int (dripP κ ns)), (0, .ref b), (1, .ref (ad (0))), (2, .ref (ad (91))), (3, .int (nI (t))), (5, .int (nI (ns))), (6, .int (nI (nr))), (7, .ref (ad (136))), (8, .ref (ad (153))), (9, .ref (ad (154))), (10, .ref (ad (155))), (11, .ref (ad (156))), (12, .ref (ad (157))), (14, .ref (ad (158))), (15, .ref (ad (159)))]) hM.x hM.b dL_law_365 hl (k := 0) rfl (nI_1 (w)) (by decide) rfl (fun ls hl => ?_)
    refine lv_goto (tgt := 343) hM.x hM.b dL_law_368 (by decide) ?_
    refine W.widen (k := k1 + 2 * (w + 1)) (n := n1 + 12 * (w + 1)) (by omega) (by omega) ?_
    refine ih (w + 1) (by omega) κ1 hSκ1 (fun x hx => ?_) (fun q hq2 => ?_) H locs ls (lv_sub hl [0, 1, 2, 3, 4, 5, 6, 7, 8, 9, 10, 11, 12, 13, 14, 15, 16, 17] rfl) hw kk
    · rw [← eκ1]
      by_cases c : x = w
      · subst c; exact up2_self _ _ _ _
      · rw [up2_ne _ _ (Or.inr c)]; exact hB x (by omega)
    · rw [← eκ1, up2_row hq2]; exact hO q hq2
set_option maxRecDepth 100000 in
set_option maxHeartbeats 4000000 in
theorem law_R {p : Program} {e : Env} {s : State} {m : MethodId} {args : Array Value} {below : List Frame} {meth : Method} {c : Code} {Q : State → Prop} {A : Nat → Prop} {D : va_G} {cA : Nat → ClassId} {L : List Nat} {ad : Nat → Nat} {nf ns nr : Nat} {b t k1 n1 : Nat} (l : Launch) (hlst : l.stackTraces = false) (hM : Ma A D cA p s m args meth c cL_law 27 RL) (hT : TW L ad nf ns nr) (hk1 : k1 ≤ 800000) (hn1 : n1 ≤ 6000000) {κ : Kp} (hR : RR nf ns nr κ) : ∀ (n j : Nat), j + n = nr → ∀ (μ : Kp), LoQ κ μ → TF κ μ nf → TS κ μ ns → TR κ μ j → ∀ (H : Heap) (locs : List Loc) (ls : Array Slot), lv_has ls 27 [(17, .int (nI (j))), (16, .int (fatP κ j)), (13, .int (dripP κ ns)), (0, .ref b), (1, .ref (ad (0))), (2, .ref (ad (91))), (3, .int (nI (t))), (5, .int (nI (ns))), (6, .int (nI (nr))), (7, .ref (ad (136))), (8, .ref (ad (153))), (9, .ref (ad (154))), (10, .ref (ad (155))), (11, .ref (ad (156))), (12, .ref (ad (157))), (14, .ref (ad (158))), (15, .ref (ad (159)))] → Wa A D cA L ad s μ H locs → (∀ (μ : Kp) (H : Heap) (locs : List Loc) (ls : Array Slot), LoQ κ μ → TF κ μ nf → TS κ μ ns → TR κ μ nr → lv_has ls 27 [(16, .int (fatP κ nr)), (13, .int (dripP κ ns)), (0, .ref b), (1, .ref (ad (0))), (2, .ref (ad (91))), (3, .int (nI (t))), (5, .int (nI (ns))), (6, .int (nI (nr))), (7, .ref (ad (136))), (8, .ref (ad (153))), (9, .ref (ad (154))), (10, .ref (ad (155))), (11, .ref (ad (156))), (12, .ref (ad (157))), (14, .ref (ad (158))), (15, .ref (ad (159)))] → Wa A D cA L ad s μ H locs → W p l e room_1 s m args below meth c H locs (k1 + 256) (n1 + 1536) Q (F0 m 532 ls [])) → W p l e room_1 s m args below meth c H locs (k1 + 16 * j) (n1 + 96 * j) Q (F0 m 333 ls []) := by
  have hb := hR.b
  intro n
  induction n with
  | zero =>
    intro j hj μ hq hF hS hTr H locs ls hl hw kk
    obtain rfl : j = nr := by omega
    refine lv_iload hM.x hM.b dL_law_333 (lv_at hl 0 rfl) ?_
    refine lv_iload hM.x hM.b dL_law_335 (lv_at hl 8 rfl) ?_
    refine lv_icmp_ge (tgt := 532) hM.x hM.b dL_law_337 (by decide) (fun _ => ?_) (fun cz => absurd (nI_le (by omega) (by omega)) cz)
    exact W.widen (by omega) (by omega) (kk μ H locs ls hq hF hS hTr (lv_sub hl [1, 2, 3, 4, 5, 6, 7, 8, 9, 10, 11, 12, 13, 14, 15, 16] rfl) hw)
  | succ n ih =>
    intro j hj μ hq hF hS hTr H locs ls hl hw kk
    have hjN : j < nr := by omega
    have rf := fat_rng hR hjN
    have rw_ := rng (n := 3) (wet_in hR.1 hjN) (by decide)
    have rs := rng (n := 3) (side_in hR.1 hjN) (by decide)
    refine lv_iload hM.x hM.b dL_law_333 (lv_at hl 0 rfl) ?_
    refine lv_iload hM.x hM.b dL_law_335 (lv_at hl 8 rfl) ?_
    refine lv_icmp_ge (tgt := 532) hM.x hM.b dL_law_337 (by decide) (fun cz => absurd cz (nI_ge (by omega) (by omega))) (fun _ => ?_)
    refine lv_iconst (v := nI 0) hM.x hM.b dL_law_340 (by decide) ?_
    refine lv_istore (lv' := [(18, .int (nI (0))), (17, .int (nI (j))), (16, .int (fatP κ j)), (13, .int (dripP κ ns)), (0, .ref b), (1, .ref (ad (0))), (2, .ref (ad (91))), (3, .int (nI (t))), (5, .int (nI (ns))), (6, .int (nI (nr))), (7, .ref (ad (136))), (8, .ref (ad (153))), (9, .ref (ad (154))), (10, .ref (ad (155))), (11, .ref (ad (156))), (12, .ref (ad (157))), (14, .ref (ad (158))), (15, .ref (ad (159)))]) hM.x hM.b dL_law_341 hl (by decide) rfl (fun ls hl => ?_)
    refine W.widen (k := k1 + 16 * j + 2 * 0) (n := n1 + 96 * j + 12 * 0) (by omega) (by omega) ?_
    refine law_B l hlst hM hT (k1 := k1 + 16 * j) (n1 := n1 + 96 * j) (by omega) (by omega) hR hjN μ 4 0 rfl μ hq (fun x hx => absurd hx (Nat.not_lt_zero x)) (fun _ _ => rfl) H locs ls (lv_sub hl [0, 1, 2, 3, 4, 5, 6, 7, 8, 9, 10, 11, 12, 13, 14, 15, 16, 17] rfl) hw (fun μ0 H locs ls hq0 hB hO hl hw => ?_)
    refine lv_aload hM.x hM.b dL_law_371 (lv_at hl 10 rfl) ?_
    refine lv_iload hM.x hM.b dL_law_373 (lv_at hl 0 rfl) ?_
    refine lv_aload_n hM.x hM.b dL_law_375 rfl (lv_at hl 4 rfl) ?_
    refine lv_iload hM.x hM.b dL_law_376 (lv_at hl 0 rfl) ?_
    refine k_xiK (rd_roast hR hq0 hjN).2.2.2.1 hw (k_runXV [.int (nI (j))] [.int (nI (j)), .ref (ad (153))] hM hw (m_X4_fatOf l ((D, L), cA, ad) μ0 _ (nI (j)) hlst) (hw.dm kd_0 (by decide)) (sh4 kd_0) rfl (k_gV u_ml_L_143 u_im_X4_fatOf u_se_X4_fatOf u_ini_X4 u_co_X4_fatOf) (q_X4_fatOf) rfl rfl rfl ⟨(Nat.le_of_ble_eq_true rfl), (Nat.le_of_ble_eq_true rfl)⟩ hl.1 rfl (Nat.le_of_ble_eq_true rfl) dL_law_378 ⟨(by show _ ≤ (817018 : Nat); omega), (by show _ ≤ (6650127 : Nat); omega)⟩) (fun H locs hw => ?_)
    refine k_iastN (i := j) (n := nr) hM hw (hT.m 153 (by decide) (by decide)) (fun r => (hT.s153)) hjN (by omega) dL_law_381 (fun H locs hw => ?_)
    obtain ⟨κ1, eκ1⟩ : ∃ z : Kp, up2 μ0 (153) (j) (κ (14 + 2 * j) 4) = z := ⟨_, rfl⟩
    rw [eκ1] at hw
    have hSκ1 : LoQ κ κ1 := by rw [← eκ1]; exact (LoQ.up hq0 (by omega))
    refine lv_aload hM.x hM.b dL_law_382 (lv_at hl 11 rfl) ?_
    refine lv_iload hM.x hM.b dL_law_384 (lv_at hl 0 rfl) ?_
    refine lv_aload_n hM.x hM.b dL_law_386 rfl (lv_at hl 4 rfl) ?_
    refine lv_iload hM.x hM.b dL_law_387 (lv_at hl 0 rfl) ?_
    refine k_xiK (rd_roast hR hSκ1 hjN).2.2.1 hw (k_runXV [.int (nI (j))] [.int (nI (j)), .ref (ad (154))] hM hw (m_X4_sideToFire l ((D, L), cA, ad) κ1 _ (nI (j)) hlst) (hw.dm kd_0 (by decide)) (sh4 kd_0) rfl (k_gV u_ml_L_146 u_im_X4_sideToFire u_se_X4_sideToFire u_ini_X4 u_co_X4_sideToFire) (q_X4_sideToFire) rfl rfl rfl ⟨(Nat.le_of_ble_eq_true rfl), (Nat.le_of_ble_eq_true rfl)⟩ hl.1 rfl (Nat.le_of_ble_eq_true rfl) dL_law_389 ⟨(by show _ ≤ (817018 : Nat); omega), (by show _ ≤ (6650127 : Nat); omega)⟩) (fun H locs hw => ?_)
    refine k_iastN (i := j) (n := nr) hM hw (hT.m 154 (by decide) (by decide)) (fun r => (hT.s154)) hjN (by omega) dL_law_392 (fun H locs hw => ?_)
    obtain ⟨κ2, eκ2⟩ : ∃ z : Kp, up2 κ1 (154) (j) (κ (14 + 2 * j) 3) = z := ⟨_, rfl⟩
    rw [eκ2] at hw
    have hSκ2 : LoQ κ κ2 := by rw [← eκ2]; exact (LoQ.up hSκ1 (by omega))
    refine lv_aload hM.x hM.b dL_law_393 (lv_at hl 12 rfl) ?_
    refine lv_iload hM.x hM.b dL_law_395 (lv_at hl 0 rfl) ?_
    refine lv_aload_n hM.x hM.b dL_law_397 rfl (lv_at hl 4 rfl) ?_
    refine lv_iload hM.x hM.b dL_law_398 (lv_at hl 0 rfl) ?_
    refine k_xiK (rd_roast hR hSκ2 hjN).2.2.2.2.1 hw (k_runXV [.int (nI (j))] [.int (nI (j)), .ref (ad (155))] hM hw (m_X4_wetFor l ((D, L), cA, ad) κ2 _ (nI (j)) hlst) (hw.dm kd_0 (by decide)) (sh4 kd_0) rfl (k_gV u_ml_L_149 u_im_X4_wetFor u_se_X4_wetFor u_ini_X4 u_co_X4_wetFor) (q_X4_wetFor) rfl rfl rfl ⟨(Nat.le_of_ble_eq_true rfl), (Nat.le_of_ble_eq_true rfl)⟩ hl.1 rfl (Nat.le_of_ble_eq_true rfl) dL_law_400 ⟨(by show _ ≤ (817018 : Nat); omega), (by show _ ≤ (6650127 : Nat); omega)⟩) (fun H locs hw => ?_)
    refine k_iastN (i := j) (n := nr) hM hw (hT.m 155 (by decide) (by decide)) (fun r => (hT.s155)) hjN (by omega) dL_law_403 (fun H locs hw => ?_)
    obtain ⟨κ3, eκ3⟩ : ∃ z : Kp, up2 κ2 (155) (j) (κ (14 + 2 * j) 5) = z := ⟨_, rfl⟩
    rw [eκ3] at hw
    have hSκ3 : LoQ κ κ3 := by rw [← eκ3]; exact (LoQ.up hSκ2 (by omega))
    refine lv_aload hM.x hM.b dL_law_404 (lv_at hl 13 rfl) ?_
    refine lv_iload hM.x hM.b dL_law_406 (lv_at hl 0 rfl) ?_
    refine lv_aload_n hM.x hM.b dL_law_408 rfl (lv_at hl 4 rfl) ?_
    refine lv_iload hM.x hM.b dL_law_409 (lv_at hl 0 rfl) ?_
    refine k_xiK (rd_roast hR hSκ3 hjN).2.2.2.2.2.2.2 hw (k_runXV [.int (nI (j))] [.int (nI (j)), .ref (ad (156))] hM hw (m_X4_isBurnt l ((D, L), cA, ad) κ3 _ (nI (j)) hlst) (hw.dm kd_0 (by decide)) (sh4 kd_0) rfl (k_gV u_ml_L_152 u_im_X4_isBurnt u_se_X4_isBurnt u_ini_X4 u_co_X4_isBurnt) (q_X4_isBurnt) rfl rfl rfl ⟨(Nat.le_of_ble_eq_true rfl), (Nat.le_of_ble_eq_true rfl)⟩ hl.1 rfl (Nat.le_of_ble_eq_true rfl) dL_law_411 ⟨(by show _ ≤ (817018 : Nat); omega), (by show _ ≤ (6650127 : Nat); omega)⟩) (fun H locs hw => ?_)
    refine k_zast (n := nr) hM hw (hT.m 156 (by decide) (by decide)) (fun r => hT.s156) (vp_in_nI hjN (by omega)) (bi_nar _) dL_law_414 (fun H locs hw => ?_)
    rw [nI_clamp (by omega)] at hw
    obtain ⟨κ4, eκ4⟩ : ∃ z : Kp, up2 κ3 156 j (bi (f_X2_burnt κ (14 + 2 * j))) = z := ⟨_, rfl⟩
    rw [eκ4] at hw
    have hSκ4 : LoQ κ κ4 := by rw [← eκ4]; exact (LoQ.up hSκ3 (by omega))
    have hrow : TRr κ κ4 j := by
      refine ⟨by rw [← eκ4, up2_row (by decide), ← eκ3, up2_row (by decide), ← eκ2, up2_row (by decide), ← eκ1]; exact up2_self _ _ _ _, by rw [← eκ4, up2_row (by decide), ← eκ3, up2_row (by decide), ← eκ2]; exact up2_self _ _ _ _, by rw [← eκ4, up2_row (by decide), ← eκ3]; exact up2_self _ _ _ _, by rw [← eκ4]; exact up2_self _ _ _ _, fun w hw9 => ?_⟩
      rw [← eκ4, up2_row (by omega), ← eκ3, up2_row (by omega), ← eκ2, up2_row (by omega), ← eκ1, up2_row (by omega)]; exact hB w hw9
    have hTr2 : TR κ κ4 (j + 1) := hTr.add (by omega) (fun q q1 q2 q3 => by rw [← eκ4, up2_row (by omega), ← eκ3, up2_row (by omega), ← eκ2, up2_row (by omega), ← eκ1, up2_row (by omega)]; exact hO q q3) (fun q q1 q2 i hi => by rw [← eκ4, up2_ne _ _ (Or.inr hi), ← eκ3, up2_ne _ _ (Or.inr hi), ← eκ2, up2_ne _ _ (Or.inr hi), ← eκ1, up2_ne _ _ (Or.inr hi), hO q (by omega)]) hrow
    have hoth : ∀ q, 157 ≤ q → κ4 q = μ q := fun q hq9 => by rw [← eκ4, up2_row (by omega), ← eκ3, up2_row (by omega), ← eκ2, up2_row (by omega), ← eκ1, up2_row (by omega)]; exact hO q (by omega)
    refine lv_iload hM.x hM.b dL_law_415 (lv_at hl 1 rfl) ?_
    refine lv_aload hM.x hM.b dL_law_417 (lv_at hl 10 rfl) ?_
    refine lv_iload hM.x hM.b dL_law_419 (lv_at hl 0 rfl) ?_
    refine k_ialdN (i := j) (n := nr) hM hw (hT.m 153 (by decide) (by decide)) ((hT.s153)) hjN (by omega) dL_law_421 ?_
    rw [show κ4 (153) (j) = κ (14 + 2 * j) 4 from hrow.1]
    refine lv_iadd hM.x hM.b dL_law_422 ?_
    refine lv_istore (lv' := [(16, .int (((fatP κ j) + (κ (14 + 2 * j) 4)))), (17, .int (nI (j))), (13, .int (dripP κ ns)), (0, .ref b), (1, .ref (ad (0))), (2, .ref (ad (91))), (3, .int (nI (t))), (5, .int (nI (ns))), (6, .int (nI (nr))), (7, .ref (ad (136))), (8, .ref (ad (153))), (9, .ref (ad (154))), (10, .ref (ad (155))), (11, .ref (ad (156))), (12, .ref (ad (157))), (14, .ref (ad (158))), (15, .ref (ad (159)))]) hM.x hM.b dL_law_423 hl (by decide) rfl (fun ls hl => ?_)
    refine lv_aload_n hM.x hM.b dL_law_425 rfl (lv_at hl 4 rfl) ?_
    refine lv_iload hM.x hM.b dL_law_426 (lv_at hl 1 rfl) ?_
    refine k_xiK (rd_roast hR hSκ4 hjN).2.1 hw (k_runXV [.int (nI (j))] [] hM hw (m_X4_spitOf l ((D, L), cA, ad) κ4 _ (nI (j)) hlst) (hw.dm kd_0 (by decide)) (sh4 kd_0) rfl (k_gV u_ml_L_137 u_im_X4_spitOf u_se_X4_spitOf u_ini_X4 u_co_X4_spitOf) (q_X4_spitOf) rfl rfl rfl ⟨(Nat.le_of_ble_eq_true rfl), (Nat.le_of_ble_eq_true rfl)⟩ hl.1 rfl (Nat.le_of_ble_eq_true rfl) dL_law_428 ⟨(by show _ ≤ (817018 : Nat); omega), (by show _ ≤ (6650127 : Nat); omega)⟩) (fun H locs hw => ?_)
    refine lv_istore (lv' := [(18, .int (κ (14 + 2 * j) 2)), (16, .int (((fatP κ j) + (κ (14 + 2 * j) 4)))), (17, .int (nI (j))), (13, .int (dripP κ ns)), (0, .ref b), (1, .ref (ad (0))), (2, .ref (ad (91))), (3, .int (nI (t))), (5, .int (nI (ns))), (6, .int (nI (nr))), (7, .ref (ad (136))), (8, .ref (ad (153))), (9, .ref (ad (154))), (10, .ref (ad (155))), (11, .ref (ad (156))), (12, .ref (ad (157))), (14, .ref (ad (158))), (15, .ref (ad (159)))]) hM.x hM.b dL_law_431 hl (by decide) rfl (fun ls hl => ?_)
    refine lv_aload hM.x hM.b dL_law_433 (lv_at hl 11 rfl) ?_
    refine lv_iload hM.x hM.b dL_law_435 (lv_at hl 2 rfl) ?_
    refine k_ialdN (i := j) (n := nr) hM hw (hT.m 153 (by decide) (by decide)) ((hT.s153)) hjN (by omega) dL_law_437 ?_
    refine lv_if_lt (tgt := 524) hM.x hM.b dL_law_438 (by decide) (fun cz => absurd cz (by rw [hrow.1]; exact rf.1)) (fun _ => ?_)
    refine lv_aload hM.x hM.b dL_law_441 (lv_at hl 11 rfl) ?_
    refine lv_iload hM.x hM.b dL_law_443 (lv_at hl 2 rfl) ?_
    refine k_ialdN (i := j) (n := nr) hM hw (hT.m 153 (by decide) (by decide)) ((hT.s153)) hjN (by omega) dL_law_445 ?_
    refine lv_iconst (v := 3) hM.x hM.b dL_law_446 (by decide) ?_
    refine lv_aload_n hM.x hM.b dL_law_447 rfl (lv_at hl 5 rfl) ?_
    refine lv_iload hM.x hM.b dL_law_448 (lv_at hl 2 rfl) ?_
    refine k_xiK (rd_roast hR hSκ4 hjN).1 hw (k_runXV [.int (nI (j))] [.int (3), .int (κ4 (153) (j))] hM hw (m_X4_poundsOf l ((D, L), cA, ad) κ4 _ (nI (j)) hlst) (hw.dm kd_0 (by decide)) (sh4 kd_0) rfl (k_gV u_ml_L_156 u_im_X4_poundsOf u_se_X4_poundsOf u_ini_X4 u_co_X4_poundsOf) (q_X4_poundsOf) rfl rfl rfl ⟨(Nat.le_of_ble_eq_true rfl), (Nat.le_of_ble_eq_true rfl)⟩ hl.1 rfl (Nat.le_of_ble_eq_true rfl) dL_law_450 ⟨(by show _ ≤ (817018 : Nat); omega), (by show _ ≤ (6650127 : Nat); omega)⟩) (fun H locs hw => ?_)
    refine lv_imul hM.x hM.b dL_law_453 ?_
    refine lv_icmp_gt (tgt := 524) hM.x hM.b dL_law_454 (by decide) (fun cz => absurd cz (by rw [hrow.1]; exact rf.2)) (fun _ => ?_)
    refine lv_aload hM.x hM.b dL_law_457 (lv_at hl 13 rfl) ?_
    refine lv_iload hM.x hM.b dL_law_459 (lv_at hl 2 rfl) ?_
    refine k_ialdN (i := j) (n := nr) hM hw (hT.m 155 (by decide) (by decide)) ((hT.s155)) hjN (by omega) dL_law_461 ?_
    refine lv_if_lt (tgt := 524) hM.x hM.b dL_law_462 (by decide) (fun cz => absurd cz (by rw [hrow.2.2.1]; exact rw_.1)) (fun _ => ?_)
    refine lv_aload hM.x hM.b dL_law_465 (lv_at hl 13 rfl) ?_
    refine lv_iload hM.x hM.b dL_law_467 (lv_at hl 2 rfl) ?_
    refine k_ialdN (i := j) (n := nr) hM hw (hT.m 155 (by decide) (by decide)) ((hT.s155)) hjN (by omega) dL_law_469 ?_
    refine lv_iconst (v := 3) hM.x hM.b dL_law_470 (by decide) ?_
    refine lv_icmp_gt (tgt := 524) hM.x hM.b dL_law_471 (by decide) (fun cz => absurd cz (by rw [hrow.2.2.1]; exact rw_.2.1)) (fun _ => ?_)
    refine lv_aload hM.x hM.b dL_law_474 (lv_at hl 12 rfl) ?_
    refine lv_iload hM.x hM.b dL_law_476 (lv_at hl 2 rfl) ?_
    refine k_ialdN (i := j) (n := nr) hM hw (hT.m 154 (by decide) (by decide)) ((hT.s154)) hjN (by omega) dL_law_478 ?_
    refine lv_if_lt (tgt := 524) hM.x hM.b dL_law_479 (by decide) (fun cz => absurd cz (by rw [hrow.2.1]; exact rs.1)) (fun _ => ?_)
    refine lv_aload hM.x hM.b dL_law_482 (lv_at hl 12 rfl) ?_
    refine lv_iload hM.x hM.b dL_law_484 (lv_at hl 2 rfl) ?_
    refine k_ialdN (i := j) (n := nr) hM hw (hT.m 154 (by decide) (by decide)) ((hT.s154)) hjN (by omega) dL_law_486 ?_
    refine lv_iconst (v := 3) hM.x hM.b dL_law_487 (by decide) ?_
    refine lv_icmp_gt (tgt := 524) hM.x hM.b dL_law_488 (by decide) (fun cz => absurd cz (by rw [hrow.2.1]; exact rs.2.1)) (fun _ => ?_)
    refine lv_aload hM.x hM.b dL_law_491 (lv_at hl 14 rfl) ?_
    refine lv_iload hM.x hM.b dL_law_493 (lv_at hl 2 rfl) ?_
    refine k_zald (n := nr) hM hw (hT.m 156 (by decide) (by decide)) hT.s156 (vp_in_nI hjN (by omega)) dL_law_495 ?_
    rw [nI_clamp (by omega)]
    refine lv_if_eq (tgt := 508) hM.x hM.b dL_law_496 (by decide) (fun c1 => ?_) (fun c1 => ?_)
    · skip
      refine lv_iload hM.x hM.b dL_law_508 (lv_at hl 0 rfl) ?_
      refine lv_if_lt (tgt := 526) hM.x hM.b dL_law_510 (by decide) (fun c2 => ?_) (fun c2 => ?_)
      · skip
        refine lv_iinc (v := nI (j + 1)) (lv' := [(17, .int (nI (j + 1))), (18, .int (κ (14 + 2 * j) 2)), (16, .int (((fatP κ j) + (κ (14 + 2 * j) 4)))), (13, .int (dripP κ ns)), (0, .ref b), (1, .ref (ad (0))), (2, .ref (ad (91))), (3, .int (nI (t))), (5, .int (nI (ns))), (6, .int (nI (nr))), (7, .ref (ad (136))), (8, .ref (ad (153))), (9, .ref (ad (154))), (10, .ref (ad (155))), (11, .ref (ad (156))), (12, .ref (ad (157))), (14, .ref (ad (158))), (15, .ref (ad (159)))]) hM.x hM.b dL_law_526 hl (k := 2) rfl (nI_1 (j)) (by decide) rfl (fun ls hl => ?_)
        refine lv_goto (tgt := 333) hM.x hM.b dL_law_529 (by decide) ?_
        refine W.widen (k := k1 + 16 * (j + 1)) (n := n1 + 96 * (j + 1)) (by omega) (by omega) ?_
        exact ih (j + 1) (by omega) κ4 hSκ4 (hF.of (hoth 158 (by decide)) (hoth 159 (by decide))) (hS.of (hoth 157 (by decide))) hTr2 H locs ls (lv_sub hl [0, 2, 3, 4, 5, 6, 7, 8, 9, 10, 11, 12, 13, 14, 15, 16, 17] rfl) hw kk
      · skip
        obtain ⟨i0, hi0, -, ei0, em0, -⟩ := hR.1.2.2.2.2.sp hb.2.1 (by omega) c2
        refine lv_aload_n hM.x hM.b dL_law_513 rfl (lv_at hl 5 rfl) ?_
        refine lv_iload hM.x hM.b dL_law_514 (lv_at hl 0 rfl) ?_
        rw [ei0]
        refine k_xiK (rd_spit hR hSκ4 hi0).2.2.2.2.1 hw (k_runXV [.int (nI (i0))] [] hM hw (m_X4_roastOn l ((D, L), cA, ad) κ4 _ (nI (i0)) hlst) (hw.dm kd_0 (by decide)) (sh4 kd_0) rfl (k_gV u_ml_L_128 u_im_X4_roastOn u_se_X4_roastOn u_ini_X4 u_co_X4_roastOn) (q_X4_roastOn) rfl rfl rfl ⟨(Nat.le_of_ble_eq_true rfl), (Nat.le_of_ble_eq_true rfl)⟩ hl.1 rfl (Nat.le_of_ble_eq_true rfl) dL_law_516 ⟨(by show _ ≤ (817018 : Nat); omega), (by show _ ≤ (6650127 : Nat); omega)⟩) (fun H locs hw => ?_)
        refine lv_iload hM.x hM.b dL_law_519 (lv_at hl 2 rfl) ?_
        refine lv_icmp_eq (tgt := 526) hM.x hM.b dL_law_521 (by decide) (fun _ => ?_) (fun cz => absurd em0 cz)
        refine lv_iinc (v := nI (j + 1)) (lv' := [(17, .int (nI (j + 1))), (18, .int (κ (14 + 2 * j) 2)), (16, .int (((fatP κ j) + (κ (14 + 2 * j) 4)))), (13, .int (dripP κ ns)), (0, .ref b), (1, .ref (ad (0))), (2, .ref (ad (91))), (3, .int (nI (t))), (5, .int (nI (ns))), (6, .int (nI (nr))), (7, .ref (ad (136))), (8, .ref (ad (153))), (9, .ref (ad (154))), (10, .ref (ad (155))), (11, .ref (ad (156))), (12, .ref (ad (157))), (14, .ref (ad (158))), (15, .ref (ad (159)))]) hM.x hM.b dL_law_526 hl (k := 2) rfl (nI_1 (j)) (by decide) rfl (fun ls hl => ?_)
        refine lv_goto (tgt := 333) hM.x hM.b dL_law_529 (by decide) ?_
        refine W.widen (k := k1 + 16 * (j + 1)) (n := n1 + 96 * (j + 1)) (by omega) (by omega) ?_
        exact ih (j + 1) (by omega) κ4 hSκ4 (hF.of (hoth 158 (by decide)) (hoth 159 (by decide))) (hS.of (hoth 157 (by decide))) hTr2 H locs ls (lv_sub hl [0, 2, 3, 4, 5, 6, 7, 8, 9, 10, 11, 12, 13, 14, 15, 16, 17] rfl) hw kk
    · skip
      refine lv_aload_n hM.x hM.b dL_law_499 rfl (lv_at hl 5 rfl) ?_
      refine lv_iload hM.x hM.b dL_law_500 (lv_at hl 2 rfl) ?_
      refine k_xiK (rd_roast hR hSκ4 hjN).2.2.2.2.2.2.1 hw (k_runXV [.int (nI (j))] [] hM hw (m_X4_isDone l ((D, L), cA, ad) κ4 _ (nI (j)) hlst) (hw.dm kd_0 (by decide)) (sh4 kd_0) rfl (k_gV u_ml_L_159 u_im_X4_isDone u_se_X4_isDone u_ini_X4 u_co_X4_isDone) (q_X4_isDone) rfl rfl rfl ⟨(Nat.le_of_ble_eq_true rfl), (Nat.le_of_ble_eq_true rfl)⟩ hl.1 rfl (Nat.le_of_ble_eq_true rfl) dL_law_502 ⟨(by show _ ≤ (817018 : Nat); omega), (by show _ ≤ (6650127 : Nat); omega)⟩) (fun H locs hw => ?_)
      refine lv_if_ne (tgt := 524) hM.x hM.b dL_law_505 (by decide) (fun cz => absurd (by rw [not_both (bi_ne (fun z => c1 (hrow.2.2.2.1.trans z)))]; rfl) cz) (fun _ => ?_)
      refine lv_iload hM.x hM.b dL_law_508 (lv_at hl 0 rfl) ?_
      refine lv_if_lt (tgt := 526) hM.x hM.b dL_law_510 (by decide) (fun c3 => ?_) (fun c3 => ?_)
      · skip
        refine lv_iinc (v := nI (j + 1)) (lv' := [(17, .int (nI (j + 1))), (18, .int (κ (14 + 2 * j) 2)), (16, .int (((fatP κ j) + (κ (14 + 2 * j) 4)))), (13, .int (dripP κ ns)), (0, .ref b), (1, .ref (ad (0))), (2, .ref (ad (91))), (3, .int (nI (t))), (5, .int (nI (ns))), (6, .int (nI (nr))), (7, .ref (ad (136))), (8, .ref (ad (153))), (9, .ref (ad (154))), (10, .ref (ad (155))), (11, .ref (ad (156))), (12, .ref (ad (157))), (14, .ref (ad (158))), (15, .ref (ad (159)))]) hM.x hM.b dL_law_526 hl (k := 2) rfl (nI_1 (j)) (by decide) rfl (fun ls hl => ?_)
        refine lv_goto (tgt := 333) hM.x hM.b dL_law_529 (by decide) ?_
        refine W.widen (k := k1 + 16 * (j + 1)) (n := n1 + 96 * (j + 1)) (by omega) (by omega) ?_
        exact ih (j + 1) (by omega) κ4 hSκ4 (hF.of (hoth 158 (by decide)) (hoth 159 (by decide))) (hS.of (hoth 157 (by decide))) hTr2 H locs ls (lv_sub hl [0, 2, 3, 4, 5, 6, 7, 8, 9, 10, 11, 12, 13, 14, 15, 16, 17] rfl) hw kk
      · skip
        obtain ⟨i0, hi0, -, ei0, em0, -⟩ := hR.1.2.2.2.2.sp hb.2.1 (by omega) c3
        refine lv_aload_n hM.x hM.b dL_law_513 rfl (lv_at hl 5 rfl) ?_
        refine lv_iload hM.x hM.b dL_law_514 (lv_at hl 0 rfl) ?_
        rw [ei0]
        refine k_xiK (rd_spit hR hSκ4 hi0).2.2.2.2.1 hw (k_runXV [.int (nI (i0))] [] hM hw (m_X4_roastOn l ((D, L), cA, ad) κ4 _ (nI (i0)) hlst) (hw.dm kd_0 (by decide)) (sh4 kd_0) rfl (k_gV u_ml_L_128 u_im_X4_roastOn u_se_X4_roastOn u_ini_X4 u_co_X4_roastOn) (q_X4_roastOn) rfl rfl rfl ⟨(Nat.le_of_ble_eq_true rfl), (Nat.le_of_ble_eq_true rfl)⟩ hl.1 rfl (Nat.le_of_ble_eq_true rfl) dL_law_516 ⟨(by show _ ≤ (817018 : Nat); omega), (by show _ ≤ (6650127 : Nat); omega)⟩) (fun H locs hw => ?_)
        refine lv_iload hM.x hM.b dL_law_519 (lv_at hl 2 rfl) ?_
        refine lv_icmp_eq (tgt := 526) hM.x hM.b dL_law_521 (by decide) (fun _ => ?_) (fun cz => absurd em0 cz)
        refine lv_iinc (v := nI (j + 1)) (lv' := [(17, .int (nI (j + 1))), (18, .int (κ (14 + 2 * j) 2)), (16, .int (((fatP κ j) + (κ (14 + 2 * j) 4)))), (13, .int (dripP κ ns)), (0, .ref b), (1, .ref (ad (0))), (2, .ref (ad (91))), (3, .int (nI (t))), (5, .int (nI (ns))), (6, .int (nI (nr))), (7, .ref (ad (136))), (8, .ref (ad (153))), (9, .ref (ad (154))), (10, .ref (ad (155))), (11, .ref (ad (156))), (12, .ref (ad (157))), (14, .ref (ad (158))), (15, .ref (ad (159)))]) hM.x hM.b dL_law_526 hl (k := 2) rfl (nI_1 (j)) (by decide) rfl (fun ls hl => ?_)
        refine lv_goto (tgt := 333) hM.x hM.b dL_law_529 (by decide) ?_
        refine W.widen (k := k1 + 16 * (j + 1)) (n := n1 + 96 * (j + 1)) (by omega) (by omega) ?_
        exact ih (j + 1) (by omega) κ4 hSκ4 (hF.of (hoth 158 (by decide)) (hoth 159 (by decide))) (hS.of (hoth 157 (by decide))) hTr2 H locs ls (lv_sub hl [0, 2, 3, 4, 5, 6, 7, 8, 9, 10, 11, 12, 13, 14, 15, 16, 17] rfl) hw kk
