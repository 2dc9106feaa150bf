set_option maxRecDepth 100000 in
set_option maxHeartbeats 4000000 in
theorem same_F {p : Program} {e : Env} {s : State} {m : MethodId} {args : Array Value} {below : List Frame} {meth : Method} {c : Code} {Q : State → Prop} {A : Nat → Prop} {D : va_G} {cA : Nat → ClassId} {L : List Nat} {ad : Nat → Nat} {nf ns nr : Nat} {κ : Kp} (l : Launch) (hlst : l.stackTraces = false) (hM : Ma A D cA p s m args meth c cX6_isSame 6 RX6) (hL : Lm L ad nf ns nr []) (hR : RR nf ns nr κ)  : ∀ (n j : Nat), j + n = nf → ∀ (H : Heap) (locs : List Loc) (ls : Array Slot), lv_has ls 6 [(2, .int (nI (j))), (0, .ref (ad (91))), (1, .ref (ad (0)))] → Wa A D cA L ad s κ H locs → (∀ (H : Heap) (locs : List Loc) (ls : Array Slot), lv_has ls 6 [(0, .ref (ad (91))), (1, .ref (ad (0)))] → Wa A D cA L ad s κ H locs → W p l e { frames := 8, cells := 300, slots := 1800, locals := 250 } s m args below meth c H locs (2 * nf) (12 * nf) Q (F0 m 111 ls [])) → W p l e { frames := 8, cells := 300, slots := 1800, locals := 250 } s m args below meth c H locs (2 * j) (12 * j) Q (F0 m 62 ls []) := by
  have hb := hR.b
  intro n
  induction n with
  | zero =>
    intro j hj H locs ls hl hw kk
    obtain rfl : j = nf := by omega
    refine lv_iload_n hM.x hM.b dX6_isSame_62 rfl (lv_at hl 0 rfl) ?_
    refine lv_aload_n hM.x hM.b dX6_isSame_63 rfl (lv_at hl 1 rfl) ?_
    refine k_get6r 0 hM hw hL.m91 (by decide) u_fl_X6_15 dX6_isSame_64 ?_
    refine k_alenD (n := j) hM hw (hL.m92) 1 (lsh92 hL) rfl rfl dX6_isSame_67 ?_
    refine lv_icmp_ge (tgt := 111) hM.x hM.b dX6_isSame_68 (by decide) (fun _ => ?_) (fun cz => absurd (nI_le (by omega) (by omega)) cz)
    exact kk H locs ls (lv_sub hl [1, 2] rfl) hw
  | succ n ih =>
    intro j hj H locs ls hl hw kk
    have hjN : j < nf := by omega
    have hf1 := hR.2.2.1 j hjN
    refine lv_iload_n hM.x hM.b dX6_isSame_62 rfl (lv_at hl 0 rfl) ?_
    refine lv_aload_n hM.x hM.b dX6_isSame_63 rfl (lv_at hl 1 rfl) ?_
    refine k_get6r 0 hM hw hL.m91 (by decide) u_fl_X6_15 dX6_isSame_64 ?_
    refine k_alenD (n := nf) hM hw (hL.m92) 1 (lsh92 hL) rfl rfl dX6_isSame_67 ?_
    refine lv_icmp_ge (tgt := 111) hM.x hM.b dX6_isSame_68 (by decide) (fun cz => absurd cz (nI_ge (by omega) (by omega))) (fun _ => ?_)
    refine lv_aload_n hM.x hM.b dX6_isSame_71 rfl (lv_at hl 2 rfl) ?_
    refine lv_iload_n hM.x hM.b dX6_isSame_72 rfl (lv_at hl 0 rfl) ?_
    refine k_xiK (rd_fire hR (fun _ _ => rfl) hjN).1 hw (k_runXV [.int (nI (j))] [] hM hw (m_X4_logsOf l ((D, L), cA, ad) κ _ (nI (j)) hlst) (hw.dm kd_0 (by decide)) (sh4 kd_0) rfl (k_gV u_ml_X6_87 u_im_X4_logsOf u_se_X4_logsOf u_ini_X4 u_co_X4_logsOf) (q_X4_logsOf) rfl rfl rfl ⟨(Nat.le_of_ble_eq_true rfl), (Nat.le_of_ble_eq_true rfl)⟩ hl.1 rfl (Nat.le_of_ble_eq_true rfl) dX6_isSame_73 ⟨(by dsimp only; omega), (by dsimp only; omega)⟩) (fun H locs hw => ?_)
    refine lv_aload_n hM.x hM.b dX6_isSame_76 rfl (lv_at hl 1 rfl) ?_
    refine k_get6r 0 hM hw hL.m91 (by decide) u_fl_X6_15 dX6_isSame_77 ?_
    refine lv_iload_n hM.x hM.b dX6_isSame_80 rfl (lv_at hl 0 rfl) ?_
    refine k_aldaN (i := j) (n := nf) (t := 1) (x := ad (95 + (j))) hM hw (hL.m92) (lsh92 hL) rfl hjN (by omega) (if_pos hjN) dX6_isSame_81 ?_
    refine lv_iconst (v := 0) hM.x hM.b dX6_isSame_82 (by decide) ?_
    refine k_ialdN (i := 0) (n := 2) hM hw (hL.F hjN) (sh19 (kdF _ (hL.f3 hjN))) (by decide) (by decide) dX6_isSame_83 ?_
    refine lv_icmp_ne (tgt := 103) hM.x hM.b dX6_isSame_84 (by decide) (fun cz => absurd hf1.1 cz) (fun _ => ?_)
    refine lv_aload_n hM.x hM.b dX6_isSame_87 rfl (lv_at hl 2 rfl) ?_
    refine lv_iload_n hM.x hM.b dX6_isSame_88 rfl (lv_at hl 0 rfl) ?_
    refine k_xiK (rd_fire hR (fun _ _ => rfl) hjN).2 hw (k_runXV [.int (nI (j))] [] hM hw (m_X4_heatOf l ((D, L), cA, ad) κ _ (nI (j)) hlst) (hw.dm kd_0 (by decide)) (sh4 kd_0) rfl (k_gV u_ml_X6_90 u_im_X4_heatOf u_se_X4_heatOf u_ini_X4 u_co_X4_heatOf) (q_X4_heatOf) rfl rfl rfl ⟨(Nat.le_of_ble_eq_true rfl), (Nat.le_of_ble_eq_true rfl)⟩ hl.1 rfl (Nat.le_of_ble_eq_true rfl) dX6_isSame_89 ⟨(by dsimp only; omega), (by dsimp only; omega)⟩) (fun H locs hw => ?_)
    refine lv_aload_n hM.x hM.b dX6_isSame_92 rfl (lv_at hl 1 rfl) ?_
    refine k_get6r 0 hM hw hL.m91 (by decide) u_fl_X6_15 dX6_isSame_93 ?_
    refine lv_iload_n hM.x hM.b dX6_isSame_96 rfl (lv_at hl 0 rfl) ?_
    refine k_aldaN (i := j) (n := nf) (t := 1) (x := ad (95 + (j))) hM hw (hL.m92) (lsh92 hL) rfl hjN (by omega) (if_pos hjN) dX6_isSame_97 ?_
    refine lv_iconst (v := 1) hM.x hM.b dX6_isSame_98 (by decide) ?_
    refine k_ialdN (i := 1) (n := 2) hM hw (hL.F hjN) (sh19 (kdF _ (hL.f3 hjN))) (by decide) (by decide) dX6_isSame_99 ?_
    refine lv_icmp_eq (tgt := 105) hM.x hM.b dX6_isSame_100 (by decide) (fun _ => ?_) (fun cz => absurd hf1.2 cz)
    refine lv_iinc (v := nI (j + 1)) (lv' := [(2, .int (nI (j + 1))), (0, .ref (ad (91))), (1, .ref (ad (0)))]) hM.x hM.b dX6_isSame_105 hl (k := 0) rfl (nI_1 (j)) (by decide) rfl (fun ls hl => ?_)
    refine lv_goto (tgt := 62) hM.x hM.b dX6_isSame_108 (by decide) ?_
    refine W.widen (k := 2 * (j + 1)) (n := 12 * (j + 1)) (by omega) (by omega) ?_
    exact ih (j + 1) (by omega) H locs ls (lv_sub hl [0, 1, 2] rfl) hw kk
set_option maxRecDepth 100000 in
set_option maxHeartbeats 4000000 in
theorem same_S {p : Program} {e : Env} {s : State} {m : MethodId} {args : Array Value} {below : List Frame} {meth : Method} {c : Code} {Q : State → Prop} {A : Nat → Prop} {D : va_G} {cA : Nat → ClassId} {L : List Nat} {ad : Nat → Nat} {nf ns nr : Nat} {κ : Kp} (l : Launch) (hlst : l.stackTraces = false) (hM : Ma A D cA p s m args meth c cX6_isSame 6 RX6) (hL : Lm L ad nf ns nr []) (hR : RR nf ns nr κ)  : ∀ (n j : Nat), j + n = ns → ∀ (H : Heap) (locs : List Loc) (ls : Array Slot), lv_has ls 6 [(2, .int (nI (j))), (0, .ref (ad (91))), (1, .ref (ad (0)))] → Wa A D cA L ad s κ H locs → (∀ (H : Heap) (locs : List Loc) (ls : Array Slot), lv_has ls 6 [(0, .ref (ad (91))), (1, .ref (ad (0)))] → Wa A D cA L ad s κ H locs → W p l e { frames := 8, cells := 300, slots := 1800, locals := 250 } s m args below meth c H locs (6 + 6 * ns) (36 + 36 * ns) Q (F0 m 223 ls [])) → W p l e { frames := 8, cells := 300, slots := 1800, locals := 250 } s m args below meth c H locs (6 + 6 * j) (36 + 36 * j) Q (F0 m 113 ls []) := by
  have hb := hR.b
  intro n
  induction n with
  | zero =>
    intro j hj H locs ls hl hw kk
    obtain rfl : j = ns := by omega
    refine lv_iload_n hM.x hM.b dX6_isSame_113 rfl (lv_at hl 0 rfl) ?_
    refine lv_aload_n hM.x hM.b dX6_isSame_114 rfl (lv_at hl 1 rfl) ?_
    refine k_get6r 1 hM hw hL.m91 (by decide) u_fl_X6_19 dX6_isSame_115 ?_
    refine k_alenD (n := j) hM hw (hL.m93) 1 (lsh93 hL) rfl rfl dX6_isSame_118 ?_
    refine lv_icmp_ge (tgt := 223) hM.x hM.b dX6_isSame_119 (by decide) (fun _ => ?_) (fun cz => absurd (nI_le (by omega) (by omega)) cz)
    exact kk H locs ls (lv_sub hl [1, 2] rfl) hw
  | succ n ih =>
    intro j hj H locs ls hl hw kk
    have hjN : j < ns := by omega
    have hs1 := hR.2.2.2.1 j hjN
    refine lv_iload_n hM.x hM.b dX6_isSame_113 rfl (lv_at hl 0 rfl) ?_
    refine lv_aload_n hM.x hM.b dX6_isSame_114 rfl (lv_at hl 1 rfl) ?_
    refine k_get6r 1 hM hw hL.m91 (by decide) u_fl_X6_19 dX6_isSame_115 ?_
    refine k_alenD (n := ns) hM hw (hL.m93) 1 (lsh93 hL) rfl rfl dX6_isSame_118 ?_
    refine lv_icmp_ge (tgt := 223) hM.x hM.b dX6_isSame_119 (by decide) (fun cz => absurd cz (nI_ge (by omega) (by omega))) (fun _ => ?_)
    refine lv_aload_n hM.x hM.b dX6_isSame_122 rfl (lv_at hl 2 rfl) ?_
    refine lv_iload_n hM.x hM.b dX6_isSame_123 rfl (lv_at hl 0 rfl) ?_
    refine k_xiK (rd_spit hR (fun _ _ => rfl) hjN).1 hw (k_runXV [.int (nI (j))] [] hM hw (m_X4_fireOf l ((D, L), cA, ad) κ _ (nI (j)) hlst) (hw.dm kd_0 (by decide)) (sh4 kd_0) rfl (k_gV u_ml_X6_93 u_im_X4_fireOf u_se_X4_fireOf u_ini_X4 u_co_X4_fireOf) (q_X4_fireOf) rfl rfl rfl ⟨(Nat.le_of_ble_eq_true rfl), (Nat.le_of_ble_eq_true rfl)⟩ hl.1 rfl (Nat.le_of_ble_eq_true rfl) dX6_isSame_124 ⟨(by dsimp only; omega), (by dsimp only; omega)⟩) (fun H locs hw => ?_)
    refine lv_aload_n hM.x hM.b dX6_isSame_127 rfl (lv_at hl 1 rfl) ?_
    refine k_get6r 1 hM hw hL.m91 (by decide) u_fl_X6_19 dX6_isSame_128 ?_
    refine lv_iload_n hM.x hM.b dX6_isSame_131 rfl (lv_at hl 0 rfl) ?_
    refine k_aldaN (i := j) (n := ns) (t := 1) (x := ad (98 + (j))) hM hw (hL.m93) (lsh93 hL) rfl hjN (by omega) (if_pos hjN) dX6_isSame_132 ?_
    refine lv_iconst (v := 0) hM.x hM.b dX6_isSame_133 (by decide) ?_
    refine k_ialdN (i := 0) (n := 6) hM hw (hL.S hjN) (sh20 (kdS _ (hL.s6 hjN))) (by decide) (by decide) dX6_isSame_134 ?_
    refine lv_icmp_ne (tgt := 215) hM.x hM.b dX6_isSame_135 (by decide) (fun cz => absurd hs1.1 cz) (fun _ => ?_)
    refine lv_aload_n hM.x hM.b dX6_isSame_138 rfl (lv_at hl 2 rfl) ?_
    refine lv_iload_n hM.x hM.b dX6_isSame_139 rfl (lv_at hl 0 rfl) ?_
    refine k_xiK (rd_spit hR (fun _ _ => rfl) hjN).2.1 hw (k_runXV [.int (nI (j))] [] hM hw (m_X4_feetOf l ((D, L), cA, ad) κ _ (nI (j)) hlst) (hw.dm kd_0 (by decide)) (sh4 kd_0) rfl (k_gV u_ml_X6_96 u_im_X4_feetOf u_se_X4_feetOf u_ini_X4 u_co_X4_feetOf) (q_X4_feetOf) rfl rfl rfl ⟨(Nat.le_of_ble_eq_true rfl), (Nat.le_of_ble_eq_true rfl)⟩ hl.1 rfl (Nat.le_of_ble_eq_true rfl) dX6_isSame_140 ⟨(by dsimp only; omega), (by dsimp only; omega)⟩) (fun H locs hw => ?_)
    refine lv_aload_n hM.x hM.b dX6_isSame_143 rfl (lv_at hl 1 rfl) ?_
    refine k_get6r 1 hM hw hL.m91 (by decide) u_fl_X6_19 dX6_isSame_144 ?_
    refine lv_iload_n hM.x hM.b dX6_isSame_147 rfl (lv_at hl 0 rfl) ?_
    refine k_aldaN (i := j) (n := ns) (t := 1) (x := ad (98 + (j))) hM hw (hL.m93) (lsh93 hL) rfl hjN (by omega) (if_pos hjN) dX6_isSame_148 ?_
    refine lv_iconst (v := 1) hM.x hM.b dX6_isSame_149 (by decide) ?_
    refine k_ialdN (i := 1) (n := 6) hM hw (hL.S hjN) (sh20 (kdS _ (hL.s6 hjN))) (by decide) (by decide) dX6_isSame_150 ?_
    refine lv_icmp_ne (tgt := 215) hM.x hM.b dX6_isSame_151 (by decide) (fun cz => absurd hs1.2.1 cz) (fun _ => ?_)
    refine lv_aload_n hM.x hM.b dX6_isSame_154 rfl (lv_at hl 2 rfl) ?_
    refine lv_iload_n hM.x hM.b dX6_isSame_155 rfl (lv_at hl 0 rfl) ?_
    refine k_xiK (rd_spit hR (fun _ _ => rfl) hjN).2.2.2.2.2 hw (k_runXV [.int (nI (j))] [] hM hw (m_X4_glowAt l ((D, L), cA, ad) κ _ (nI (j)) hlst) (hw.dm kd_0 (by decide)) (sh4 kd_0) rfl (k_gV u_ml_X6_99 u_im_X4_glowAt u_se_X4_glowAt u_ini_X4 u_co_X4_glowAt) (q_X4_glowAt) rfl rfl rfl ⟨(Nat.le_of_ble_eq_true rfl), (Nat.le_of_ble_eq_true rfl)⟩ hl.1 rfl (Nat.le_of_ble_eq_true rfl) dX6_isSame_156 ⟨(by dsimp only; omega), (by dsimp only; omega)⟩) (fun H locs hw => ?_)
    refine lv_aload_n hM.x hM.b dX6_isSame_159 rfl (lv_at hl 1 rfl) ?_
    refine lv_iload_n hM.x hM.b dX6_isSame_160 rfl (lv_at hl 0 rfl) ?_
    refine k_cip hw (k_runV [.int (nI (j))] [.int (gl κ j)] hM hw (m_X6_glow l ((D, L), cA, ad) κ _ (nI (j)) hL (SI_of hR.1 hR.2) (vp_in_nI (n := j) (N := ns) hjN (by omega)) ⟨by omega, by omega, by omega⟩) hL.m91 (sh15 kd_91) rfl (k_gV u_ml_X6_50 u_im_X6_glow u_se_X6_glow u_ini_X6 u_co_X6_glow) (q_X6_glow) rfl rfl rfl ⟨Nat.le_of_ble_eq_true rfl, Nat.le_of_ble_eq_true rfl⟩ hl.1 rfl (Nat.le_of_ble_eq_true rfl) dX6_isSame_161 ⟨(by dsimp only; omega), (by dsimp only; omega)⟩) (fun H locs hw => ?_)
    refine lv_icmp_ne (tgt := 215) hM.x hM.b dX6_isSame_164 (by decide) (fun cz => absurd (glow_tell hR hjN) cz) (fun _ => ?_)
    refine lv_aload_n hM.x hM.b dX6_isSame_167 rfl (lv_at hl 2 rfl) ?_
    refine lv_iload_n hM.x hM.b dX6_isSame_168 rfl (lv_at hl 0 rfl) ?_
    refine k_xiK (rd_spit hR (fun _ _ => rfl) hjN).2.2.2.1 hw (k_runXV [.int (nI (j))] [] hM hw (m_X4_drippingsOf l ((D, L), cA, ad) κ _ (nI (j)) hlst) (hw.dm kd_0 (by decide)) (sh4 kd_0) rfl (k_gV u_ml_X6_102 u_im_X4_drippingsOf u_se_X4_drippingsOf u_ini_X4 u_co_X4_drippingsOf) (q_X4_drippingsOf) rfl rfl rfl ⟨(Nat.le_of_ble_eq_true rfl), (Nat.le_of_ble_eq_true rfl)⟩ hl.1 rfl (Nat.le_of_ble_eq_true rfl) dX6_isSame_169 ⟨(by dsimp only; omega), (by dsimp only; omega)⟩) (fun H locs hw => ?_)
    refine lv_aload_n hM.x hM.b dX6_isSame_172 rfl (lv_at hl 1 rfl) ?_
    refine k_get6r 1 hM hw hL.m91 (by decide) u_fl_X6_19 dX6_isSame_173 ?_
    refine lv_iload_n hM.x hM.b dX6_isSame_176 rfl (lv_at hl 0 rfl) ?_
    refine k_aldaN (i := j) (n := ns) (t := 1) (x := ad (98 + (j))) hM hw (hL.m93) (lsh93 hL) rfl hjN (by omega) (if_pos hjN) dX6_isSame_177 ?_
    refine lv_iconst (v := 2) hM.x hM.b dX6_isSame_178 (by decide) ?_
    refine k_ialdN (i := 2) (n := 6) hM hw (hL.S hjN) (sh20 (kdS _ (hL.s6 hjN))) (by decide) (by decide) dX6_isSame_179 ?_
    refine lv_icmp_ne (tgt := 215) hM.x hM.b dX6_isSame_180 (by decide) (fun cz => absurd hs1.2.2.2.2.1 cz) (fun _ => ?_)
    refine lv_aload_n hM.x hM.b dX6_isSame_183 rfl (lv_at hl 2 rfl) ?_
    refine lv_iload_n hM.x hM.b dX6_isSame_184 rfl (lv_at hl 0 rfl) ?_
    refine k_xiK (rd_spit hR (fun _ _ => rfl) hjN).2.2.2.2.1 hw (k_runXV [.int (nI (j))] [] hM hw (m_X4_roastOn l ((D, L), cA, ad) κ _ (nI (j)) hlst) (hw.dm kd_0 (by decide)) (sh4 kd_0) rfl (k_gV u_ml_X6_105 u_im_X4_roastOn u_se_X4_roastOn u_ini_X4 u_co_X4_roastOn) (q_X4_roastOn) rfl rfl rfl ⟨(Nat.le_of_ble_eq_true rfl), (Nat.le_of_ble_eq_true rfl)⟩ hl.1 rfl (Nat.le_of_ble_eq_true rfl) dX6_isSame_185 ⟨(by dsimp only; omega), (by dsimp only; omega)⟩) (fun H locs hw => ?_)
    refine lv_aload_n hM.x hM.b dX6_isSame_188 rfl (lv_at hl 1 rfl) ?_
    refine k_get6r 1 hM hw hL.m91 (by decide) u_fl_X6_19 dX6_isSame_189 ?_
    refine lv_iload_n hM.x hM.b dX6_isSame_192 rfl (lv_at hl 0 rfl) ?_
    refine k_aldaN (i := j) (n := ns) (t := 1) (x := ad (98 + (j))) hM hw (hL.m93) (lsh93 hL) rfl hjN (by omega) (if_pos hjN) dX6_isSame_193 ?_
    refine lv_iconst (v := 3) hM.x hM.b dX6_isSame_194 (by decide) ?_
    refine k_ialdN (i := 3) (n := 6) hM hw (hL.S hjN) (sh20 (kdS _ (hL.s6 hjN))) (by decide) (by decide) dX6_isSame_195 ?_
    refine lv_icmp_ne (tgt := 215) hM.x hM.b dX6_isSame_196 (by decide) (fun cz => absurd hs1.2.2.2.2.2 cz) (fun _ => ?_)
    refine lv_aload_n hM.x hM.b dX6_isSame_199 rfl (lv_at hl 2 rfl) ?_
    refine lv_iload_n hM.x hM.b dX6_isSame_200 rfl (lv_at hl 0 rfl) ?_
    refine k_xiK (rd_spit hR (fun _ _ => rfl) hjN).2.2.1 hw (k_runXV [.int (nI (j))] [] hM hw (m_X4_turnedEach l ((D, L), cA, ad) κ _ (nI (j)) hlst) (hw.dm kd_0 (by decide)) (sh4 kd_0) rfl (k_gV u_ml_X6_108 u_im_X4_turnedEach u_se_X4_turnedEach u_ini_X4 u_co_X4_turnedEach) (q_X4_turnedEach) rfl rfl rfl ⟨(Nat.le_of_ble_eq_true rfl), (Nat.le_of_ble_eq_true rfl)⟩ hl.1 rfl (Nat.le_of_ble_eq_true rfl) dX6_isSame_201 ⟨(by dsimp only; omega), (by dsimp only; omega)⟩) (fun H locs hw => ?_)
    refine lv_aload_n hM.x hM.b dX6_isSame_204 rfl (lv_at hl 1 rfl) ?_
    refine k_get6r 1 hM hw hL.m91 (by decide) u_fl_X6_19 dX6_isSame_205 ?_
    refine lv_iload_n hM.x hM.b dX6_isSame_208 rfl (lv_at hl 0 rfl) ?_
    refine k_aldaN (i := j) (n := ns) (t := 1) (x := ad (98 + (j))) hM hw (hL.m93) (lsh93 hL) rfl hjN (by omega) (if_pos hjN) dX6_isSame_209 ?_
    refine lv_iconst (v := 5) hM.x hM.b dX6_isSame_210 (by decide) ?_
    refine k_ialdN (i := 5) (n := 6) hM hw (hL.S hjN) (sh20 (kdS _ (hL.s6 hjN))) (by decide) (by decide) dX6_isSame_211 ?_
    refine lv_icmp_eq (tgt := 217) hM.x hM.b dX6_isSame_212 (by decide) (fun _ => ?_) (fun cz => absurd hs1.2.2.1 cz)
    refine lv_iinc (v := nI (j + 1)) (lv' := [(2, .int (nI (j + 1))), (0, .ref (ad (91))), (1, .ref (ad (0)))]) hM.x hM.b dX6_isSame_217 hl (k := 0) rfl (nI_1 (j)) (by decide) rfl (fun ls hl => ?_)
    refine lv_goto (tgt := 113) hM.x hM.b dX6_isSame_220 (by decide) ?_
    refine W.widen (k := 6 + 6 * (j + 1)) (n := 36 + 36 * (j + 1)) (by omega) (by omega) ?_
    exact ih (j + 1) (by omega) H locs ls (lv_sub hl [0, 1, 2] rfl) hw kk
set_option maxRecDepth 100000 in
set_option maxHeartbeats 4000000 in
theorem same_B {p : Program} {e : Env} {s : State} {m : MethodId} {args : Array Value} {below : List Frame} {meth : Method} {c : Code} {Q : State → Prop} {A : Nat → Prop} {D : va_G} {cA : Nat → ClassId} {L : List Nat} {ad : Nat → Nat} {nf ns nr : Nat} {κ : Kp} (l : Launch) (hlst : l.stackTraces = false) (hM : Ma A D cA p s m args meth c cX6_isSame 6 RX6) (hL : Lm L ad nf ns nr []) (hR : RR nf ns nr κ) {j : Nat} (hj : j < nr) {k1 n1 : Nat} (hk1 : k1 ≤ 290) (hn1 : n1 ≤ 1700) : ∀ (n w : Nat), w + n = 4 → ∀ (v : Int32), lp_X1_sumBrown_38 κ 1 j n w v = sumP κ (j + 1) → ∀ (H : Heap) (locs : List Loc) (ls : Array Slot), lv_has ls 6 [(5, .int (nI w)), (4, .ref (ad (104 + 2 * j))), (3, .int (nI j)), (2, .int v), (0, .ref (ad 91)), (1, .ref (ad 0))] → Wa A D cA L ad s κ H locs → (∀ (H : Heap) (locs : List Loc) (ls : Array Slot), lv_has ls 6 [(3, .int (nI j)), (2, .int (sumP κ (j + 1))), (0, .ref (ad 91)), (1, .ref (ad 0))] → Wa A D cA L ad s κ H locs → W p l e { frames := 8, cells := 300, slots := 1800, locals := 250 } s m args below meth c H locs (k1 + 8) (n1 + 48) Q (F0 m 383 ls [])) → W p l e { frames := 8, cells := 300, slots := 1800, locals := 250 } s m args below meth c H locs (k1 + 2 * w) (n1 + 12 * w) Q (F0 m 340 ls []) := by
  have hb := hR.b
  have hjN := hj
  have hr1 := hR.2.2.2.2 j hj
  intro n
  induction n with
  | zero =>
    intro w hw4 v hv H locs ls hl hw kk
    obtain rfl : w = 4 := by omega
    obtain rfl : v = sumP κ (j + 1) := hv
    refine lv_iload hM.x hM.b dX6_isSame_340 (lv_at hl 0 rfl) ?_
    refine lv_iconst (v := nI 4) hM.x hM.b dX6_isSame_342 (by decide) ?_
    refine lv_icmp_ge (tgt := 383) hM.x hM.b dX6_isSame_343 (by decide) (fun _ => ?_) (fun cz => absurd (by decide) cz)
    exact kk H locs ls (lv_sub hl [2, 3, 4, 5] rfl) hw
  | succ n ih =>
    intro w hw4 v hv H locs ls hl hw kk
    have hw5 : w < 4 := by omega
    refine lv_iload hM.x hM.b dX6_isSame_340 (lv_at hl 0 rfl) ?_
    refine lv_iconst (v := nI 4) hM.x hM.b dX6_isSame_342 (by decide) ?_
    refine lv_icmp_ge (tgt := 383) hM.x hM.b dX6_isSame_343 (by decide) (fun cz => absurd cz (nI_ge (by omega) (by omega))) (fun _ => ?_)
    refine lv_aload_n hM.x hM.b dX6_isSame_346 rfl (lv_at hl 5 rfl) ?_
    refine lv_iload_n hM.x hM.b dX6_isSame_347 rfl (lv_at hl 2 rfl) ?_
    refine lv_iload hM.x hM.b dX6_isSame_348 (lv_at hl 0 rfl) ?_
    refine k_xiK ((rd_roast hR (fun _ _ => rfl) hj).2.2.2.2.2.1 w hw5) hw (k_runXV [.int (nI (j)), .int (nI (w))] [] hM hw (m_X4_brownOf l ((D, L), cA, ad) κ _ (nI (j)) (nI (w)) hlst) (hw.dm kd_0 (by decide)) (sh4 kd_0) rfl (k_gV u_ml_X6_134 u_im_X4_brownOf u_se_X4_brownOf u_ini_X4 u_co_X4_brownOf) (q_X4_brownOf) rfl rfl rfl ⟨(Nat.le_of_ble_eq_true rfl), (Nat.le_of_ble_eq_true rfl)⟩ hl.1 rfl (Nat.le_of_ble_eq_true rfl) dX6_isSame_350 ⟨(by dsimp only; omega), (by dsimp only; omega)⟩) (fun H locs hw => ?_)
    refine lv_aload hM.x hM.b dX6_isSame_353 (lv_at hl 1 rfl) ?_
    refine k_get5r hM hw (kdR _ (hL.r16 hj)).1 (hL.R hj).1 u_fl_X6_138 dX6_isSame_355 ?_
    refine lv_iload hM.x hM.b dX6_isSame_358 (lv_at hl 0 rfl) ?_
    refine k_ialdN (i := w) (n := 4) hM hw (hL.R hj).2 (sh27 (kd21_27 (kdR _ (hL.r16 hj)).1)) hw5 (by decide) dX6_isSame_360 ?_
    refine lv_icmp_eq (tgt := 366) hM.x hM.b dX6_isSame_361 (by decide) (fun _ => ?_) (fun cz => absurd (hr1.2 w hw5) cz)
    refine lv_iload_n hM.x hM.b dX6_isSame_366 rfl (lv_at hl 3 rfl) ?_
    refine lv_aload hM.x hM.b dX6_isSame_367 (lv_at hl 1 rfl) ?_
    refine k_get5r hM hw (kdR _ (hL.r16 hj)).1 (hL.R hj).1 u_fl_X6_138 dX6_isSame_369 ?_
    refine lv_iload hM.x hM.b dX6_isSame_372 (lv_at hl 0 rfl) ?_
    refine k_ialdN (i := w) (n := 4) hM hw (hL.R hj).2 (sh27 (kd21_27 (kdR _ (hL.r16 hj)).1)) hw5 (by decide) dX6_isSame_374 ?_
    refine lv_iadd hM.x hM.b dX6_isSame_375 ?_
    refine lv_istore_n (lv' := [(2, .int (((v) + (κ (104 + 2 * j + 1) (w))))), (5, .int (nI (w))), (4, .ref (ad (104 + 2 * j))), (3, .int (nI (j))), (0, .ref (ad (91))), (1, .ref (ad (0)))]) hM.x hM.b dX6_isSame_376 rfl hl (by decide) rfl (fun ls hl => ?_)
    refine lv_iinc (v := nI (w + 1)) (lv' := [(5, .int (nI (w + 1))), (2, .int (((v) + (κ (104 + 2 * j + 1) (w))))), (4, .ref (ad (104 + 2 * j))), (3, .int (nI (j))), (0, .ref (ad (91))), (1, .ref (ad (0)))]) hM.x hM.b dX6_isSame_377 hl (k := 1) rfl (nI_1 (w)) (by decide) rfl (fun ls hl => ?_)
    refine lv_goto (tgt := 340) hM.x hM.b dX6_isSame_380 (by decide) ?_
    refine W.widen (k := k1 + 2 * (w + 1)) (n := n1 + 12 * (w + 1)) (by omega) (by omega) ?_
    refine ih (w + 1) (by omega) (((v) + (κ (104 + 2 * j + 1) (w)))) ?_ H locs ls (lv_sub hl [0, 2, 3, 1, 4, 5] rfl) hw kk
    rw [lp_X1_sumBrown_38, show κ (1 + 13 + 2 * j + 1) w = κ (104 + 2 * j + 1) w by rw [show 1 + 13 + 2 * j + 1 = 15 + 2 * j by omega]; exact hr1.2 w hw5] at hv
    exact hv
set_option maxRecDepth 100000 in
set_option maxHeartbeats 4000000 in
theorem same_R {p : Program} {e : Env} {s : State} {m : MethodId} {args : Array Value} {below : List Frame} {meth : Method} {c : Code} {Q : State → Prop} {A : Nat → Prop} {D : va_G} {cA : Nat → ClassId} {L : List Nat} {ad : Nat → Nat} {nf ns nr : Nat} {κ : Kp} (l : Launch) (hlst : l.stackTraces = false) (hM : Ma A D cA p s m args meth c cX6_isSame 6 RX6) (hL : Lm L ad nf ns nr []) (hR : RR nf ns nr κ) : ∀ (n j : Nat), j + n = nr → ∀ (H : Heap) (locs : List Loc) (ls : Array Slot), lv_has ls 6 [(3, .int (nI j)), (2, .int (sumP κ j)), (0, .ref (ad 91)), (1, .ref (ad 0))] → Wa A D cA L ad s κ H locs → (∀ (H : Heap) (locs : List Loc) (ls : Array Slot), lv_has ls 6 [(2, .int (sumP κ nr)), (0, .ref (ad 91)), (1, .ref (ad 0))] → Wa A D cA L ad s κ H locs → W p l e { frames := 8, cells := 300, slots := 1800, locals := 250 } s m args below meth c H locs (42 + 15 * nr) (252 + 90 * nr) Q (F0 m 389 ls [])) → W p l e { frames := 8, cells := 300, slots := 1800, locals := 250 } s m args below meth c H locs (42 + 15 * j) (252 + 90 * j) Q (F0 m 227 ls []) := by
  have hb := hR.b
  intro n
  induction n with
  | zero =>
    intro j hj H locs ls hl hw kk
    obtain rfl : j = nr := by omega
    refine lv_iload_n hM.x hM.b dX6_isSame_227 rfl (lv_at hl 0 rfl) ?_
    refine lv_aload_n hM.x hM.b dX6_isSame_228 rfl (lv_at hl 2 rfl) ?_
    refine k_get6r 2 hM hw hL.m91 (by decide) u_fl_X6_24 dX6_isSame_229 ?_
    refine k_alenD (n := j) hM hw (hL.m94) 5 (lsh94 hL) rfl rfl dX6_isSame_232 ?_
    refine lv_icmp_ge (tgt := 389) hM.x hM.b dX6_isSame_233 (by decide) (fun _ => ?_) (fun cz => absurd (nI_le (by omega) (by omega)) cz)
    exact kk H locs ls (lv_sub hl [1, 2, 3] rfl) hw
  | succ n ih =>
    intro j hj H locs ls hl hw kk
    have hjN : j < nr := by omega
    have hr1 := hR.2.2.2.2 j hjN
    refine lv_iload_n hM.x hM.b dX6_isSame_227 rfl (lv_at hl 0 rfl) ?_
    refine lv_aload_n hM.x hM.b dX6_isSame_228 rfl (lv_at hl 2 rfl) ?_
    refine k_get6r 2 hM hw hL.m91 (by decide) u_fl_X6_24 dX6_isSame_229 ?_
    refine k_alenD (n := nr) hM hw (hL.m94) 5 (lsh94 hL) rfl rfl dX6_isSame_232 ?_
    refine lv_icmp_ge (tgt := 389) hM.x hM.b dX6_isSame_233 (by decide) (fun cz => absurd cz (nI_ge (by omega) (by omega))) (fun _ => ?_)
    refine lv_aload_n hM.x hM.b dX6_isSame_236 rfl (lv_at hl 2 rfl) ?_
    refine k_get6r 2 hM hw hL.m91 (by decide) u_fl_X6_24 dX6_isSame_237 ?_
    refine lv_iload_n hM.x hM.b dX6_isSame_240 rfl (lv_at hl 0 rfl) ?_
    refine k_aldqN (i := j) (n := nr) (t := 5) (x := ad (104 + 2 * (j))) hM hw (hL.m94) (lsh94 hL) rfl hjN (by omega) (if_pos hjN) dX6_isSame_241 ?_
    refine lv_astore (lv' := [(4, .ref (ad (104 + 2 * (j)))), (3, .int (nI (j))), (2, .int (sumP κ j)), (0, .ref (ad (91))), (1, .ref (ad (0)))]) hM.x hM.b dX6_isSame_242 hl (by decide) rfl (fun ls hl => ?_)
    refine lv_aload_n hM.x hM.b dX6_isSame_244 rfl (lv_at hl 4 rfl) ?_
    refine lv_iload_n hM.x hM.b dX6_isSame_245 rfl (lv_at hl 1 rfl) ?_
    refine k_xiK (rd_roast hR (fun _ _ => rfl) hjN).1 hw (k_runXV [.int (nI (j))] [] hM hw (m_X4_poundsOf l ((D, L), cA, ad) κ _ (nI (j)) hlst) (hw.dm kd_0 (by decide)) (sh4 kd_0) rfl (k_gV u_ml_X6_111 u_im_X4_poundsOf u_se_X4_poundsOf u_ini_X4 u_co_X4_poundsOf) (q_X4_poundsOf) rfl rfl rfl ⟨(Nat.le_of_ble_eq_true rfl), (Nat.le_of_ble_eq_true rfl)⟩ hl.1 rfl (Nat.le_of_ble_eq_true rfl) dX6_isSame_246 ⟨(by dsimp only; omega), (by dsimp only; omega)⟩) (fun H locs hw => ?_)
    refine lv_aload hM.x hM.b dX6_isSame_249 (lv_at hl 0 rfl) ?_
    refine k_get5 0 hM hw (kdR _ (hL.r16 hjN)).1 (hL.R hjN).1 (by decide) u_fl_X6_29 dX6_isSame_251 ?_
    refine lv_icmp_ne (tgt := 335) hM.x hM.b dX6_isSame_254 (by decide) (fun cz => absurd (hr1.1 0 (by decide)) cz) (fun _ => ?_)
    refine lv_aload_n hM.x hM.b dX6_isSame_257 rfl (lv_at hl 4 rfl) ?_
    refine lv_iload_n hM.x hM.b dX6_isSame_258 rfl (lv_at hl 1 rfl) ?_
    refine k_xiK (rd_roast hR (fun _ _ => rfl) hjN).2.1 hw (k_runXV [.int (nI (j))] [] hM hw (m_X4_spitOf l ((D, L), cA, ad) κ _ (nI (j)) hlst) (hw.dm kd_0 (by decide)) (sh4 kd_0) rfl (k_gV u_ml_X6_114 u_im_X4_spitOf u_se_X4_spitOf u_ini_X4 u_co_X4_spitOf) (q_X4_spitOf) rfl rfl rfl ⟨(Nat.le_of_ble_eq_true rfl), (Nat.le_of_ble_eq_true rfl)⟩ hl.1 rfl (Nat.le_of_ble_eq_true rfl) dX6_isSame_259 ⟨(by dsimp only; omega), (by dsimp only; omega)⟩) (fun H locs hw => ?_)
    refine lv_aload hM.x hM.b dX6_isSame_262 (lv_at hl 0 rfl) ?_
    refine k_get5 1 hM hw (kdR _ (hL.r16 hjN)).1 (hL.R hjN).1 (by decide) u_fl_X6_32 dX6_isSame_264 ?_
    refine lv_icmp_ne (tgt := 335) hM.x hM.b dX6_isSame_267 (by decide) (fun cz => absurd (hr1.1 1 (by decide)) cz) (fun _ => ?_)
    refine lv_aload_n hM.x hM.b dX6_isSame_270 rfl (lv_at hl 4 rfl) ?_
    refine lv_iload_n hM.x hM.b dX6_isSame_271 rfl (lv_at hl 1 rfl) ?_
    refine k_xiK (rd_roast hR (fun _ _ => rfl) hjN).2.2.1 hw (k_runXV [.int (nI (j))] [] hM hw (m_X4_sideToFire l ((D, L), cA, ad) κ _ (nI (j)) hlst) (hw.dm kd_0 (by decide)) (sh4 kd_0) rfl (k_gV u_ml_X6_117 u_im_X4_sideToFire u_se_X4_sideToFire u_ini_X4 u_co_X4_sideToFire) (q_X4_sideToFire) rfl rfl rfl ⟨(Nat.le_of_ble_eq_true rfl), (Nat.le_of_ble_eq_true rfl)⟩ hl.1 rfl (Nat.le_of_ble_eq_true rfl) dX6_isSame_272 ⟨(by dsimp only; omega), (by dsimp only; omega)⟩) (fun H locs hw => ?_)
    refine lv_aload hM.x hM.b dX6_isSame_275 (lv_at hl 0 rfl) ?_
    refine k_get5 2 hM hw (kdR _ (hL.r16 hjN)).1 (hL.R hjN).1 (by decide) u_fl_X6_61 dX6_isSame_277 ?_
    refine lv_icmp_ne (tgt := 335) hM.x hM.b dX6_isSame_280 (by decide) (fun cz => absurd (hr1.1 2 (by decide)) cz) (fun _ => ?_)
    refine lv_aload_n hM.x hM.b dX6_isSame_283 rfl (lv_at hl 4 rfl) ?_
    refine lv_iload_n hM.x hM.b dX6_isSame_284 rfl (lv_at hl 1 rfl) ?_
    refine k_xiK (rd_roast hR (fun _ _ => rfl) hjN).2.2.2.1 hw (k_runXV [.int (nI (j))] [] hM hw (m_X4_fatOf l ((D, L), cA, ad) κ _ (nI (j)) hlst) (hw.dm kd_0 (by decide)) (sh4 kd_0) rfl (k_gV u_ml_X6_120 u_im_X4_fatOf u_se_X4_fatOf u_ini_X4 u_co_X4_fatOf) (q_X4_fatOf) rfl rfl rfl ⟨(Nat.le_of_ble_eq_true rfl), (Nat.le_of_ble_eq_true rfl)⟩ hl.1 rfl (Nat.le_of_ble_eq_true rfl) dX6_isSame_285 ⟨(by dsimp only; omega), (by dsimp only; omega)⟩) (fun H locs hw => ?_)
    refine lv_aload hM.x hM.b dX6_isSame_288 (lv_at hl 0 rfl) ?_
    refine k_get5 3 hM hw (kdR _ (hL.r16 hjN)).1 (hL.R hjN).1 (by decide) u_fl_X6_35 dX6_isSame_290 ?_
    refine lv_icmp_ne (tgt := 335) hM.x hM.b dX6_isSame_293 (by decide) (fun cz => absurd (hr1.1 3 (by decide)) cz) (fun _ => ?_)
    refine lv_aload_n hM.x hM.b dX6_isSame_296 rfl (lv_at hl 4 rfl) ?_
    refine lv_iload_n hM.x hM.b dX6_isSame_297 rfl (lv_at hl 1 rfl) ?_
    refine k_xiK (rd_roast hR (fun _ _ => rfl) hjN).2.2.2.2.1 hw (k_runXV [.int (nI (j))] [] hM hw (m_X4_wetFor l ((D, L), cA, ad) κ _ (nI (j)) hlst) (hw.dm kd_0 (by decide)) (sh4 kd_0) rfl (k_gV u_ml_X6_123 u_im_X4_wetFor u_se_X4_wetFor u_ini_X4 u_co_X4_wetFor) (q_X4_wetFor) rfl rfl rfl ⟨(Nat.le_of_ble_eq_true rfl), (Nat.le_of_ble_eq_true rfl)⟩ hl.1 rfl (Nat.le_of_ble_eq_true rfl) dX6_isSame_298 ⟨(by dsimp only; omega), (by dsimp only; omega)⟩) (fun H locs hw => ?_)
    refine lv_aload hM.x hM.b dX6_isSame_301 (lv_at hl 0 rfl) ?_
    refine k_get5 4 hM hw (kdR _ (hL.r16 hjN)).1 (hL.R hjN).1 (by decide) u_fl_X6_126 dX6_isSame_303 ?_
    refine lv_icmp_ne (tgt := 335) hM.x hM.b dX6_isSame_306 (by decide) (fun cz => absurd (hr1.1 4 (by decide)) cz) (fun _ => ?_)
    refine lv_aload_n hM.x hM.b dX6_isSame_309 rfl (lv_at hl 4 rfl) ?_
    refine lv_iload_n hM.x hM.b dX6_isSame_310 rfl (lv_at hl 1 rfl) ?_
    refine k_xiK (rd_roast hR (fun _ _ => rfl) hjN).2.2.2.2.2.2.1 hw (k_runXV [.int (nI (j))] [] hM hw (m_X4_isDone l ((D, L), cA, ad) κ _ (nI (j)) hlst) (hw.dm kd_0 (by decide)) (sh4 kd_0) rfl (k_gV u_ml_X6_129 u_im_X4_isDone u_se_X4_isDone u_ini_X4 u_co_X4_isDone) (q_X4_isDone) rfl rfl rfl ⟨(Nat.le_of_ble_eq_true rfl), (Nat.le_of_ble_eq_true rfl)⟩ hl.1 rfl (Nat.le_of_ble_eq_true rfl) dX6_isSame_311 ⟨(by dsimp only; omega), (by dsimp only; omega)⟩) (fun H locs hw => ?_)
    refine lv_aload hM.x hM.b dX6_isSame_314 (lv_at hl 0 rfl) ?_
    refine k_cip hw (k_runV [] [.int (bi (f_X2_done κ (14 + 2 * j)))] hM hw (m_X5_isDone l ((D, L), cA, ad) κ _ (104 + 2 * (j)) ((kdR _ (hL.r16 hjN)).1) (hL.R hjN)) (hL.R hjN).1 (sh21 (kdR _ (hL.r16 hjN)).1) rfl (k_gV u_ml_X6_68 u_im_X5_isDone u_se_X5_isDone u_ini_X5 u_co_X5_isDone) (q_X5_isDone) rfl rfl rfl ⟨Nat.le_of_ble_eq_true rfl, Nat.le_of_ble_eq_true rfl⟩ hl.1 rfl (Nat.le_of_ble_eq_true rfl) dX6_isSame_316 ⟨(by dsimp only; omega), (by dsimp only; omega)⟩) (fun H locs hw => ?_)
    refine lv_icmp_ne (tgt := 335) hM.x hM.b dX6_isSame_319 (by decide) (fun cz => absurd (congrArg bi (done_eq hR hjN)) cz) (fun _ => ?_)
    refine lv_aload_n hM.x hM.b dX6_isSame_322 rfl (lv_at hl 4 rfl) ?_
    refine lv_iload_n hM.x hM.b dX6_isSame_323 rfl (lv_at hl 1 rfl) ?_
    refine k_xiK (rd_roast hR (fun _ _ => rfl) hjN).2.2.2.2.2.2.2 hw (k_runXV [.int (nI (j))] [] hM hw (m_X4_isBurnt l ((D, L), cA, ad) κ _ (nI (j)) hlst) (hw.dm kd_0 (by decide)) (sh4 kd_0) rfl (k_gV u_ml_X6_132 u_im_X4_isBurnt u_se_X4_isBurnt u_ini_X4 u_co_X4_isBurnt) (q_X4_isBurnt) rfl rfl rfl ⟨(Nat.le_of_ble_eq_true rfl), (Nat.le_of_ble_eq_true rfl)⟩ hl.1 rfl (Nat.le_of_ble_eq_true rfl) dX6_isSame_324 ⟨(by dsimp only; omega), (by dsimp only; omega)⟩) (fun H locs hw => ?_)
    refine lv_aload hM.x hM.b dX6_isSame_327 (lv_at hl 0 rfl) ?_
    refine k_cip hw (k_runV [] [.int (bi (f_X2_burnt κ (14 + 2 * j)))] hM hw (m_X5_isBurnt l ((D, L), cA, ad) κ _ (104 + 2 * (j)) ((kdR _ (hL.r16 hjN)).1) (hL.R hjN)) (hL.R hjN).1 (sh21 (kdR _ (hL.r16 hjN)).1) rfl (k_gV u_ml_X6_64 u_im_X5_isBurnt u_se_X5_isBurnt u_ini_X5 u_co_X5_isBurnt) (q_X5_isBurnt) rfl rfl rfl ⟨Nat.le_of_ble_eq_true rfl, Nat.le_of_ble_eq_true rfl⟩ hl.1 rfl (Nat.le_of_ble_eq_true rfl) dX6_isSame_329 ⟨(by dsimp only; omega), (by dsimp only; omega)⟩) (fun H locs hw => ?_)
    refine lv_icmp_eq (tgt := 337) hM.x hM.b dX6_isSame_332 (by decide) (fun _ => ?_) (fun cz => absurd (congrArg bi (burnt_eq hR hjN)) cz)
    refine lv_iconst (v := nI 0) hM.x hM.b dX6_isSame_337 (by decide) ?_
    refine lv_istore (lv' := [(5, .int (nI (0))), (4, .ref (ad (104 + 2 * (j)))), (3, .int (nI (j))), (2, .int (sumP κ j)), (0, .ref (ad (91))), (1, .ref (ad (0)))]) hM.x hM.b dX6_isSame_338 hl (by decide) rfl (fun ls hl => ?_)
    refine W.widen (k := 42 + 15 * j + 7 + 2 * 0) (n := 252 + 90 * j + 42 + 12 * 0) (by omega) (by omega) ?_
    refine same_B l hlst hM hL hR hjN (k1 := 42 + 15 * j + 7) (n1 := 252 + 90 * j + 42) (by omega) (by omega) 4 0 rfl (sumP κ j) rfl H locs ls (lv_sub hl [0, 1, 2, 3, 4, 5] rfl) hw (fun H locs ls hl hw => ?_)
    refine lv_iinc (v := nI (j + 1)) (lv' := [(3, .int (nI (j + 1))), (2, .int (sumP κ (j + 1))), (0, .ref (ad 91)), (1, .ref (ad 0))]) hM.x hM.b dX6_isSame_383 hl (k := 0) rfl (nI_up j) (by decide) rfl (fun ls hl => ?_)
    refine lv_goto (tgt := 227) hM.x hM.b dX6_isSame_386 (by decide) ?_
    refine W.widen (k := 42 + 15 * (j + 1)) (n := 252 + 90 * (j + 1)) (by omega) (by omega) ?_
    exact ih (j + 1) (by omega) H locs ls hl hw kk
theorem q_X6_isSame : hdV yX6_isSame RX6 1 := ⟨rfl, by decide +kernel, by decide +kernel, by decide +kernel⟩
set_option maxRecDepth 100000 in
set_option maxHeartbeats 4000000 in
theorem m_X6_isSame (l : Launch) (g : Gt) (κ : Kp) (sz : Nat) {nf ns nr : Nat} (hlst : l.stackTraces = false) (hL : Lm g.1.2 g.2.2 nf ns nr []) (hR : RR nf ns nr κ) : MetD lw_cs l yX6_isSame (.code yX6_isSame cX6_isSame 6 (some .boolean) :: uW) { frames := 8, cells := 300, slots := 1800, locals := 250 } (PRE g κ sz [.ref (g.2.2 91), .ref (g.2.2 0)]) (va_Qi (fun r κ' => r = 1 ∧ κ' = κ) (Wp g) (fr g sz)) 300 1800 (fr g sz) := by
  refine k_denter (by decide +kernel) (Nat.le_of_ble_eq_true rfl) ?_
  intro p e s m below meth c ls d0 hM0 hr hl hw hsz hd0
  have hM := hM0.drawn d0
  have hw : Ws g (s.setDrawn d0) κ s.heap [] := hw
  subst hsz
  have hb := hR.b
  have hl : lv_has ls 6 [(0, .ref (g.2.2 91)), (1, .ref (g.2.2 0))] := hl
  have c3 := hR.1.2.1.1
  have c4 := hR.1.2.1.2.1
  have c5 := hR.1.2.1.2.2
  refine lv_aload_n hM.x hM.b dX6_isSame_0 rfl (lv_at hl 1 rfl) ?_
  refine k_cip hw (k_runV [] [] hM hw (m_X4_minute l ((g.1.1, g.1.2), g.2.1, g.2.2) κ _) (hw.dm kd_0 (by decide)) (sh4 kd_0) rfl (k_gV u_ml_X6_75 u_im_X4_minute u_se_X4_minute u_ini_X4 u_co_X4_minute) (q_X4_minute) rfl rfl rfl ⟨Nat.le_of_ble_eq_true rfl, Nat.le_of_ble_eq_true rfl⟩ hl.1 rfl (Nat.le_of_ble_eq_true rfl) dX6_isSame_1 ⟨(by dsimp only; omega), (by dsimp only; omega)⟩) (fun H locs hw => ?_)
  refine lv_aload_n hM.x hM.b dX6_isSame_4 rfl (lv_at hl 0 rfl) ?_
  refine k_get6 0 hM hw hL.m91 (by decide) u_fl_X6_39 dX6_isSame_5 ?_
  refine lv_icmp_ne (tgt := 58) hM.x hM.b dX6_isSame_8 (by decide) (fun cz => absurd hR.2.1.1 cz) (fun _ => ?_)
  refine lv_aload_n hM.x hM.b dX6_isSame_11 rfl (lv_at hl 1 rfl) ?_
  refine k_cip hw (k_runV [] [] hM hw (m_X4_feast l ((g.1.1, g.1.2), g.2.1, g.2.2) κ _) (hw.dm kd_0 (by decide)) (sh4 kd_0) rfl (k_gV u_ml_X6_79 u_im_X4_feast u_se_X4_feast u_ini_X4 u_co_X4_feast) (q_X4_feast) rfl rfl rfl ⟨Nat.le_of_ble_eq_true rfl, Nat.le_of_ble_eq_true rfl⟩ hl.1 rfl (Nat.le_of_ble_eq_true rfl) dX6_isSame_12 ⟨(by dsimp only; omega), (by dsimp only; omega)⟩) (fun H locs hw => ?_)
  refine lv_aload_n hM.x hM.b dX6_isSame_15 rfl (lv_at hl 0 rfl) ?_
  refine k_get6 1 hM hw hL.m91 (by decide) u_fl_X6_7 dX6_isSame_16 ?_
  refine lv_icmp_ne (tgt := 58) hM.x hM.b dX6_isSame_19 (by decide) (fun cz => absurd hR.2.1.2 cz) (fun _ => ?_)
  refine lv_aload_n hM.x hM.b dX6_isSame_22 rfl (lv_at hl 1 rfl) ?_
  refine k_cip hw (k_runV [] [] hM hw (m_X4_fires l ((g.1.1, g.1.2), g.2.1, g.2.2) κ _) (hw.dm kd_0 (by decide)) (sh4 kd_0) rfl (k_gV u_ml_X6_81 u_im_X4_fires u_se_X4_fires u_ini_X4 u_co_X4_fires) (q_X4_fires) rfl rfl rfl ⟨Nat.le_of_ble_eq_true rfl, Nat.le_of_ble_eq_true rfl⟩ hl.1 rfl (Nat.le_of_ble_eq_true rfl) dX6_isSame_23 ⟨(by dsimp only; omega), (by dsimp only; omega)⟩) (fun H locs hw => ?_)
  refine lv_aload_n hM.x hM.b dX6_isSame_26 rfl (lv_at hl 0 rfl) ?_
  refine k_get6r 0 hM hw hL.m91 (by decide) u_fl_X6_15 dX6_isSame_27 ?_
  refine k_alenD (n := nf) hM hw (hL.m92) 1 (lsh92 hL) rfl rfl dX6_isSame_30 ?_
  refine lv_icmp_ne (tgt := 58) hM.x hM.b dX6_isSame_31 (by decide) (fun cz => absurd c3 cz) (fun _ => ?_)
  refine lv_aload_n hM.x hM.b dX6_isSame_34 rfl (lv_at hl 1 rfl) ?_
  refine k_cip hw (k_runV [] [] hM hw (m_X4_spits l ((g.1.1, g.1.2), g.2.1, g.2.2) κ _) (hw.dm kd_0 (by decide)) (sh4 kd_0) rfl (k_gV u_ml_X6_83 u_im_X4_spits u_se_X4_spits u_ini_X4 u_co_X4_spits) (q_X4_spits) rfl rfl rfl ⟨Nat.le_of_ble_eq_true rfl, Nat.le_of_ble_eq_true rfl⟩ hl.1 rfl (Nat.le_of_ble_eq_true rfl) dX6_isSame_35 ⟨(by dsimp only; omega), (by dsimp only; omega)⟩) (fun H locs hw => ?_)
  refine lv_aload_n hM.x hM.b dX6_isSame_38 rfl (lv_at hl 0 rfl) ?_
  refine k_get6r 1 hM hw hL.m91 (by decide) u_fl_X6_19 dX6_isSame_39 ?_
  refine k_alenD (n := ns) hM hw (hL.m93) 1 (lsh93 hL) rfl rfl dX6_isSame_42 ?_
  refine lv_icmp_ne (tgt := 58) hM.x hM.b dX6_isSame_43 (by decide) (fun cz => absurd c4 cz) (fun _ => ?_)
  refine lv_aload_n hM.x hM.b dX6_isSame_46 rfl (lv_at hl 1 rfl) ?_
  refine k_cip hw (k_runV [] [] hM hw (m_X4_roasts l ((g.1.1, g.1.2), g.2.1, g.2.2) κ _) (hw.dm kd_0 (by decide)) (sh4 kd_0) rfl (k_gV u_ml_X6_85 u_im_X4_roasts u_se_X4_roasts u_ini_X4 u_co_X4_roasts) (q_X4_roasts) rfl rfl rfl ⟨Nat.le_of_ble_eq_true rfl, Nat.le_of_ble_eq_true rfl⟩ hl.1 rfl (Nat.le_of_ble_eq_true rfl) dX6_isSame_47 ⟨(by dsimp only; omega), (by dsimp only; omega)⟩) (fun H locs hw => ?_)
  refine lv_aload_n hM.x hM.b dX6_isSame_50 rfl (lv_at hl 0 rfl) ?_
  refine k_get6r 2 hM hw hL.m91 (by decide) u_fl_X6_24 dX6_isSame_51 ?_
  refine k_alenD (n := nr) hM hw (hL.m94) 5 (lsh94 hL) rfl rfl dX6_isSame_54 ?_
  refine lv_icmp_eq (tgt := 60) hM.x hM.b dX6_isSame_55 (by decide) (fun _ => ?_) (fun cz => absurd c5 cz)
  refine lv_iconst (v := nI 0) hM.x hM.b dX6_isSame_60 (by decide) ?_
  refine lv_istore_n (lv' := [(2, .int (nI (0))), (0, .ref (g.2.2 (91))), (1, .ref (g.2.2 (0)))]) hM.x hM.b dX6_isSame_61 rfl hl (by decide) rfl (fun ls hl => ?_)
  refine same_F l hlst hM hL hR nf 0 (by omega) H locs ls (lv_sub hl [0, 1, 2] rfl) hw (fun H locs ls hl hw => ?_)
  refine lv_iconst (v := nI 0) hM.x hM.b dX6_isSame_111 (by decide) ?_
  refine lv_istore_n (lv' := [(2, .int (nI 0)), (0, .ref (g.2.2 91)), (1, .ref (g.2.2 0))]) hM.x hM.b dX6_isSame_112 rfl hl (by decide) rfl (fun ls hl => ?_)
  refine W.widen (k := 6 + 6 * 0) (n := 36 + 36 * 0) (by omega) (by omega) ?_
  refine same_S l hlst hM hL hR ns 0 (by omega) H locs ls hl hw (fun H locs ls hl hw => ?_)
  refine lv_iconst (v := 0) hM.x hM.b dX6_isSame_223 (by decide) ?_
  refine lv_istore_n (lv' := [(2, .int (sumP κ 0)), (0, .ref (g.2.2 91)), (1, .ref (g.2.2 0))]) hM.x hM.b dX6_isSame_224 rfl hl (by decide) rfl (fun ls hl => ?_)
  refine lv_iconst (v := nI 0) hM.x hM.b dX6_isSame_225 (by decide) ?_
  refine lv_istore_n (lv' := [(3, .int (nI 0)), (2, .int (sumP κ 0)), (0, .ref (g.2.2 91)), (1, .ref (g.2.2 0))]) hM.x hM.b dX6_isSame_226 rfl hl (by decide) rfl (fun ls hl => ?_)
  refine W.widen (k := 42 + 15 * 0) (n := 252 + 90 * 0) (by omega) (by omega) ?_
  refine same_R l hlst hM hL hR nr 0 (by omega) H locs ls hl hw (fun H locs ls hl hw => ?_)
  refine lv_aload_n hM.x hM.b dX6_isSame_389 rfl (lv_at hl 2 rfl) ?_
  refine k_cd hd0 hw (k_runVD [] [] hM hw (m_X4_meanBrown l ((g.1.1, g.1.2), g.2.1, g.2.2) κ _) (hw.dm kd_0 (by decide)) (sh4 kd_0) rfl (k_gV u_ml_X6_141 u_im_X4_meanBrown u_se_X4_meanBrown u_ini_X4 u_co_X4_meanBrown) q_X4_meanBrown rfl rfl rfl ⟨Nat.le_of_ble_eq_true rfl, Nat.le_of_ble_eq_true rfl⟩ hl.1 rfl (Nat.le_of_ble_eq_true rfl) dX6_isSame_390 ⟨by dsimp only; omega, by dsimp only; omega⟩) (fun r κ2 H locs d1 hd1 hp hw => ?_)
  obtain ⟨hal, hκ⟩ := hp
  rw [hκ] at hw
  have hM := hM0.drawn d1
  refine lv_aload_n hM.x hM.b dX6_isSame_393 rfl (lv_at hl 1 rfl) ?_
  refine k_get6r 2 hM hw hL.m91 (by decide) u_fl_X6_24 dX6_isSame_394 ?_
  refine k_alenD (n := nr) hM hw hL.m94 5 (lsh94 hL) rfl rfl dX6_isSame_397 ?_
  have hfin : ∀ (v : UInt64), FP.Core.dIsNaN v = false → f_X4_meanBrown κ = v → W p l e { frames := 8, cells := 300, slots := 1800, locals := 250 } (s.setDrawn d1) m ([.ref (g.2.2 91), .ref (g.2.2 0)] : List Value).toArray below meth c H locs (42 + 15 * nr + 0) (252 + 90 * nr + 0) (MQD lw_cs below (va_Qi (fun r κ' => r = 1 ∧ κ' = κ) (Wp g) (fr g s.heap.size)) ([.ref (g.2.2 91), .ref (g.2.2 0)] : List Value).toArray s 300 1800 (fr g s.heap.size)) (F0 m 418 ls [.double v, .double r]) := by
    intro v hv hf
    rw [hf] at hal
    rw [alike_n hal hv]
    refine lv_dcmp hM.x hM.b dX6_isSame_418 ?_
    rw [cmp_self hv]
    refine lv_if_ne (tgt := 426) hM.x hM.b dX6_isSame_419 (by decide) (fun cz => absurd rfl cz) (fun _ => ?_)
    refine lv_iconst (v := 1) hM.x hM.b dX6_isSame_422 (by decide) ?_
    refine lv_goto (tgt := 427) hM.x hM.b dX6_isSame_423 (by decide) ?_
    refine W.endD hd1 ?_
    exact k_zret (b := true) hM hr hw (by omega) (by omega) ⟨rfl, rfl⟩ dX6_isSame_427
  by_cases h0 : nr = 0
  · refine lv_if_ne (tgt := 405) hM.x hM.b dX6_isSame_398 (by decide) (fun cz => absurd (by rw [h0]; rfl) cz) (fun _ => ?_)
    refine lv_dconst0 hM.x hM.b dX6_isSame_401 ?_
    refine lv_goto (tgt := 418) hM.x hM.b dX6_isSame_402 (by decide) ?_
    refine hfin FP.dconst0 (by decide +kernel) ?_
    unfold f_X4_meanBrown
    rw [c5, h0, if_neg (by decide)]
  · have hn0 : ¬ nI nr = 0 := fun z => h0 ((nIeq (a := nr) (b := 0) (by omega) (by decide)).mp z)
    refine lv_if_ne (tgt := 405) hM.x hM.b dX6_isSame_398 (by decide) (fun _ => ?_) (fun cz => absurd cz hn0)
    refine lv_iload_n hM.x hM.b dX6_isSame_405 rfl (lv_at hl 0 rfl) ?_
    refine lv_i2d hM.x hM.b dX6_isSame_406 ?_
    refine lv_ldc2d hM.x hM.b hM.ow (hM.ts _ u_kd_X6_145) dX6_isSame_407 ?_
    refine lv_aload_n hM.x hM.b dX6_isSame_410 rfl (lv_at hl 1 rfl) ?_
    refine k_get6r 2 hM hw hL.m91 (by decide) u_fl_X6_24 dX6_isSame_411 ?_
    refine k_alenD (n := nr) hM hw hL.m94 5 (lsh94 hL) rfl rfl dX6_isSame_414 ?_
    refine lv_i2d hM.x hM.b dX6_isSame_415 ?_
    obtain ⟨e4, n4⟩ := mul4 nr (by omega)
    refine lv_dmul hM.x hM.b dX6_isSame_416 n4 ?_
    rw [e4]
    have h4 : ¬ nI nr * 4 = 0 := fun z => by
      rw [show nI nr * 4 = nI (nr * 4) from nI_mul nr 4] at z
      have := (nIeq (a := nr * 4) (b := 0) (by omega) (by decide)).mp z
      omega
    have hv : FP.Core.dIsNaN (FP.ddiv (FP.i2d (sumP κ nr)) (FP.i2d (nI nr * 4))) = false := mean_n64 h4
    refine lv_ddiv hM.x hM.b dX6_isSame_417 (n64_of hv) ?_
    refine hfin _ hv ?_
    unfold f_X4_meanBrown
    have hpos : 0 < nI nr * 4 := by
      rw [show nI nr * 4 = nI (nr * 4) from nI_mul nr 4]
      exact (nIlt (a := 0) (b := nr * 4) (by decide) (by omega)).mpr (by omega)
    rw [c5, if_pos hpos, sumP_eq hR]
