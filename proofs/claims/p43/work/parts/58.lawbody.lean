theorem fatP_q {κ μ : Kp} (hq : LoQ κ μ) : ∀ n, n ≤ 16 → fatP μ n = fatP κ n := by
  intro n
  induction n with
  | zero => intro _; rfl
  | succ n ih => intro hn; rw [fatP, fatP, ih (by omega), hq _ (by omega)]
theorem dripP_q {κ μ : Kp} (hq : LoQ κ μ) : ∀ n, n ≤ 6 → dripP μ n = dripP κ n := by
  intro n
  induction n with
  | zero => intro _; rfl
  | succ n ih => intro hn; rw [dripP, dripP, ih (by omega), hq _ (by omega)]
set_option maxRecDepth 100000 in
set_option maxHeartbeats 4000000 in
theorem law_body {p : Program} {e : Env} {s : State} {m : MethodId} {args : Array Value} {below : List Frame} {meth : Method} {c : Code} {Q : State → Prop} {A : Nat → Prop} {D : va_G} {cA : Nat → ClassId} {L : List Nat} {ad : Nat → Nat} {nf ns nr : Nat} {b t k1 n1 : Nat} (l : Launch) (hlst : l.stackTraces = false) (hM : Ma A D cA p s m args meth c cL_law 27 RL) (hT : TW L ad nf ns nr) (hk1 : k1 ≤ 790000) (hn1 : n1 ≤ 5900000) {T : List Nat} (hL : Lm L ad nf ns nr T) (hTD : TD T ad) {κ μ0 : Kp} (hR : RR nf ns nr κ) (hq0 : LoQ κ μ0) : ∀ (H : Heap) (locs : List Loc) (ls : Array Slot), lv_has ls 27 [(16, .int (nI 0)), (13, .int 0), (0, .ref b), (1, .ref (ad (0))), (2, .ref (ad (91))), (3, .int (nI (t))), (5, .int (nI (ns))), (6, .int (nI (nr))), (7, .ref (ad (136))), (8, .ref (ad (153))), (9, .ref (ad (154))), (10, .ref (ad (155))), (11, .ref (ad (156))), (12, .ref (ad (157))), (14, .ref (ad (158))), (15, .ref (ad (159)))] → Wa A D cA L ad s μ0 H locs → (∀ (θ : Kp) (H : Heap) (locs : List Loc) (ls : Array Slot), RR nf ns nr θ → lv_has ls 27 [(3, .int (nI t)), (0, .ref b), (1, .ref (ad 0)), (2, .ref (ad 91))] → Wa A D cA L ad s θ H locs → W p l e room_1 s m args below meth c H locs (k1 + 600) (n1 + 3600) Q (F0 m 1035 ls [])) → W p l e room_1 s m args below meth c H locs (k1) (n1) Q (F0 m 136 ls []) := by
  have hb := hR.b
  have m91 : 91 ∈ L := hL.m91
  intro H locs ls hl hw kk
  refine W.widen (k := k1 + 2 * 0) (n := n1 + 12 * 0) (by omega) (by omega) ?_
  refine law_F l hlst hM hT (k1 := k1) (n1 := n1) (by omega) (by omega) hR nf 0 (by omega) μ0 hq0 (fun i hi => absurd hi (Nat.not_lt_zero i)) H locs ls hl hw (fun μ H locs ls hq hF hl hw => ?_)
  refine lv_iconst (v := nI 0) hM.x hM.b dL_law_211 (by decide) ?_
  refine lv_istore (lv' := [(16, .int (nI 0)), (13, .int (dripP κ 0)), (0, .ref b), (1, .ref (ad (0))), (2, .ref (ad (91))), (3, .int (nI (t))), (5, .int (nI (ns))), (6, .int (nI (nr))), (7, .ref (ad (136))), (8, .ref (ad (153))), (9, .ref (ad (154))), (10, .ref (ad (155))), (11, .ref (ad (156))), (12, .ref (ad (157))), (14, .ref (ad (158))), (15, .ref (ad (159)))]) hM.x hM.b dL_law_212 hl (by decide) rfl (fun ls hl => ?_)
  refine W.widen (k := k1 + 6 + 9 * 0) (n := n1 + 36 + 54 * 0) (by omega) (by omega) ?_
  refine law_S l hlst hM hT (k1 := k1 + 6) (n1 := n1 + 36) (by omega) (by omega) hR ns 0 (by omega) μ hq hF (fun i hi => absurd hi (Nat.not_lt_zero i)) H locs ls hl hw (fun μ H locs ls hq hF hS hl hw => ?_)
  refine lv_iconst (v := 0) hM.x hM.b dL_law_327 (by decide) ?_
  refine lv_istore (lv' := [(16, .int (fatP κ 0)), (13, .int (dripP κ ns)), (0, .ref b), (1, .ref (ad (0))), (2, .ref (ad (91))), (3, .int (nI (t))), (5, .int (nI (ns))), (6, .int (nI (nr))), (7, .ref (ad (136))), (8, .ref (ad (153))), (9, .ref (ad (154))), (10, .ref (ad (155))), (11, .ref (ad (156))), (12, .ref (ad (157))), (14, .ref (ad (158))), (15, .ref (ad (159)))]) hM.x hM.b dL_law_328 hl (by decide) rfl (fun ls hl => ?_)
  refine lv_iconst (v := nI 0) hM.x hM.b dL_law_330 (by decide) ?_
  refine lv_istore (lv' := [(17, .int (nI 0)), (16, .int (fatP κ 0)), (13, .int (dripP κ ns)), (0, .ref b), (1, .ref (ad (0))), (2, .ref (ad (91))), (3, .int (nI (t))), (5, .int (nI (ns))), (6, .int (nI (nr))), (7, .ref (ad (136))), (8, .ref (ad (153))), (9, .ref (ad (154))), (10, .ref (ad (155))), (11, .ref (ad (156))), (12, .ref (ad (157))), (14, .ref (ad (158))), (15, .ref (ad (159)))]) hM.x hM.b dL_law_331 hl (by decide) rfl (fun ls hl => ?_)
  refine W.widen (k := k1 + 66 + 16 * 0) (n := n1 + 396 + 96 * 0) (by omega) (by omega) ?_
  refine law_R l hlst hM hT (k1 := k1 + 66) (n1 := n1 + 396) (by omega) (by omega) hR nr 0 (by omega) μ hq hF hS (fun r hr => absurd hr (Nat.not_lt_zero r)) H locs ls hl hw (fun β H locs ls hq hF hS hTr hl hw => ?_)
  have hRβ : RR nf ns nr β := hR.of hq
  have hl : lv_has ls 27 [(16, .int (fatP β nr)), (13, .int (dripP β ns)), (0, .ref b), (1, .ref (ad (0))), (2, .ref (ad (91))), (3, .int (nI (t))), (5, .int (nI (ns))), (6, .int (nI (nr))), (7, .ref (ad (136))), (8, .ref (ad (153))), (9, .ref (ad (154))), (10, .ref (ad (155))), (11, .ref (ad (156))), (12, .ref (ad (157))), (14, .ref (ad (158))), (15, .ref (ad (159)))] := by rw [fatP_q hq nr (by omega), dripP_q hq ns (by omega)]; exact hl
  refine lv_aload_n hM.x hM.b dL_law_532 rfl (lv_at hl 3 rfl) ?_
  refine k_cip hw (k_runV [] [] hM hw (m_X4_minute l ((D, L), cA, ad) β _) (hw.dm kd_0 (by decide)) (sh4 kd_0) rfl (k_gV u_ml_L_162 u_im_X4_minute u_se_X4_minute u_ini_X4 u_co_X4_minute) (q_X4_minute) rfl rfl rfl ⟨Nat.le_of_ble_eq_true rfl, Nat.le_of_ble_eq_true rfl⟩ hl.1 rfl (Nat.le_of_ble_eq_true rfl) dL_law_533 ⟨(by show _ ≤ (817018 : Nat); omega), (by show _ ≤ (6650127 : Nat); omega)⟩) (fun H locs hw => ?_)
  rw [show f_X4_minute β = β 1 6 from congrFun ((fun _ _ => rfl : LoQ β β) 1 (by decide)) 6]
  refine lv_istore (lv' := [(17, .int (β 1 6)), (16, .int (fatP β nr)), (13, .int (dripP β ns)), (0, .ref b), (1, .ref (ad (0))), (2, .ref (ad (91))), (3, .int (nI (t))), (5, .int (nI (ns))), (6, .int (nI (nr))), (7, .ref (ad (136))), (8, .ref (ad (153))), (9, .ref (ad (154))), (10, .ref (ad (155))), (11, .ref (ad (156))), (12, .ref (ad (157))), (14, .ref (ad (158))), (15, .ref (ad (159)))]) hM.x hM.b dL_law_536 hl (by decide) rfl (fun ls hl => ?_)
  refine lv_aload_n hM.x hM.b dL_law_538 rfl (lv_at hl 4 rfl) ?_
  refine lv_iconst (v := nI 1) hM.x hM.b dL_law_539 (by decide) ?_
  obtain ⟨v, κa, θ, he, hC, hSI, e6, hRb, h91, h136⟩ := op_min hRβ
  refine k_xiK he hw (k_runXV [.int (nI (1))] [] hM hw (m_X4_pass l ((D, L), cA, ad) β _ (nI (1)) hlst) (hw.dm kd_0 (by decide)) (sh4 kd_0) rfl (k_gV u_ml_L_93 u_im_X4_pass u_se_X4_pass u_ini_X4 u_co_X4_pass) (q_X4_pass) rfl rfl rfl ⟨(Nat.le_of_ble_eq_true rfl), (Nat.le_of_ble_eq_true rfl)⟩ hl.1 rfl (Nat.le_of_ble_eq_true rfl) dL_law_540 ⟨(by show _ ≤ (817018 : Nat); omega), (by show _ ≤ (6650127 : Nat); omega)⟩) (fun H locs hw => ?_)
  refine lv_istore (lv' := [(18, .int (v)), (17, .int (β 1 6)), (16, .int (fatP β nr)), (13, .int (dripP β ns)), (0, .ref b), (1, .ref (ad (0))), (2, .ref (ad (91))), (3, .int (nI (t))), (5, .int (nI (ns))), (6, .int (nI (nr))), (7, .ref (ad (136))), (8, .ref (ad (153))), (9, .ref (ad (154))), (10, .ref (ad (155))), (11, .ref (ad (156))), (12, .ref (ad (157))), (14, .ref (ad (158))), (15, .ref (ad (159)))]) hM.x hM.b dL_law_543 hl (by decide) rfl (fun ls hl => ?_)
  refine lv_aload_n hM.x hM.b dL_law_545 rfl (lv_at hl 6 rfl) ?_
  refine k_ci hw (k_runV [] [] hM hw (m_X6_pass l ((D, L), cA, ad) κa _ hL hTD hSI) m91 (sh15 kd_91) rfl (k_gV u_ml_L_90 u_im_X6_pass u_se_X6_pass u_ini_X6 u_co_X6_pass) q_X6_pass rfl rfl rfl ⟨(Nat.le_of_ble_eq_true rfl), (Nat.le_of_ble_eq_true rfl)⟩ hl.1 rfl (Nat.le_of_ble_eq_true rfl) dL_law_546 ⟨by show _ ≤ (817018 : Nat); omega, by show _ ≤ (6650127 : Nat); omega⟩) (fun r θ2 H locs hp hw => ?_)
  obtain ⟨hr1, hθ⟩ := Prod.mk.inj (e6.symm.trans hp)
  rw [← hθ] at hw
  refine lv_pop hM.x hM.b dL_law_549 rfl ?_
  have hl : lv_has ls 27 [(18, .int v), (17, .int (β 1 6)), (16, .int (fatP β nr)), (13, .int (dripP β ns)), (0, .ref b), (1, .ref (ad (0))), (2, .ref (ad (91))), (3, .int (nI (t))), (5, .int (nI (ns))), (6, .int (nI (nr))), (7, .ref (ad (136))), (8, .ref (ad (153))), (9, .ref (ad (154))), (10, .ref (ad (155))), (11, .ref (ad (156))), (12, .ref (ad (157))), (14, .ref (ad (158))), (15, .ref (ad (159)))] := lv_sub hl [0, 1, 2, 3, 4, 5, 6, 7, 8, 9, 10, 11, 12, 13, 14, 15, 16, 17] rfl
  refine lv_iconst (v := 0) hM.x hM.b dL_law_550 (by decide) ?_
  refine lv_istore (lv' := [(19, .int (fatP θ 0)), (18, .int v), (17, .int (β 1 6)), (16, .int (fatP β nr)), (13, .int (dripP β ns)), (0, .ref b), (1, .ref (ad (0))), (2, .ref (ad (91))), (3, .int (nI (t))), (5, .int (nI (ns))), (6, .int (nI (nr))), (7, .ref (ad (136))), (8, .ref (ad (153))), (9, .ref (ad (154))), (10, .ref (ad (155))), (11, .ref (ad (156))), (12, .ref (ad (157))), (14, .ref (ad (158))), (15, .ref (ad (159)))]) hM.x hM.b dL_law_551 hl (by decide) rfl (fun ls hl => ?_)
  refine lv_iconst (v := 0) hM.x hM.b dL_law_553 (by decide) ?_
  refine lv_istore (lv' := [(20, .int 0), (19, .int (fatP θ 0)), (18, .int v), (17, .int (β 1 6)), (16, .int (fatP β nr)), (13, .int (dripP β ns)), (0, .ref b), (1, .ref (ad (0))), (2, .ref (ad (91))), (3, .int (nI (t))), (5, .int (nI (ns))), (6, .int (nI (nr))), (7, .ref (ad (136))), (8, .ref (ad (153))), (9, .ref (ad (154))), (10, .ref (ad (155))), (11, .ref (ad (156))), (12, .ref (ad (157))), (14, .ref (ad (158))), (15, .ref (ad (159)))]) hM.x hM.b dL_law_554 hl (by decide) rfl (fun ls hl => ?_)
  refine lv_iconst (v := nI 0) hM.x hM.b dL_law_556 (by decide) ?_
  refine lv_istore (lv' := [(21, .int (nI 0)), (20, .int 0), (19, .int (fatP θ 0)), (18, .int v), (17, .int (β 1 6)), (16, .int (fatP β nr)), (13, .int (dripP β ns)), (0, .ref b), (1, .ref (ad (0))), (2, .ref (ad (91))), (3, .int (nI (t))), (5, .int (nI (ns))), (6, .int (nI (nr))), (7, .ref (ad (136))), (8, .ref (ad (153))), (9, .ref (ad (154))), (10, .ref (ad (155))), (11, .ref (ad (156))), (12, .ref (ad (157))), (14, .ref (ad (158))), (15, .ref (ad (159)))]) hM.x hM.b dL_law_557 hl (by decide) rfl (fun ls hl => ?_)
  have hA : ∀ q, q < 46 → θ q = κa q := fun q hq => h91 q (by omega)
  have hF2 : TF β θ nf := (hF.of (h136 158 (by decide) (by decide)) (h136 159 (by decide) (by decide))).re hq (by omega)
  have hS2 : TS β θ ns := (hS.of (h136 157 (by decide) (by decide))).re hq hR.1
  have hTr2 : TR β θ nr := (hTr.of (by omega) (fun q q1 q2 => h136 q (by omega) (by omega))).re hq (by omega)
  refine W.widen (k := k1 + 326 + 16 * 0) (n := n1 + 1950 + 96 * 0) (by omega) (by omega) ?_
  refine law_A l hlst hM hT (k1 := k1 + 326) (n1 := n1 + 1950) (by omega) (by omega) hRβ.1 hC hA hRb (fun _ _ => rfl) hF2 hS2 hTr2 nr 0 (by omega) H locs ls (lv_sub hl [0, 2, 1, 6, 5, 4, 3, 7, 8, 9, 10, 11, 12, 13, 14, 15, 16, 17, 18, 19, 20] rfl) hw (fun H locs ls hl hw => ?_)
  have hl : lv_has ls 27 [(20, .int (dripP θ 0)), (19, .int (fatP θ nr)), (13, .int (dripP β ns)), (16, .int (fatP β nr)), (17, .int (β 1 6)), (18, .int v), (0, .ref b), (1, .ref (ad (0))), (2, .ref (ad (91))), (3, .int (nI (t))), (5, .int (nI (ns))), (6, .int (nI (nr))), (7, .ref (ad (136))), (8, .ref (ad (153))), (9, .ref (ad (154))), (10, .ref (ad (155))), (11, .ref (ad (156))), (12, .ref (ad (157))), (14, .ref (ad (158))), (15, .ref (ad (159)))] := lv_sub hl [1, 0, 2, 3, 4, 5, 6, 7, 8, 9, 10, 11, 12, 13, 14, 15, 16, 17, 18, 19] rfl
  refine lv_iconst (v := nI 0) hM.x hM.b dL_law_850 (by decide) ?_
  refine lv_istore (lv' := [(21, .int (nI 0)), (20, .int (dripP θ 0)), (19, .int (fatP θ nr)), (13, .int (dripP β ns)), (16, .int (fatP β nr)), (17, .int (β 1 6)), (18, .int v), (0, .ref b), (1, .ref (ad (0))), (2, .ref (ad (91))), (3, .int (nI (t))), (5, .int (nI (ns))), (6, .int (nI (nr))), (7, .ref (ad (136))), (8, .ref (ad (153))), (9, .ref (ad (154))), (10, .ref (ad (155))), (11, .ref (ad (156))), (12, .ref (ad (157))), (14, .ref (ad (158))), (15, .ref (ad (159)))]) hM.x hM.b dL_law_851 hl (by decide) rfl (fun ls hl => ?_)
  refine W.widen (k := k1 + 582 + 0) (n := n1 + 3486 + 6 * 0) (by omega) (by omega) ?_
  refine law_P l hlst hM hT (k1 := k1 + 582) (n1 := n1 + 3486) (by omega) (by omega) hRβ.1 hC hA hRb (fun _ _ => rfl) hF2 hS2 hTr2 ns 0 (by omega) H locs ls hl hw (fun H locs ls hl hw => ?_)
  refine lv_iload hM.x hM.b dL_law_877 (lv_at hl 3 rfl) ?_
  refine lv_iload hM.x hM.b dL_law_879 (lv_at hl 1 rfl) ?_
  refine lv_isub hM.x hM.b dL_law_881 ?_
  refine lv_iload hM.x hM.b dL_law_882 (lv_at hl 0 rfl) ?_
  refine lv_iload hM.x hM.b dL_law_884 (lv_at hl 2 rfl) ?_
  refine lv_isub hM.x hM.b dL_law_886 ?_
  refine lv_iload hM.x hM.b dL_law_887 (lv_at hl 5 rfl) ?_
  refine lv_iadd hM.x hM.b dL_law_889 ?_
  refine lv_icmp_eq (tgt := 895) hM.x hM.b dL_law_890 (by decide) (fun _ => ?_) (fun cz => absurd (sums_c hRβ.1 hC hA) cz)
  refine lv_iconst (v := nI 0) hM.x hM.b dL_law_895 (by decide) ?_
  refine lv_istore (lv' := [(21, .int (nI 0)), (20, .int (dripP θ ns)), (19, .int (fatP θ nr)), (13, .int (dripP β ns)), (16, .int (fatP β nr)), (17, .int (β 1 6)), (18, .int v), (0, .ref b), (1, .ref (ad (0))), (2, .ref (ad (91))), (3, .int (nI (t))), (5, .int (nI (ns))), (6, .int (nI (nr))), (7, .ref (ad (136))), (8, .ref (ad (153))), (9, .ref (ad (154))), (10, .ref (ad (155))), (11, .ref (ad (156))), (12, .ref (ad (157))), (14, .ref (ad (158))), (15, .ref (ad (159)))]) hM.x hM.b dL_law_896 hl (by decide) rfl (fun ls hl => ?_)
  refine W.widen (k := k1 + 588 + 4 * 0) (n := n1 + 3522 + 24 * 0) (by omega) (by omega) ?_
  refine law_G l hlst hM hT (k1 := k1 + 588) (n1 := n1 + 3522) (by omega) (by omega) hRβ.1 hC hA hRb (fun _ _ => rfl) hF2 hS2 hTr2 nf 0 (by omega) H locs ls (lv_sub hl [0, 5, 6, 7, 8, 9, 10, 11, 12, 13, 14, 15, 16, 17, 18, 19, 20] rfl) hw (fun H locs ls hl hw => ?_)
  exact W.widen (by omega) (by omega) (kk θ H locs ls hRb (lv_sub hl [5, 2, 3, 4] rfl) hw)
