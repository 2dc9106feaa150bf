theorem mlk113 : Cond.classLink RL 113 ("[" ++ (FieldType.array .int).toString) ∈ uW := by
  have e : "[" ++ (FieldType.array .int).toString = "[[I" := by decide +kernel
  rw [e]; exact u_cl_L_113
set_option maxRecDepth 100000 in
set_option maxHeartbeats 4000000 in
theorem law_round {p : Program} {e : Env} {s : State} {m : MethodId} {args : Array Value} {below : List Frame} {meth : Method} {c : Code} {Q : State → Prop} {A : Nat → Prop} {D : va_G} {cA : Nat → ClassId} {b t k1 n1 : Nat} (l : Launch) (hlst : l.stackTraces = false) (hM : Ma A D cA p s m args meth c cL_law 27 RL) (hk1 : k1 ≤ 700000) (hn1 : n1 ≤ 5000000) {Ls : Nat} {xs : Nat → Int32} (hLs : Ls ≤ 260) (hX : va_X b Ls xs s s.heap) (hbl : b < s.heap.size) (hbA : ¬ A b) (ht : t < 30) {L : List Nat} {ad ad0 : Nat → Nat} {κ : Kp} {nf ns nr : Nat} (hL : Lm L ad nf ns nr []) (hR : RR nf ns nr κ) (had : ∀ k, k < 92 → ad k = ad0 k) : ∀ (H : Heap) (locs : List Loc) (ls : Array Slot), lv_has ls 27 [(3, .int (nI t)), (0, .ref b), (1, .ref (ad0 0)), (2, .ref (ad0 91))] → Wa A D cA L ad s κ H locs → (∀ (L' : List Nat) (ad' : Nat → Nat) (κ' : Kp) (nf' ns' nr' : Nat) (H : Heap) (locs : List Loc) (ls : Array Slot), Lm L' ad' nf' ns' nr' [] → RR nf' ns' nr' κ' → (∀ k, k < 92 → ad' k = ad0 k) → lv_has ls 27 [(3, .int (nI t)), (0, .ref b), (1, .ref (ad0 0)), (2, .ref (ad0 91))] → Wa A D cA L' ad' s κ' H locs → W p l e room_1 s m args below meth c H locs (k1 + 800) (n1 + 4500) Q (F0 m 1035 ls [])) → W p l e room_1 s m args below meth c H locs (k1) (n1) Q (F0 m 28 ls []) := by
  intro H locs ls hl hw kk
  have hl : lv_has ls 27 [(3, .int (nI t)), (0, .ref b), (1, .ref (ad 0)), (2, .ref (ad 91))] := by rw [had 0 (by decide), had 91 (by decide)]; exact hl
  refine lv_aload_n hM.x hM.b dL_law_28 rfl (lv_at hl 1 rfl) ?_
  refine lv_iload_n hM.x hM.b dL_law_29 rfl (lv_at hl 0 rfl) ?_
  refine lv_bipush (v := nI 16) hM.x hM.b dL_law_30 (by decide) ?_
  refine lv_irem hM.x hM.b dL_law_32 (by decide) ?_
  rw [nI_rem (by omega) (by decide)]
  refine k_ci hw (k_runSX [.ref b, .int (nI (t % 16))] [] hM hw hX hbl hbA (m_L_cell l ((D, L), cA, ad) κ _ (k := t % 16) hLs (Nat.lt_of_lt_of_le hbl hw.2.1.1) (fun z => hbA (fr_lt hw b z)) (by omega)) (k_gS u_ml_L_96 u_st_L_cell u_ini_L u_co_L_cell) q_L_cell rfl rfl rfl ⟨(Nat.le_of_ble_eq_true rfl), (Nat.le_of_ble_eq_true rfl)⟩ hl.1 rfl (Nat.le_of_ble_eq_true rfl) dL_law_33 ⟨by show _ ≤ (817018 : Nat); omega, by show _ ≤ (6650127 : Nat); omega⟩) (fun r κ3 H locs hp hw => ?_)
  have hp : κ3 = κ := hp
  rw [hp] at hw
  refine lv_iload_n hM.x hM.b dL_law_36 rfl (lv_at hl 0 rfl) ?_
  refine lv_bipush (v := nI 16) hM.x hM.b dL_law_37 (by decide) ?_
  refine lv_idiv hM.x hM.b dL_law_39 (by decide) ?_
  refine lv_iconst (v := 3) hM.x hM.b dL_law_40 (by decide) ?_
  refine lv_imul hM.x hM.b dL_law_41 ?_
  refine lv_ishr hM.x hM.b dL_law_42 ?_
  refine lv_sipush (v := 569) hM.x hM.b dL_law_43 (by decide) ?_
  refine lv_iload_n hM.x hM.b dL_law_46 rfl (lv_at hl 0 rfl) ?_
  refine lv_imul hM.x hM.b dL_law_47 ?_
  refine lv_iadd hM.x hM.b dL_law_48 ?_
  generalize (r >>> (nI t / nI 16 * 3 &&& 31) + 569 * nI t : Int32) = x
  refine lv_istore (lv' := [(4, .int x), (3, .int (nI t)), (0, .ref b), (1, .ref (ad 0)), (2, .ref (ad 91))]) hM.x hM.b dL_law_49 hl (by decide) rfl (fun ls hl => ?_)
  refine lv_aload_n hM.x hM.b dL_law_51 rfl (lv_at hl 3 rfl) ?_
  refine lv_aload_n hM.x hM.b dL_law_52 rfl (lv_at hl 4 rfl) ?_
  refine lv_iload hM.x hM.b dL_law_53 (lv_at hl 0 rfl) ?_
  refine k_cw hw (k_runS [.ref (ad 0), .ref (ad 91), .int x] [] hM hw (m_L_act l ((D, L), cA, ad) κ _ x hlst hL hR) (k_gS u_ml_L_100 u_st_L_act u_ini_L u_co_L_act) q_L_act rfl rfl rfl ⟨(Nat.le_of_ble_eq_true rfl), (Nat.le_of_ble_eq_true rfl)⟩ hl.1 rfl (Nat.le_of_ble_eq_true rfl) dL_law_55 ⟨by show _ ≤ (817018 : Nat); omega, by show _ ≤ (6650127 : Nat); omega⟩) (fun r2 L2 ad2 κb H locs hp hw => ?_)
  obtain ⟨rfl, ⟨nf2, ns2, nr2, hL2, hR2⟩, hA2⟩ := hp
  replace hL2 : Lm L2 ad2 nf2 ns2 nr2 [] := hL2
  replace hR2 : RR nf2 ns2 nr2 κb := hR2
  replace hA2 : ∀ k, k < 92 → ad2 k = ad k := hA2
  refine lv_if_ne (tgt := 63) hM.x hM.b dL_law_58 (by decide) (fun _ => ?_) (fun cz => absurd cz (by decide))
  have hb := hR2.b
  have c3b : κb 1 3 = nI nf2 := hR2.1.2.1.1
  have had2 : ∀ k, k < 92 → ad2 k = ad0 k := fun k hk => (hA2 k hk).trans (had k hk)
  have hl : lv_has ls 27 [(3, .int (nI t)), (0, .ref b), (1, .ref (ad2 0)), (2, .ref (ad2 91))] := by rw [hA2 0 (by decide), hA2 91 (by decide)]; exact lv_sub hl [1, 2, 3, 4] rfl
  have hlt2 : ∀ j ∈ L2, j < 136 := fun j hj => by
    rcases (hL2.1 j).mp hj with z | z | z | z | z
    · omega
    · omega
    · omega
    · omega
    · cases z
  have hd2 : ∀ j ∈ L2, ∀ x, dep ad2 j (κb j) x → x < 136 ∨ (1000 ≤ x ∧ x ≠ 1136) := fun j hj x hx => by
    have hj1 := hlt2 j hj
    rcases dep_lm hL2 hj hx with z | z | z | z | z | z
    · omega
    · omega
    · omega
    · omega
    · omega
    · cases z
  refine lv_aload_n hM.x hM.b dL_law_63 rfl (lv_at hl 2 rfl) ?_
  refine k_cip hw (k_runV [] [] hM hw (m_X4_spits l ((D, L2), cA, ad2) κb _) (hw.dm kd_0 (by decide)) (sh4 kd_0) rfl (k_gV u_ml_L_109 u_im_X4_spits u_se_X4_spits u_ini_X4 u_co_X4_spits) (q_X4_spits) rfl rfl rfl ⟨Nat.le_of_ble_eq_true rfl, Nat.le_of_ble_eq_true rfl⟩ hl.1 rfl (Nat.le_of_ble_eq_true rfl) dL_law_64 ⟨(by show _ ≤ (817018 : Nat); omega), (by show _ ≤ (6650127 : Nat); omega)⟩) (fun H locs hw => ?_)
  rw [show f_X4_spits κb = nI ns2 from (congrFun ((fun _ _ => rfl : LoQ κb κb) 1 (by decide)) 4).trans hR2.1.2.1.2.1]
  refine lv_istore (lv' := [(5, .int (nI (ns2))), (3, .int (nI (t))), (0, .ref b), (1, .ref (ad2 (0))), (2, .ref (ad2 (91)))]) hM.x hM.b dL_law_67 hl (by decide) rfl (fun ls hl => ?_)
  refine lv_aload_n hM.x hM.b dL_law_69 rfl (lv_at hl 3 rfl) ?_
  refine k_cip hw (k_runV [] [] hM hw (m_X4_roasts l ((D, L2), cA, ad2) κb _) (hw.dm kd_0 (by decide)) (sh4 kd_0) rfl (k_gV u_ml_L_111 u_im_X4_roasts u_se_X4_roasts u_ini_X4 u_co_X4_roasts) (q_X4_roasts) rfl rfl rfl ⟨Nat.le_of_ble_eq_true rfl, Nat.le_of_ble_eq_true rfl⟩ hl.1 rfl (Nat.le_of_ble_eq_true rfl) dL_law_70 ⟨(by show _ ≤ (817018 : Nat); omega), (by show _ ≤ (6650127 : Nat); omega)⟩) (fun H locs hw => ?_)
  rw [show f_X4_roasts κb = nI nr2 from (congrFun ((fun _ _ => rfl : LoQ κb κb) 1 (by decide)) 5).trans hR2.1.2.1.2.2]
  refine lv_istore (lv' := [(6, .int (nI (nr2))), (5, .int (nI (ns2))), (3, .int (nI (t))), (0, .ref b), (1, .ref (ad2 (0))), (2, .ref (ad2 (91)))]) hM.x hM.b dL_law_73 hl (by decide) rfl (fun ls hl => ?_)
  refine lv_iload hM.x hM.b dL_law_75 (lv_at hl 0 rfl) ?_
  refine lv_iconst (v := nI 4) hM.x hM.b dL_law_77 (by decide) ?_
  refine a_mna hM hw hlt2 hd2 (by omega) mlk113 (by show _ ≤ (817018 : Nat); omega) (by show _ ≤ (6650127 : Nat); omega) dL_law_78 (fun ad3 H a3 b3 c3 hw => ?_)
  have hl : lv_has ls 27 [(6, .int (nI (nr2))), (5, .int (nI (ns2))), (3, .int (nI (t))), (0, .ref b), (1, .ref (ad3 (0))), (2, .ref (ad3 (91)))] := by rw [a3 0 (by decide), a3 91 (by decide)]; exact hl
  obtain ⟨κq1, eκq1⟩ : ∃ z : Kp, κM κb = z := ⟨_, rfl⟩
  rw [eκq1] at hw
  have hSκq1 : LoQ κb κq1 := by rw [← eκq1]; exact LoQ.mna
  have hG := SG.start hL2 b3 c3
  have hL3 := hL2.mna b3 hb.2.2 (ad' := ad3) (n := nr2)
  have g1136 := c3
  have g92 : ∀ k, k < 92 → ad3 k = ad0 k := fun k hk => (a3 k (by omega)).trans (had2 k hk)
  have mrow : ∀ i, i < nr2 → 137 + i ∈ LM L2 nr2 := fun i hi => LM_mem.mpr (Or.inr (Or.inr ⟨by omega, by omega⟩))
  have q136 : 136 ∈ LM L2 nr2 := LM_mem.mpr (Or.inr (Or.inl rfl))
  obtain ⟨L3, eL3⟩ : ∃ z : List Nat, LM L2 nr2 = z := ⟨_, rfl⟩
  rw [eL3] at hw hG hL3 mrow q136
  obtain ⟨T3, eT3⟩ : ∃ z : List Nat, [136] ++ (List.range nr2).map (fun i => 137 + i) = z := ⟨_, rfl⟩
  rw [eT3] at hL3
  refine W.widen (k := k1 + 147) (n := n1 + 680) (by omega) (by omega) ?_
  refine lv_astore (lv' := [(7, .ref (ad3 (136))), (6, .int (nI (nr2))), (5, .int (nI (ns2))), (3, .int (nI (t))), (0, .ref b), (1, .ref (ad3 (0))), (2, .ref (ad3 (91)))]) hM.x hM.b dL_law_82 hl (by decide) rfl (fun ls hl => ?_)
  refine lv_iload hM.x hM.b dL_law_84 (lv_at hl 1 rfl) ?_
  refine a_newI (N := nr2) (153) hM hw hG.no (by decide) (hG.dp (by decide)) (fun ad9 h r => by rw [sh23 kd_153, show ad9 (1000 + 153) = nr2 from h]) rfl (Nat.le_trans hb.2.2 (by decide)) (capk hk1 (z := 148) (by decide)) (caps hn1 (y := 680) (Nat.le_trans hb.2.2 (by decide)) (by decide)) dL_law_86 (fun ad4 H hX4 hw => ?_)
  have hl : lv_has ls 27 [(7, .ref (ad4 (136))), (6, .int (nI (nr2))), (5, .int (nI (ns2))), (3, .int (nI (t))), (0, .ref b), (1, .ref (ad4 (0))), (2, .ref (ad4 (91)))] := by rw [hX4.1 (136) (by decide) (by decide), hX4.1 (0) (by decide) (by decide), hX4.1 (91) (by decide) (by decide)]; exact hl
  obtain ⟨κ1, eκ1⟩ : ∃ z : Kp, va_up κq1 (153) (fun _ => 0) = z := ⟨_, rfl⟩
  rw [eκ1] at hw
  have hSκ1 : LoQ κb κ1 := by rw [← eκ1]; exact LoQ.new hSκq1 (by decide)
  have hG : SG (L3 ++ [153]) ad4 154 := hG.add (by decide) hX4
  have hL3 : Lm (L3 ++ [153]) ad4 nf2 ns2 nr2 (T3 ++ [153]) := hL3.add hX4 (by decide) (by decide)
  obtain ⟨L4, eL4⟩ : ∃ z : List Nat, L3 ++ [153] = z := ⟨_, rfl⟩
  obtain ⟨T4, eT4⟩ : ∃ z : List Nat, T3 ++ [153] = z := ⟨_, rfl⟩
  rw [eL4] at hw hG hL3
  rw [eT4] at hL3
  have mUp : ∀ k, k ∈ L3 → k ∈ L4 := fun k hk => by rw [← eL4]; exact List.mem_append_left _ hk
  have mrow : ∀ i, i < nr2 → 137 + i ∈ L4 := fun i hi => mUp _ (mrow i hi)
  have q136 := mUp _ q136
  have q153 : 153 ∈ L4 := by rw [← eL4]; exact List.mem_append_right _ (List.mem_singleton_self _)
  refine W.widen (k := k1 + 148) (n := n1 + 696) (Nat.le_refl _) (Nat.add_le_add_left hb.2.2 _) ?_
  have g1136 := (hX4.1 1136 (by decide) (by decide)).trans g1136
  have g1153 := hX4.2
  have g92 : ∀ k, k < 92 → ad4 k = ad0 k := fun k hk => (hX4.low (by decide) hk).trans (g92 k hk)
  refine lv_astore (lv' := [(8, .ref (ad4 (153))), (7, .ref (ad4 (136))), (6, .int (nI (nr2))), (5, .int (nI (ns2))), (3, .int (nI (t))), (0, .ref b), (1, .ref (ad4 (0))), (2, .ref (ad4 (91)))]) hM.x hM.b dL_law_88 hl (by decide) rfl (fun ls hl => ?_)
  refine lv_iload hM.x hM.b dL_law_90 (lv_at hl 2 rfl) ?_
  refine a_newI (N := nr2) (154) hM hw hG.no (by decide) (hG.dp (by decide)) (fun ad9 h r => by rw [sh23 kd_154, show ad9 (1000 + 154) = nr2 from h]) rfl (Nat.le_trans hb.2.2 (by decide)) (capk hk1 (z := 149) (by decide)) (caps hn1 (y := 696) (Nat.le_trans hb.2.2 (by decide)) (by decide)) dL_law_92 (fun ad5 H hX5 hw => ?_)
  have hl : lv_has ls 27 [(8, .ref (ad5 (153))), (7, .ref (ad5 (136))), (6, .int (nI (nr2))), (5, .int (nI (ns2))), (3, .int (nI (t))), (0, .ref b), (1, .ref (ad5 (0))), (2, .ref (ad5 (91)))] := by rw [hX5.1 (153) (by decide) (by decide), hX5.1 (136) (by decide) (by decide), hX5.1 (0) (by decide) (by decide), hX5.1 (91) (by decide) (by decide)]; exact hl
  obtain ⟨κ2, eκ2⟩ : ∃ z : Kp, va_up κ1 (154) (fun _ => 0) = z := ⟨_, rfl⟩
  rw [eκ2] at hw
  have hSκ2 : LoQ κb κ2 := by rw [← eκ2]; exact LoQ.new hSκ1 (by decide)
  have hG : SG (L4 ++ [154]) ad5 155 := hG.add (by decide) hX5
  have hL3 : Lm (L4 ++ [154]) ad5 nf2 ns2 nr2 (T4 ++ [154]) := hL3.add hX5 (by decide) (by decide)
  obtain ⟨L5, eL5⟩ : ∃ z : List Nat, L4 ++ [154] = z := ⟨_, rfl⟩
  obtain ⟨T5, eT5⟩ : ∃ z : List Nat, T4 ++ [154] = z := ⟨_, rfl⟩
  rw [eL5] at hw hG hL3
  rw [eT5] at hL3
  have mUp : ∀ k, k ∈ L4 → k ∈ L5 := fun k hk => by rw [← eL5]; exact List.mem_append_left _ hk
  have mrow : ∀ i, i < nr2 → 137 + i ∈ L5 := fun i hi => mUp _ (mrow i hi)
  have q136 := mUp _ q136
  have q153 := mUp _ q153
  have q154 : 154 ∈ L5 := by rw [← eL5]; exact List.mem_append_right _ (List.mem_singleton_self _)
  refine W.widen (k := k1 + 149) (n := n1 + 712) (Nat.le_refl _) (Nat.add_le_add_left hb.2.2 _) ?_
  have g1136 := (hX5.1 1136 (by decide) (by decide)).trans g1136
  have g1153 := (hX5.1 1153 (by decide) (by decide)).trans g1153
  have g1154 := hX5.2
  have g92 : ∀ k, k < 92 → ad5 k = ad0 k := fun k hk => (hX5.low (by decide) hk).trans (g92 k hk)
  refine lv_astore (lv' := [(9, .ref (ad5 (154))), (8, .ref (ad5 (153))), (7, .ref (ad5 (136))), (6, .int (nI (nr2))), (5, .int (nI (ns2))), (3, .int (nI (t))), (0, .ref b), (1, .ref (ad5 (0))), (2, .ref (ad5 (91)))]) hM.x hM.b dL_law_94 hl (by decide) rfl (fun ls hl => ?_)
  refine lv_iload hM.x hM.b dL_law_96 (lv_at hl 3 rfl) ?_
  refine a_newI (N := nr2) (155) hM hw hG.no (by decide) (hG.dp (by decide)) (fun ad9 h r => by rw [sh23 kd_155, show ad9 (1000 + 155) = nr2 from h]) rfl (Nat.le_trans hb.2.2 (by decide)) (capk hk1 (z := 150) (by decide)) (caps hn1 (y := 712) (Nat.le_trans hb.2.2 (by decide)) (by decide)) dL_law_98 (fun ad6 H hX6 hw => ?_)
  have hl : lv_has ls 27 [(9, .ref (ad6 (154))), (8, .ref (ad6 (153))), (7, .ref (ad6 (136))), (6, .int (nI (nr2))), (5, .int (nI (ns2))), (3, .int (nI (t))), (0, .ref b), (1, .ref (ad6 (0))), (2, .ref (ad6 (91)))] := by rw [hX6.1 (154) (by decide) (by decide), hX6.1 (153) (by decide) (by decide), hX6.1 (136) (by decide) (by decide), hX6.1 (0) (by decide) (by decide), hX6.1 (91) (by decide) (by decide)]; exact hl
  obtain ⟨κ3, eκ3⟩ : ∃ z : Kp, va_up κ2 (155) (fun _ => 0) = z := ⟨_, rfl⟩
  rw [eκ3] at hw
  have hSκ3 : LoQ κb κ3 := by rw [← eκ3]; exact LoQ.new hSκ2 (by decide)
  have hG : SG (L5 ++ [155]) ad6 156 := hG.add (by decide) hX6
  have hL3 : Lm (L5 ++ [155]) ad6 nf2 ns2 nr2 (T5 ++ [155]) := hL3.add hX6 (by decide) (by decide)
  obtain ⟨L6, eL6⟩ : ∃ z : List Nat, L5 ++ [155] = z := ⟨_, rfl⟩
  obtain ⟨T6, eT6⟩ : ∃ z : List Nat, T5 ++ [155] = z := ⟨_, rfl⟩
  rw [eL6] at hw hG hL3
  rw [eT6] at hL3
  have mUp : ∀ k, k ∈ L5 → k ∈ L6 := fun k hk => by rw [← eL6]; exact List.mem_append_left _ hk
  have mrow : ∀ i, i < nr2 → 137 + i ∈ L6 := fun i hi => mUp _ (mrow i hi)
  have q136 := mUp _ q136
  have q153 := mUp _ q153
  have q154 := mUp _ q154
  have q155 : 155 ∈ L6 := by rw [← eL6]; exact List.mem_append_right _ (List.mem_singleton_self _)
  refine W.widen (k := k1 + 150) (n := n1 + 728) (Nat.le_refl _) (Nat.add_le_add_left hb.2.2 _) ?_
  have g1136 := (hX6.1 1136 (by decide) (by decide)).trans g1136
  have g1153 := (hX6.1 1153 (by decide) (by decide)).trans g1153
  have g1154 := (hX6.1 1154 (by decide) (by decide)).trans g1154
  have g1155 := hX6.2
  have g92 : ∀ k, k < 92 → ad6 k = ad0 k := fun k hk => (hX6.low (by decide) hk).trans (g92 k hk)
  refine lv_astore (lv' := [(10, .ref (ad6 (155))), (9, .ref (ad6 (154))), (8, .ref (ad6 (153))), (7, .ref (ad6 (136))), (6, .int (nI (nr2))), (5, .int (nI (ns2))), (3, .int (nI (t))), (0, .ref b), (1, .ref (ad6 (0))), (2, .ref (ad6 (91)))]) hM.x hM.b dL_law_100 hl (by decide) rfl (fun ls hl => ?_)
  refine lv_iload hM.x hM.b dL_law_102 (lv_at hl 4 rfl) ?_
  refine a_newZ (N := nr2) (156) hM hw hG.no (by decide) (hG.dp (by decide)) (fun ad9 h r => by rw [sh24 kd_156, show ad9 (1000 + 156) = nr2 from h]) rfl (Nat.le_trans hb.2.2 (by decide)) (capk hk1 (z := 151) (by decide)) (caps hn1 (y := 728) (Nat.le_trans hb.2.2 (by decide)) (by decide)) dL_law_104 (fun ad7 H hX7 hw => ?_)
  have hl : lv_has ls 27 [(10, .ref (ad7 (155))), (9, .ref (ad7 (154))), (8, .ref (ad7 (153))), (7, .ref (ad7 (136))), (6, .int (nI (nr2))), (5, .int (nI (ns2))), (3, .int (nI (t))), (0, .ref b), (1, .ref (ad7 (0))), (2, .ref (ad7 (91)))] := by rw [hX7.1 (155) (by decide) (by decide), hX7.1 (154) (by decide) (by decide), hX7.1 (153) (by decide) (by decide), hX7.1 (136) (by decide) (by decide), hX7.1 (0) (by decide) (by decide), hX7.1 (91) (by decide) (by decide)]; exact hl
  obtain ⟨κ4, eκ4⟩ : ∃ z : Kp, va_up κ3 (156) (fun _ => 0) = z := ⟨_, rfl⟩
  rw [eκ4] at hw
  have hSκ4 : LoQ κb κ4 := by rw [← eκ4]; exact LoQ.new hSκ3 (by decide)
  have hG : SG (L6 ++ [156]) ad7 157 := hG.add (by decide) hX7
  have hL3 : Lm (L6 ++ [156]) ad7 nf2 ns2 nr2 (T6 ++ [156]) := hL3.add hX7 (by decide) (by decide)
  obtain ⟨L7, eL7⟩ : ∃ z : List Nat, L6 ++ [156] = z := ⟨_, rfl⟩
  obtain ⟨T7, eT7⟩ : ∃ z : List Nat, T6 ++ [156] = z := ⟨_, rfl⟩
  rw [eL7] at hw hG hL3
  rw [eT7] at hL3
  have mUp : ∀ k, k ∈ L6 → k ∈ L7 := fun k hk => by rw [← eL7]; exact List.mem_append_left _ hk
  have mrow : ∀ i, i < nr2 → 137 + i ∈ L7 := fun i hi => mUp _ (mrow i hi)
  have q136 := mUp _ q136
  have q153 := mUp _ q153
  have q154 := mUp _ q154
  have q155 := mUp _ q155
  have q156 : 156 ∈ L7 := by rw [← eL7]; exact List.mem_append_right _ (List.mem_singleton_self _)
  refine W.widen (k := k1 + 151) (n := n1 + 744) (Nat.le_refl _) (Nat.add_le_add_left hb.2.2 _) ?_
  have g1136 := (hX7.1 1136 (by decide) (by decide)).trans g1136
  have g1153 := (hX7.1 1153 (by decide) (by decide)).trans g1153
  have g1154 := (hX7.1 1154 (by decide) (by decide)).trans g1154
  have g1155 := (hX7.1 1155 (by decide) (by decide)).trans g1155
  have g1156 := hX7.2
  have g92 : ∀ k, k < 92 → ad7 k = ad0 k := fun k hk => (hX7.low (by decide) hk).trans (g92 k hk)
  refine lv_astore (lv' := [(11, .ref (ad7 (156))), (10, .ref (ad7 (155))), (9, .ref (ad7 (154))), (8, .ref (ad7 (153))), (7, .ref (ad7 (136))), (6, .int (nI (nr2))), (5, .int (nI (ns2))), (3, .int (nI (t))), (0, .ref b), (1, .ref (ad7 (0))), (2, .ref (ad7 (91)))]) hM.x hM.b dL_law_106 hl (by decide) rfl (fun ls hl => ?_)
  refine lv_iload hM.x hM.b dL_law_108 (lv_at hl 6 rfl) ?_
  refine a_newI (N := ns2) (157) hM hw hG.no (by decide) (hG.dp (by decide)) (fun ad9 h r => by rw [sh23 kd_157, show ad9 (1000 + 157) = ns2 from h]) rfl (Nat.le_trans hb.2.1 (by decide)) (capk hk1 (z := 152) (by decide)) (caps hn1 (y := 744) (Nat.le_trans hb.2.1 (by decide)) (by decide)) dL_law_110 (fun ad8 H hX8 hw => ?_)
  have hl : lv_has ls 27 [(11, .ref (ad8 (156))), (10, .ref (ad8 (155))), (9, .ref (ad8 (154))), (8, .ref (ad8 (153))), (7, .ref (ad8 (136))), (6, .int (nI (nr2))), (5, .int (nI (ns2))), (3, .int (nI (t))), (0, .ref b), (1, .ref (ad8 (0))), (2, .ref (ad8 (91)))] := by rw [hX8.1 (156) (by decide) (by decide), hX8.1 (155) (by decide) (by decide), hX8.1 (154) (by decide) (by decide), hX8.1 (153) (by decide) (by decide), hX8.1 (136) (by decide) (by decide), hX8.1 (0) (by decide) (by decide), hX8.1 (91) (by decide) (by decide)]; exact hl
  obtain ⟨κ5, eκ5⟩ : ∃ z : Kp, va_up κ4 (157) (fun _ => 0) = z := ⟨_, rfl⟩
  rw [eκ5] at hw
  have hSκ5 : LoQ κb κ5 := by rw [← eκ5]; exact LoQ.new hSκ4 (by decide)
  have hG : SG (L7 ++ [157]) ad8 158 := hG.add (by decide) hX8
  have hL3 : Lm (L7 ++ [157]) ad8 nf2 ns2 nr2 (T7 ++ [157]) := hL3.add hX8 (by decide) (by decide)
  obtain ⟨L8, eL8⟩ : ∃ z : List Nat, L7 ++ [157] = z := ⟨_, rfl⟩
  obtain ⟨T8, eT8⟩ : ∃ z : List Nat, T7 ++ [157] = z := ⟨_, rfl⟩
  rw [eL8] at hw hG hL3
  rw [eT8] at hL3
  have mUp : ∀ k, k ∈ L7 → k ∈ L8 := fun k hk => by rw [← eL8]; exact List.mem_append_left _ hk
  have mrow : ∀ i, i < nr2 → 137 + i ∈ L8 := fun i hi => mUp _ (mrow i hi)
  have q136 := mUp _ q136
  have q153 := mUp _ q153
  have q154 := mUp _ q154
  have q155 := mUp _ q155
  have q156 := mUp _ q156
  have q157 : 157 ∈ L8 := by rw [← eL8]; exact List.mem_append_right _ (List.mem_singleton_self _)
  refine W.widen (k := k1 + 152) (n := n1 + 750) (Nat.le_refl _) (Nat.add_le_add_left hb.2.1 _) ?_
  have g1136 := (hX8.1 1136 (by decide) (by decide)).trans g1136
  have g1153 := (hX8.1 1153 (by decide) (by decide)).trans g1153
  have g1154 := (hX8.1 1154 (by decide) (by decide)).trans g1154
  have g1155 := (hX8.1 1155 (by decide) (by decide)).trans g1155
  have g1156 := (hX8.1 1156 (by decide) (by decide)).trans g1156
  have g1157 := hX8.2
  have g92 : ∀ k, k < 92 → ad8 k = ad0 k := fun k hk => (hX8.low (by decide) hk).trans (g92 k hk)
  refine lv_astore (lv' := [(12, .ref (ad8 (157))), (11, .ref (ad8 (156))), (10, .ref (ad8 (155))), (9, .ref (ad8 (154))), (8, .ref (ad8 (153))), (7, .ref (ad8 (136))), (6, .int (nI (nr2))), (5, .int (nI (ns2))), (3, .int (nI (t))), (0, .ref b), (1, .ref (ad8 (0))), (2, .ref (ad8 (91)))]) hM.x hM.b dL_law_112 hl (by decide) rfl (fun ls hl => ?_)
  refine lv_iconst (v := 0) hM.x hM.b dL_law_114 (by decide) ?_
  refine lv_istore (lv' := [(13, .int (0)), (12, .ref (ad8 (157))), (11, .ref (ad8 (156))), (10, .ref (ad8 (155))), (9, .ref (ad8 (154))), (8, .ref (ad8 (153))), (7, .ref (ad8 (136))), (6, .int (nI (nr2))), (5, .int (nI (ns2))), (3, .int (nI (t))), (0, .ref b), (1, .ref (ad8 (0))), (2, .ref (ad8 (91)))]) hM.x hM.b dL_law_115 hl (by decide) rfl (fun ls hl => ?_)
  refine lv_aload_n hM.x hM.b dL_law_117 rfl (lv_at hl 11 rfl) ?_
  have c3q : κ5 1 3 = nI nf2 := by rw [hSκ5 1 (by decide)]; exact c3b
  refine k_fires l hM hw hl.1 c3q (capk hk1 (by decide)) (caps hn1 (z := 0) (by decide) (by decide)) dL_law_118 (fun H locs hw => ?_)
  refine a_newI (N := nf2) (158) hM hw hG.no (by decide) (hG.dp (by decide)) (fun ad9 h r => by rw [sh23 kd_158, show ad9 (1000 + 158) = nf2 from h]) rfl (Nat.le_trans hb.1 (by decide)) (capk hk1 (z := 153) (by decide)) (caps hn1 (y := 750) (Nat.le_trans hb.1 (by decide)) (by decide)) dL_law_121 (fun ad9 H hX9 hw => ?_)
  have hl : lv_has ls 27 [(13, .int (0)), (12, .ref (ad9 (157))), (11, .ref (ad9 (156))), (10, .ref (ad9 (155))), (9, .ref (ad9 (154))), (8, .ref (ad9 (153))), (7, .ref (ad9 (136))), (6, .int (nI (nr2))), (5, .int (nI (ns2))), (3, .int (nI (t))), (0, .ref b), (1, .ref (ad9 (0))), (2, .ref (ad9 (91)))] := by rw [hX9.1 (157) (by decide) (by decide), hX9.1 (156) (by decide) (by decide), hX9.1 (155) (by decide) (by decide), hX9.1 (154) (by decide) (by decide), hX9.1 (153) (by decide) (by decide), hX9.1 (136) (by decide) (by decide), hX9.1 (0) (by decide) (by decide), hX9.1 (91) (by decide) (by decide)]; exact hl
  obtain ⟨κ6, eκ6⟩ : ∃ z : Kp, va_up κ5 (158) (fun _ => 0) = z := ⟨_, rfl⟩
  rw [eκ6] at hw
  have hSκ6 : LoQ κb κ6 := by rw [← eκ6]; exact LoQ.new hSκ5 (by decide)
  have hG : SG (L8 ++ [158]) ad9 159 := hG.add (by decide) hX9
  have hL3 : Lm (L8 ++ [158]) ad9 nf2 ns2 nr2 (T8 ++ [158]) := hL3.add hX9 (by decide) (by decide)
  obtain ⟨L9, eL9⟩ : ∃ z : List Nat, L8 ++ [158] = z := ⟨_, rfl⟩
  obtain ⟨T9, eT9⟩ : ∃ z : List Nat, T8 ++ [158] = z := ⟨_, rfl⟩
  rw [eL9] at hw hG hL3
  rw [eT9] at hL3
  have mUp : ∀ k, k ∈ L8 → k ∈ L9 := fun k hk => by rw [← eL9]; exact List.mem_append_left _ hk
  have mrow : ∀ i, i < nr2 → 137 + i ∈ L9 := fun i hi => mUp _ (mrow i hi)
  have q136 := mUp _ q136
  have q153 := mUp _ q153
  have q154 := mUp _ q154
  have q155 := mUp _ q155
  have q156 := mUp _ q156
  have q157 := mUp _ q157
  have q158 : 158 ∈ L9 := by rw [← eL9]; exact List.mem_append_right _ (List.mem_singleton_self _)
  refine W.widen (k := k1 + 153) (n := n1 + 753) (Nat.le_refl _) (Nat.add_le_add_left hb.1 _) ?_
  have g1136 := (hX9.1 1136 (by decide) (by decide)).trans g1136
  have g1153 := (hX9.1 1153 (by decide) (by decide)).trans g1153
  have g1154 := (hX9.1 1154 (by decide) (by decide)).trans g1154
  have g1155 := (hX9.1 1155 (by decide) (by decide)).trans g1155
  have g1156 := (hX9.1 1156 (by decide) (by decide)).trans g1156
  have g1157 := (hX9.1 1157 (by decide) (by decide)).trans g1157
  have g1158 := hX9.2
  have g92 : ∀ k, k < 92 → ad9 k = ad0 k := fun k hk => (hX9.low (by decide) hk).trans (g92 k hk)
  refine lv_astore (lv' := [(14, .ref (ad9 (158))), (13, .int (0)), (12, .ref (ad9 (157))), (11, .ref (ad9 (156))), (10, .ref (ad9 (155))), (9, .ref (ad9 (154))), (8, .ref (ad9 (153))), (7, .ref (ad9 (136))), (6, .int (nI (nr2))), (5, .int (nI (ns2))), (3, .int (nI (t))), (0, .ref b), (1, .ref (ad9 (0))), (2, .ref (ad9 (91)))]) hM.x hM.b dL_law_123 hl (by decide) rfl (fun ls hl => ?_)
  refine lv_aload_n hM.x hM.b dL_law_125 rfl (lv_at hl 12 rfl) ?_
  have c3q : κ6 1 3 = nI nf2 := by rw [hSκ6 1 (by decide)]; exact c3b
  refine k_fires l hM hw hl.1 c3q (capk hk1 (by decide)) (caps hn1 (z := 0) (by decide) (by decide)) dL_law_126 (fun H locs hw => ?_)
  refine a_newI (N := nf2) (159) hM hw hG.no (by decide) (hG.dp (by decide)) (fun ad9 h r => by rw [sh23 kd_159, show ad9 (1000 + 159) = nf2 from h]) rfl (Nat.le_trans hb.1 (by decide)) (capk hk1 (z := 154) (by decide)) (caps hn1 (y := 753) (Nat.le_trans hb.1 (by decide)) (by decide)) dL_law_129 (fun ad10 H hX10 hw => ?_)
  have hl : lv_has ls 27 [(14, .ref (ad10 (158))), (13, .int (0)), (12, .ref (ad10 (157))), (11, .ref (ad10 (156))), (10, .ref (ad10 (155))), (9, .ref (ad10 (154))), (8, .ref (ad10 (153))), (7, .ref (ad10 (136))), (6, .int (nI (nr2))), (5, .int (nI (ns2))), (3, .int (nI (t))), (0, .ref b), (1, .ref (ad10 (0))), (2, .ref (ad10 (91)))] := by rw [hX10.1 (158) (by decide) (by decide), hX10.1 (157) (by decide) (by decide), hX10.1 (156) (by decide) (by decide), hX10.1 (155) (by decide) (by decide), hX10.1 (154) (by decide) (by decide), hX10.1 (153) (by decide) (by decide), hX10.1 (136) (by decide) (by decide), hX10.1 (0) (by decide) (by decide), hX10.1 (91) (by decide) (by decide)]; exact hl
  obtain ⟨κ7, eκ7⟩ : ∃ z : Kp, va_up κ6 (159) (fun _ => 0) = z := ⟨_, rfl⟩
  rw [eκ7] at hw
  have hSκ7 : LoQ κb κ7 := by rw [← eκ7]; exact LoQ.new hSκ6 (by decide)
  have hG : SG (L9 ++ [159]) ad10 160 := hG.add (by decide) hX10
  have hL3 : Lm (L9 ++ [159]) ad10 nf2 ns2 nr2 (T9 ++ [159]) := hL3.add hX10 (by decide) (by decide)
  obtain ⟨L10, eL10⟩ : ∃ z : List Nat, L9 ++ [159] = z := ⟨_, rfl⟩
  obtain ⟨T10, eT10⟩ : ∃ z : List Nat, T9 ++ [159] = z := ⟨_, rfl⟩
  rw [eL10] at hw hG hL3
  rw [eT10] at hL3
  have mUp : ∀ k, k ∈ L9 → k ∈ L10 := fun k hk => by rw [← eL10]; exact List.mem_append_left _ hk
  have mrow : ∀ i, i < nr2 → 137 + i ∈ L10 := fun i hi => mUp _ (mrow i hi)
  have q136 := mUp _ q136
  have q153 := mUp _ q153
  have q154 := mUp _ q154
  have q155 := mUp _ q155
  have q156 := mUp _ q156
  have q157 := mUp _ q157
  have q158 := mUp _ q158
  have q159 : 159 ∈ L10 := by rw [← eL10]; exact List.mem_append_right _ (List.mem_singleton_self _)
  refine W.widen (k := k1 + 154) (n := n1 + 756) (Nat.le_refl _) (Nat.add_le_add_left hb.1 _) ?_
  have g1136 := (hX10.1 1136 (by decide) (by decide)).trans g1136
  have g1153 := (hX10.1 1153 (by decide) (by decide)).trans g1153
  have g1154 := (hX10.1 1154 (by decide) (by decide)).trans g1154
  have g1155 := (hX10.1 1155 (by decide) (by decide)).trans g1155
  have g1156 := (hX10.1 1156 (by decide) (by decide)).trans g1156
  have g1157 := (hX10.1 1157 (by decide) (by decide)).trans g1157
  have g1158 := (hX10.1 1158 (by decide) (by decide)).trans g1158
  have g1159 := hX10.2
  have g92 : ∀ k, k < 92 → ad10 k = ad0 k := fun k hk => (hX10.low (by decide) hk).trans (g92 k hk)
  refine lv_astore (lv' := [(15, .ref (ad10 (159))), (14, .ref (ad10 (158))), (13, .int (0)), (12, .ref (ad10 (157))), (11, .ref (ad10 (156))), (10, .ref (ad10 (155))), (9, .ref (ad10 (154))), (8, .ref (ad10 (153))), (7, .ref (ad10 (136))), (6, .int (nI (nr2))), (5, .int (nI (ns2))), (3, .int (nI (t))), (0, .ref b), (1, .ref (ad10 (0))), (2, .ref (ad10 (91)))]) hM.x hM.b dL_law_131 hl (by decide) rfl (fun ls hl => ?_)
  refine lv_iconst (v := nI 0) hM.x hM.b dL_law_133 (by decide) ?_
  refine lv_istore (lv' := [(16, .int (nI (0))), (15, .ref (ad10 (159))), (14, .ref (ad10 (158))), (13, .int (0)), (12, .ref (ad10 (157))), (11, .ref (ad10 (156))), (10, .ref (ad10 (155))), (9, .ref (ad10 (154))), (8, .ref (ad10 (153))), (7, .ref (ad10 (136))), (6, .int (nI (nr2))), (5, .int (nI (ns2))), (3, .int (nI (t))), (0, .ref b), (1, .ref (ad10 (0))), (2, .ref (ad10 (91)))]) hM.x hM.b dL_law_134 hl (by decide) rfl (fun ls hl => ?_)
  have gt : ∀ k, 153 ≤ k → k < 160 → k ∈ L10 := fun k u1 u2 => by
    have hc := seven u1 u2
    rcases hc with rfl | rfl | rfl | rfl | rfl | rfl | rfl
    · exact q153
    · exact q154
    · exact q155
    · exact q156
    · exact q157
    · exact q158
    · exact q159
  have hT : TW L10 ad10 nf2 ns2 nr2 := ⟨⟨q136, mrow⟩, gt, g1136, g1153, g1154, g1155, g1156, g1157, g1158, g1159⟩
  have hTD := hG.td (by decide) hL3
  refine W.widen (k := k1 + 160) (n := n1 + 800) (Nat.le_add_right _ 6) (Nat.le_add_right _ 44) ?_
  refine law_body l hlst hM hT (k1 := k1 + 160) (n1 := n1 + 800) (Nat.le_trans (Nat.add_le_add_right hk1 160) (by decide)) (Nat.le_trans (Nat.add_le_add_right hn1 800) (by decide)) hL3 hTD hR2 hSκ7 H _ ls (lv_sub hl [0, 3, 13, 14, 15, 12, 11, 10, 9, 8, 7, 6, 5, 4, 2, 1] rfl) hw (fun θ H locs ls hRθ hl hw => ?_)
  refine W.widen (k := k1 + 800) (n := n1 + 4500) (Nat.le_add_right _ 40) (Nat.le_add_right _ 100) ?_
  exact kk _ ad10 θ nf2 ns2 nr2 H locs ls hL3.drop hRθ g92 (by rw [← g92 0 (by decide), ← g92 91 (by decide)]; exact hl) (hw.drop _ (fun k hk => decide_eq_true (Nat.lt_trans hk (by decide))))
