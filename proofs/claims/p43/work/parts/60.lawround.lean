theorem mlk113 : Cond.classLink RL 113 ("[" ++ (FieldType.array .int).toString) ∈ uW := by
  have e : "[" ++ (FieldType.array .int).toString = "[[I" := by decide +kernel
  rw [e]; exact u_cl_L_113
set_option maxRecDepth 100000 in
set_option maxHeartbeats 4000000 in
theorem law_round {p : Program} {e : Env} {s : State} {m : MethodId} {args : Array Value} {below : List Frame} {meth : Method} {c : Code} {Q : State → Prop} {A : Nat → Prop} {D : va_G} {cA : Nat → ClassId} {b t k1 n1 : Nat} (l : Launch) (hlst : l.stackTraces = false) (hM : Ma A D cA p s m args meth c cL_law 27 RL) (hk1 : k1 ≤ 700000) (hn1 : n1 ≤ 5000000) {Ls : Nat} {xs : Nat → Int32} (hLs : Ls ≤ 260) (hX : va_X b Ls xs s s.heap) (hbl : b < s.heap.size) (hbA : ¬ A b) (ht : t < 30) {L : List Nat} {ad ad0 : Nat → Nat} {κ : Kp} {nf ns nr : Nat} (hL : Lm L ad nf ns nr []) (hR : RR nf ns nr κ) (had : ∀ k, k < 92 → ad k = ad0 k) : ∀ (H : Heap) (locs : List Loc) (ls : Array Slot), lv_has ls 27 [(3, .int (nI t)), (0, .ref b), (1, .ref (ad0 0)), (2, .ref (ad0 91))] → Wa A D cA L ad s κ H locs → (∀ (L' : List Nat) (ad' : Nat → Nat) (κ' : Kp) (nf' ns' nr' : Nat) (H : Heap) (locs : List Loc) (ls : Array Slot), Lm L' ad' nf' ns' nr' [] → RR nf' ns' nr' κ' → (∀ k, k < 92 → ad' k = ad0 k) → lv_has ls 27 [(3, .int (nI t)), (0, .ref b), (1, .ref (ad0 0)), (2, .ref (ad0 91))] → Wa A D cA L' ad' s κ' H locs → W p l e room_1 s m args below meth c H locs (k1 + 800) (n1 + 4500) Q (F0 m 1035 ls [])) → W p l e room_1 s m args below meth c H locs (k1) (n1) Q (F0 m 28 ls []) := by
  intro H locs ls hl hw kk
  have hl : lv_has ls 27 [(3, .int (nI t)), (0, .ref b), (1, .ref (ad 0)), (2, .ref (ad 91))] := by rw [had 0 (by decide), had 91 (by decide)]; exact hl
  refine lv_aload_n hM.x hM.b dL_law_28 rfl (lv_at hl 1 rfl) ?_
  refine lv_iload_n hM.x hM.b dL_law_29 rfl (lv_at hl 0 rfl) ?_
  refine lv_bipush (v := nI 16) hM.x hM.b dL_law_30 (by decide) ?_
  refine lv_irem hM.x hM.b dL_law_32 (by decide) ?_
  rw [nI_rem (by omega) (by decide)]
  refine k_ci hw (k_runSX [.ref b, .int (nI (t % 16))] [] hM hw hX hbl hbA (m_L_cell l ((D, L), cA, ad) κ _ (k := t % 16) hLs (Nat.lt_of_lt_of_le hbl hw.2.1.1) (fun z => hbA (fr_lt hw b z)) (by omega)) (k_gS u_ml_L_96 u_st_L_cell u_ini_L u_co_L_cell) q_L_cell rfl rfl rfl ⟨(Nat.le_of_ble_eq_true rfl), (Nat.le_of_ble_eq_true rfl)⟩ hl.1 rfl (Nat.le_of_ble_eq_true rfl) dL_law_33 ⟨by show _ ≤ (817018 : Nat); omega, by show _ ≤ (6650127 : Nat); omega⟩) (fun r κ3 H locs hp hw => ?_)
  have hp : κ3 = κ := hp
  rw [hp] at hw
  refine lv_iload_n hM.x hM.b dL_law_36 rfl (lv_at hl 0 rfl) ?_
  refine lv_bipush (v := nI 16) hM.x hM.b dL_law_37 (by decide) ?_
  refine lv_idiv hM.x hM.b dL_law_39 (by decide) ?_
  refine lv_iconst (v := 3) hM.x hM.b dL_law_40 (by decide) ?_
  refine lv_imul hM.x hM.b dL_law_41 ?_
  refine lv_ishr hM.x hM.b dL_law_42 ?_
  refine lv_sipush (v := 569) hM.x hM.b dL_law_43 (by decide) ?_
  refine lv_iload_n hM.x hM.b dL_law_46 rfl (lv_at hl 0 rfl) ?_
  refine lv_imul hM.x hM.b dL_law_47 ?_
  refine lv_iadd hM.x hM.b dL_law_48 ?_
  generalize (r >>> (nI t / nI 16 * 3 &&& 31) + 569 * nI t : Int32) = x
  refine lv_istore (lv' := [(4, .int x), (3, .int (nI t)), (0, .ref b), (1, .ref (ad 0)), (2, .ref (ad 91))]) hM.x hM.b dL_law_49 hl (by decide) rfl (fun ls hl => ?_)
  refine lv_aload_n hM.x hM.b dL_law_51 rfl (lv_at hl 3 rfl) ?_
  refine lv_aload_n hM.x hM.b dL_law_52 rfl (lv_at hl 4 rfl) ?_
  refine lv_iload hM.x hM.b dL_law_53 (lv_at hl 0 rfl) ?_
  refine k_cw hw (k_runS [.ref (ad 0), .ref (ad 91), .int x] [] hM hw (m_L_act l ((D, L), cA, ad) κ _ x hlst hL hR) (k_gS u_ml_L_100 u_st_L_act u_ini_L u_co_L_act) q_L_act rfl rfl rfl ⟨(Nat.le_of_ble_eq_true rfl), (Nat.le_of_ble_eq_true rfl)⟩ hl.1 rfl (Nat.le_of_ble_eq_true rfl) dL_law_55 ⟨by show _ ≤ (817018 : Nat); omega, by show _ ≤ (6650127 : Nat); omega⟩) (fun r2 L2 ad2 κb H locs hp hw => ?_)
  obtain ⟨rfl, ⟨nf2, ns2, nr2, hL2, hR2⟩, hA2⟩ := hp
  replace hL2 : Lm L2 ad2 nf2 ns2 nr2 [] := hL2
  replace hR2 : RR nf2 ns2 nr2 κb := hR2
  replace hA2 : ∀ k, k < 92 → ad2 k = ad k := hA2
  refine lv_if_ne (tgt := 63) hM.x hM.b dL_law_58 (by decide) (fun _ => ?_) (fun cz => absurd cz (by decide))
  have hb := hR2.b
  have had2 : ∀ k, k < 92 → ad2 k = ad0 k := fun k hk => (hA2 k hk).trans (had k hk)
  have hl : lv_has ls 27 [(3, .int (nI t)), (0, .ref b), (1, .ref (ad2 0)), (2, .ref (ad2 91))] := by rw [hA2 0 (by decide), hA2 91 (by decide)]; exact lv_sub hl [1, 2, 3, 4] rfl
  have hlt2 : ∀ j ∈ L2, j < 136 := fun j hj => by
    rcases (hL2.1 j).mp hj with z | z | z | z | z
    · omega
    · omega
    · omega
    · omega
    · cases z
  have hd2 : ∀ j ∈ L2, ∀ x, dep ad2 j (κb j) x → x < 136 ∨ (1000 ≤ x ∧ x ≠ 1136) := fun j hj x hx => by
    have hj1 := hlt2 j hj
    rcases dep_lm hL2 hj hx with z | z | z | z | z | z
    · omega
    · omega
    · omega
    · omega
    · omega
    · cases z
  refine lv_aload_n hM.x hM.b dL_law_63 rfl (lv_at hl 2 rfl) ?_
  refine k_cip hw (k_runV [] [] hM hw (m_X4_spits l ((D, L2), cA, ad2) κb _) (hw.dm kd_0 (by decide)) (sh4 kd_0) rfl (k_gV u_ml_L_109 u_im_X4_spits u_se_X4_spits u_ini_X4 u_co_X4_spits) (q_X4_spits) rfl rfl rfl ⟨Nat.le_of_ble_eq_true rfl, Nat.le_of_ble_eq_true rfl⟩ hl.1 rfl (Nat.le_of_ble_eq_true rfl) dL_law_64 ⟨(by show _ ≤ (817018 : Nat); omega), (by show _ ≤ (6650127 : Nat); omega)⟩) (fun H locs hw => ?_)
  rw [show f_X4_spits κb = nI ns2 from (congrFun ((fun _ _ => rfl : LoQ κb κb) 1 (by decide)) 4).trans hR2.1.2.1.2.1]
  refine lv_istore (lv' := [(5, .int (nI (ns2))), (3, .int (nI (t))), (0, .ref b), (1, .ref (ad2 (0))), (2, .ref (ad2 (91)))]) hM.x hM.b dL_law_67 hl (by decide) rfl (fun ls hl => ?_)
  refine lv_aload_n hM.x hM.b dL_law_69 rfl (lv_at hl 3 rfl) ?_
  refine k_cip hw (k_runV [] [] hM hw (m_X4_roasts l ((D, L2), cA, ad2) κb _) (hw.dm kd_0 (by decide)) (sh4 kd_0) rfl (k_gV u_ml_L_111 u_im_X4_roasts u_se_X4_roasts u_ini_X4 u_co_X4_roasts) (q_X4_roasts) rfl rfl rfl ⟨Nat.le_of_ble_eq_true rfl, Nat.le_of_ble_eq_true rfl⟩ hl.1 rfl (Nat.le_of_ble_eq_true rfl) dL_law_70 ⟨(by show _ ≤ (817018 : Nat); omega), (by show _ ≤ (6650127 : Nat); omega)⟩) (fun H locs hw => ?_)
  rw [show f_X4_roasts κb = nI nr2 from (congrFun ((fun _ _ => rfl : LoQ κb κb) 1 (by decide)) 5).trans hR2.1.2.1.2.2]
  refine lv_istore (lv' := [(6, .int (nI (nr2))), (5, .int (nI (ns2))), (3, .int (nI (t))), (0, .ref b), (1, .ref (ad2 (0))), (2, .ref (ad2 (91)))]) hM.x hM.b dL_law_73 hl (by decide) rfl (fun ls hl => ?_)
  refine lv_iload hM.x hM.b dL_law_75 (lv_at hl 0 rfl) ?_
  refine lv_iconst (v := nI 4) hM.x hM.b dL_law_77 (by decide) ?_
  refine a_mna hM hw hlt2 hd2 (by omega) mlk113 (by show _ ≤ (817018 : Nat); omega) (by show _ ≤ (6650127 : Nat); omega) dL_law_78 (fun ad3 H a3 b3 c3 hw => ?_)
  have hl : lv_has ls 27 [(6, .int (nI (nr2))), (5, .int (nI (ns2))), (3, .int (nI (t))), (0, .ref b), (1, .ref (ad3 (0))), (2, .ref (ad3 (91)))] := by rw [a3 0 (by decide), a3 91 (by decide)]; exact hl
  obtain ⟨κq1, eκq1⟩ : ∃ z : Kp, κM κb = z := ⟨_, rfl⟩
  rw [eκq1] at hw
  have hSκq1 : LoQ κb κq1 := by rw [← eκq1]; exact LoQ.mna
  have hG := SG.start hL2 b3 c3
  have hL3 := hL2.mna b3 hb.2.2 (ad' := ad3) (n := nr2)
  have g1136 := c3
  have g92 : ∀ k, k < 92 → ad3 k = ad0 k := fun k hk => (a3 k (by omega)).trans (had2 k hk)
  have mrow : ∀ i, i < nr2 → 137 + i ∈ LM L2 nr2 := fun i hi => LM_mem.mpr (Or.inr (Or.inr ⟨by omega, by omega⟩))
  have q136 : 136 ∈ LM L2 nr2 := LM_mem.mpr (Or.inr (Or.inl rfl))
  obtain ⟨L3, eL3⟩ : ∃ z : List Nat, LM L2 nr2 = z := ⟨_, rfl⟩
  rw [eL3] at hw hG hL3 mrow q136
  obtain ⟨T3, eT3⟩ : ∃ z : List Nat, [136] ++ (List.range nr2).map (fun i => 137 + i) = z := ⟨_, rfl⟩
  rw [eT3] at hL3
  refine lv_astore (lv' := [(7, .ref (ad3 (136))), (6, .int (nI (nr2))), (5, .int (nI (ns2))), (3, .int (nI (t))), (0, .ref b), (1, .ref (ad3 (0))), (2, .ref (ad3 (91)))]) hM.x hM.b dL_law_82 hl (by decide) rfl (fun ls hl => ?_)
  refine lv_iload hM.x hM.b dL_law_84 (lv_at hl 1 rfl) ?_
  refine a_newI (N := nr2) (153) hM hw hG.no (by omega) (hG.dp (by decide)) (fun ad9 h r => by rw [sh23 kd_153, show ad9 (1000 + 153) = nr2 from h]) rfl (by omega) (by show _ ≤ (817018 : Nat); omega) (by show _ ≤ (6650127 : Nat); omega) dL_law_86 (fun ad4 H hX4 hw => ?_)
  have hl : lv_has ls 27 [(7, .ref (ad4 (136))), (6, .int (nI (nr2))), (5, .int (nI (ns2))), (3, .int (nI (t))), (0, .ref b), (1, .ref (ad4 (0))), (2, .ref (ad4 (91)))] := by rw [hX4.1 (136) (by omega) (by omega), hX4.1 (0) (by omega) (by omega), hX4.1 (91) (by omega) (by omega)]; exact hl
  obtain ⟨κ1, eκ1⟩ : ∃ z : Kp, va_up κq1 (153) (fun _ => 0) = z := ⟨_, rfl⟩
  rw [eκ1] at hw
  have hSκ1 : LoQ κb κ1 := by rw [← eκ1]; exact LoQ.new hSκq1 (by decide)
  have hG : SG (L3 ++ [153]) ad4 154 := hG.add (by decide) hX4
  have hL3 : Lm (L3 ++ [153]) ad4 nf2 ns2 nr2 (T3 ++ [153]) := hL3.add hX4 (by decide) (by decide)
  obtain ⟨L4, eL4⟩ : ∃ z : List Nat, L3 ++ [153] = z := ⟨_, rfl⟩
  obtain ⟨T4, eT4⟩ : ∃ z : List Nat, T3 ++ [153] = z := ⟨_, rfl⟩
  rw [eL4] at hw hG hL3
  rw [eT4] at hL3
  have mUp : ∀ k, k ∈ L3 → k ∈ L4 := fun k hk => by rw [← eL4]; exact List.mem_append_left _ hk
  have mrow : ∀ i, i < nr2 → 137 + i ∈ L4 := fun i hi => mUp _ (mrow i hi)
  have q136 := mUp _ q136
  have q153 : 153 ∈ L4 := by rw [← eL4]; exact List.mem_append_right _ (List.mem_singleton_self _)
  have g1136 := (hX4.1 1136 (by decide) (by decide)).trans g1136
  have g1153 := hX4.2
  have g92 : ∀ k, k < 92 → ad4 k = ad0 k := fun k hk => (hX4.1 k (by omega) (by omega)).trans (g92 k hk)
  refine lv_astore (lv' := [(8, .ref (ad4 (153))), (7, .ref (ad4 (136))), (6, .int (nI (nr2))), (5, .int (nI (ns2))), (3, .int (nI (t))), (0, .ref b), (1, .ref (ad4 (0))), (2, .ref (ad4 (91)))]) hM.x hM.b dL_law_88 hl (by decide) rfl (fun ls hl => ?_)
  refine lv_iload hM.x hM.b dL_law_90 (lv_at hl 2 rfl) ?_
  refine a_newI (N := nr2) (154) hM hw hG.no (by omega) (hG.dp (by decide)) (fun ad9 h r => by rw [sh23 kd_154, show ad9 (1000 + 154) = nr2 from h]) rfl (by omega) (by show _ ≤ (817018 : Nat); omega) (by show _ ≤ (6650127 : Nat); omega) dL_law_92 (fun ad5 H hX5 hw => ?_)
  have hl : lv_has ls 27 [(8, .ref (ad5 (153))), (7, .ref (ad5 (136))), (6, .int (nI (nr2))), (5, .int (nI (ns2))), (3, .int (nI (t))), (0, .ref b), (1, .ref (ad5 (0))), (2, .ref (ad5 (91)))] := by rw [hX5.1 (153) (by omega) (by omega), hX5.1 (136) (by omega) (by omega), hX5.1 (0) (by omega) (by omega), hX5.1 (91) (by omega) (by omega)]; exact hl
  obtain ⟨κ2, eκ2⟩ : ∃ z : Kp, va_up κ1 (154) (fun _ => 0) = z := ⟨_, rfl⟩
  rw [eκ2] at hw
  have hSκ2 : LoQ κb κ2 := by rw [← eκ2]; exact LoQ.new hSκ1 (by decide)
  have hG : SG (L4 ++ [154]) ad5 155 := hG.add (by decide) hX5
  have hL3 : Lm (L4 ++ [154]) ad5 nf2 ns2 nr2 (T4 ++ [154]) := hL3.add hX5 (by decide) (by decide)
  obtain ⟨L5, eL5⟩ : ∃ z : List Nat, L4 ++ [154] = z := ⟨_, rfl⟩
  obtain ⟨T5, eT5⟩ : ∃ z : List Nat, T4 ++ [154] = z := ⟨_, rfl⟩
  rw [eL5] at hw hG hL3
  rw [eT5] at hL3
  have mUp : ∀ k, k ∈ L4 → k ∈ L5 := fun k hk => by rw [← eL5]; exact List.mem_append_left _ hk
  have mrow : ∀ i, i < nr2 → 137 + i ∈ L5 := fun i hi => mUp _ (mrow i hi)
  have q136 := mUp _ q136
  have q153 := mUp _ q153
  have q154 : 154 ∈ L5 := by rw [← eL5]; exact List.mem_append_right _ (List.mem_singleton_self _)
  have g1136 := (hX5.1 1136 (by decide) (by decide)).trans g1136
  have g1153 := (hX5.1 1153 (by decide) (by decide)).trans g1153
  have g1154 := hX5.2
  have g92 : ∀ k, k < 92 → ad5 k = ad0 k := fun k hk => (hX5.1 k (by omega) (by omega)).trans (g92 k hk)
  refine lv_astore (lv' := [(9, .ref (ad5 (154))), (8, .ref (ad5 (153))), (7, .ref (ad5 (136))), (6, .int (nI (nr2))), (5, .int (nI (ns2))), (3, .int (nI (t))), (0, .ref b), (1, .ref (ad5 (0))), (2, .ref (ad5 (91)))]) hM.x hM.b dL_law_94 hl (by decide) rfl (fun ls hl => ?_)
  refine lv_iload hM.x hM.b dL_law_96 (lv_at hl 3 rfl) ?_
  refine a_newI (N := nr2) (155) hM hw hG.no (by omega) (hG.dp (by decide)) (fun ad9 h r => by rw [sh23 kd_155, show ad9 (1000 + 155) = nr2 from h]) rfl (by omega) (by show _ ≤ (817018 : Nat); omega) (by show _ ≤ (6650127 : Nat); omega) dL_law_98 (fun ad6 H hX6 hw => ?_)
  have hl : lv_has ls 27 [(9, .ref (ad6 (154))), (8, .ref (ad6 (153))), (7, .ref (ad6 (136))), (6, .int (nI (nr2))), (5, .int (nI (ns2))), (3, .int (nI (t))), (0, .ref b), (1, .ref (ad6 (0))), (2, .ref (ad6 (91)))] := by rw [hX6.1 (154) (by omega) (by omega), hX6.1 (153) (by omega) (by omega), hX6.1 (136) (by omega) (by omega), hX6.1 (0) (by omega) (by omega), hX6.1 (91) (by omega) (by omega)]; exact hl
  obtain ⟨κ3, eκ3⟩ : ∃ z : Kp, va_up κ2 (155) (fun _ => 0) = z := ⟨_, rfl⟩
  rw [eκ3] at hw
  have hSκ3 : LoQ κb κ3 := by rw [← eκ3]; exact LoQ.new hSκ2 (by decide)
  have hG : SG (L5 ++ [155]) ad6 156 := hG.add (by decide) hX6
  have hL3 : Lm (L5 ++ [155]) ad6 nf2 ns2 nr2 (T5 ++ [155]) := hL3.add hX6 (by decide) (by decide)
  obtain ⟨L6, eL6⟩ : ∃ z : List Nat, L5 ++ [155] = z := ⟨_, rfl⟩
  obtain ⟨T6, eT6⟩ : ∃ z : List Nat, T5 ++ [155] = z := ⟨_, rfl⟩
  rw [eL6] at hw hG hL3
  rw [eT6] at hL3
  have mUp : ∀ k, k ∈ L5 → k ∈ L6 := fun k hk => by rw [← eL6]; exact List.mem_append_left _ hk
  have mrow : ∀ i, i < nr2 → 137 + i ∈ L6 := fun i hi => mUp _ (mrow i hi)
  have q136 := mUp _ q136
  have q153 := mUp _ q153
  have q154 := mUp _ q154
  have q155 : 155 ∈ L6 := by rw [← eL6]; exact List.mem_append_right _ (List.mem_singleton_self _)
  have g1136 := (hX6.1 1136 (by decide) (by decide)).trans g1136
  have g1153 := (hX6.1 1153 (by decide) (by decide)).trans g1153
  have g1154 := (hX6.1 1154 (by decide) (by decide)).trans g1154
  have g1155 := hX6.2
  have g92 : ∀ k, k < 92 → ad6 k = ad0 k := fun k hk => (hX6.1 k (by omega) (by omega)).trans (g92 k hk)
  refine lv_astore (lv' := [(10, .ref (ad6 (155))), (9, .ref (ad6 (154))), (8, .ref (ad6 (153))), (7, .ref (ad6 (136))), (6, .int (nI (nr2))), (5, .int (nI (ns2))), (3, .int (nI (t))), (0, .ref b), (1, .ref (ad6 (0))), (2, .ref (ad6 (91)))]) hM.x hM.b dL_law_100 hl (by decide) rfl (fun ls hl => ?_)
  refine lv_iload hM.x hM.b dL_law_102 (lv_at hl 4 rfl) ?_
  refine a_newZ (N := nr2) (156) hM hw hG.no (by omega) (hG.dp (by decide)) (fun ad9 h r => by rw [sh24 kd_156, show ad9 (1000 + 156) = nr2 from h]) rfl (by omega) (by show _ ≤ (817018 : Nat); omega) (by show _ ≤ (6650127 : Nat); omega) dL_law_104 (fun ad7 H hX7 hw => ?_)
  have hl : lv_has ls 27 [(10, .ref (ad7 (155))), (9, .ref (ad7 (154))), (8, .ref (ad7 (153))), (7, .ref (ad7 (136))), (6, .int (nI (nr2))), (5, .int (nI (ns2))), (3, .int (nI (t))), (0, .ref b), (1, .ref (ad7 (0))), (2, .ref (ad7 (91)))] := by rw [hX7.1 (155) (by omega) (by omega), hX7.1 (154) (by omega) (by omega), hX7.1 (153) (by omega) (by omega), hX7.1 (136) (by omega) (by omega), hX7.1 (0) (by omega) (by omega), hX7.1 (91) (by omega) (by omega)]; exact hl
  obtain ⟨κ4, eκ4⟩ : ∃ z : Kp, va_up κ3 (156) (fun _ => 0) = z := ⟨_, rfl⟩
  rw [eκ4] at hw
  have hSκ4 : LoQ κb κ4 := by rw [← eκ4]; exact LoQ.new hSκ3 (by decide)
  have hG : SG (L6 ++ [156]) ad7 157 := hG.add (by decide) hX7
  have hL3 : Lm (L6 ++ [156]) ad7 nf2 ns2 nr2 (T6 ++ [156]) := hL3.add hX7 (by decide) (by decide)
  obtain ⟨L7, eL7⟩ : ∃ z : List Nat, L6 ++ [156] = z := ⟨_, rfl⟩
  obtain ⟨T7, eT7⟩ : ∃ z : List Nat, T6 ++ [156] = z := ⟨_, rfl⟩
  rw [eL7] at hw hG hL3
  rw [eT7] at hL3
  have mUp : ∀ k, k ∈ L6 → k ∈ L7 := fun k hk => by rw [← eL7]; exact List.mem_append_left _ hk
  have mrow : ∀ i, i < nr2 → 137 + i ∈ L7 := fun i hi => mUp _ (mrow i hi)
  have q136 := mUp _ q136
  have q153 := mUp _ q153
  have q154 := mUp _ q154
  have q155 := mUp _ q155
  have q156 : 156 ∈ L7 := by rw [← eL7]; exact List.mem_append_right _ (List.mem_singleton_self _)
  have g1136 := (hX7.1 1136 (by decide) (by decide)).trans g1136
  have g1153 := (hX7.1 1153 (by decide) (by decide)).trans g1153
  have g1154 := (hX7.1 1154 (by decide) (by decide)).trans g1154
  have g1155 := (hX7.1 1155 (by decide) (by decide)).trans g1155
  have g1156 := hX7.2
  have g92 : ∀ k, k < 92 → ad7 k = ad0 k := fun k hk => (hX7.1 k (by omega) (by omega)).trans (g92 k hk)
  refine lv_astore (lv' := [(11, .ref (ad7 (156))), (10, .ref (ad7 (155))), (9, .ref (ad7 (154))), (8, .ref (ad7 (153))), (7, .ref (ad7 (136))), (6, .int (nI (nr2))), (5, .int (nI (ns2))), (3, .int (nI (t))), (0, .ref b), (1, .ref (ad7 (0))), (2, .ref (ad7 (91)))]) hM.x hM.b dL_law_106 hl (by decide) rfl (fun ls hl => ?_)
  refine lv_iload hM.x hM.b dL_law_108 (lv_at hl 6 rfl) ?_
  refine a_newI (N := ns2) (157) hM hw hG.no (by omega) (hG.dp (by decide)) (fun ad9 h r => by rw [sh23 kd_157, show ad9 (1000 + 157) = ns2 from h]) rfl (by omega) (by show _ ≤ (817018 : Nat); omega) (by show _ ≤ (6650127 : Nat); omega) dL_law_110 (fun ad8 H hX8 hw => ?_)
  have hl : lv_has ls 27 [(11, .ref (ad8 (156))), (10, .ref (ad8 (155))), (9, .ref (ad8 (154))), (8, .ref (ad8 (153))), (7, .ref (ad8 (136))), (6, .int (nI (nr2))), (5, .int (nI (ns2))), (3, .int (nI (t))), (0, .ref b), (1, .ref (ad8 (0))), (2, .ref (ad8 (91)))] := by rw [hX8.1 (156) (by omega) (by omega), hX8.1 (155) (by omega) (by omega), hX8.1 (154) (by omega) (by omega), hX8.1 (153) (by omega) (by omega), hX8.1 (136) (by omega) (by omega), hX8.1 (0) (by omega) (by omega), hX8.1 (91) (by omega) (by omega)]; exact hl
  obtain ⟨κ5, eκ5⟩ : ∃ z : Kp, va_up κ4 (157) (fun _ => 0) = z := ⟨_, rfl⟩
  rw [eκ5] at hw
  have hSκ5 : LoQ κb κ5 := by rw [← eκ5]; exact LoQ.new hSκ4 (by decide)
  have hG : SG (L7 ++ [157]) ad8 158 := hG.add (by decide) hX8
  have hL3 : Lm (L7 ++ [157]) ad8 nf2 ns2 nr2 (T7 ++ [157]) := hL3.add hX8 (by decide) (by decide)
  obtain ⟨L8, eL8⟩ : ∃ z : List Nat, L7 ++ [157] = z := ⟨_, rfl⟩
  obtain ⟨T8, eT8⟩ : ∃ z : List Nat, T7 ++ [157] = z := ⟨_, rfl⟩
  rw [eL8] at hw hG hL3
  rw [eT8] at hL3
  have mUp : ∀ k, k ∈ L7 → k ∈ L8 := fun k hk => by rw [← eL8]; exact List.mem_append_left _ hk
  have mrow : ∀ i, i < nr2 → 137 + i ∈ L8 := fun i hi => mUp _ (mrow i hi)
  have q136 := mUp _ q136
  have q153 := mUp _ q153
  have q154 := mUp _ q154
  have q155 := mUp _ q155
  have q156 := mUp _ q156
  have q157 : 157 ∈ L8 := by rw [← eL8]; exact List.mem_append_right _ (List.mem_singleton_self _)
  have g1136 := (hX8.1 1136 (by decide) (by decide)).trans g1136
  have g1153 := (hX8.1 1153 (by decide) (by decide)).trans g1153
  have g1154 := (hX8.1 1154 (by decide) (by decide)).trans g1154
  have g1155 := (hX8.1 1155 (by decide) (by decide)).trans g1155
  have g1156 := (hX8.1 1156 (by decide) (by decide)).trans g1156
  have g1157 := hX8.2
  have g92 : ∀ k, k < 92 → ad8 k = ad0 k := fun k hk => (hX8.1 k (by omega) (by omega)).trans (g92 k hk)
  refine lv_astore (lv' := [(12, .ref (ad8 (157))), (11, .ref (ad8 (156))), (10, .ref (ad8 (155))), (9, .ref (ad8 (154))), (8, .ref (ad8 (153))), (7, .ref (ad8 (136))), (6, .int (nI (nr2))), (5, .int (nI (ns2))), (3, .int (nI (t))), (0, .ref b), (1, .ref (ad8 (0))), (2, .ref (ad8 (91)))]) hM.x hM.b dL_law_112 hl (by decide) rfl (fun ls hl => ?_)
  refine lv_iconst (v := 0) hM.x hM.b dL_law_114 (by decide) ?_
  refine lv_istore (lv' := [(13, .int (0)), (12, .ref (ad8 (157))), (11, .ref (ad8 (156))), (10, .ref (ad8 (155))), (9, .ref (ad8 (154))), (8, .ref (ad8 (153))), (7, .ref (ad8 (136))), (6, .int (nI (nr2))), (5, .int (nI (ns2))), (3, .int (nI (t))), (0, .ref b), (1, .ref (ad8 (0))), (2, .ref (ad8 (91)))]) hM.x hM.b dL_law_115 hl (by decide) rfl (fun ls hl => ?_)
  refine lv_aload_n hM.x hM.b dL_law_117 rfl (lv_at hl 11 rfl) ?_
  refine k_fires l hM hw hl.1 ((congrFun (hSκ5 1 (by decide)) 3).trans hR2.1.2.1.1) (by omega) (by omega) dL_law_118 (fun H locs hw => ?_)
  sorry
