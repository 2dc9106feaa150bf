/-- a minute of the law's kitchen -/
def f_X6_pass (nf ns nr : Nat) (κ : Kp) : Int32 × Kp := match lp_X6_pass_106 nr 0 0 (va_up (lp_X6_pass_44 nr 0 (lp_X6_pass_10 ns 0 (va_up κ 160 (fun _ => 0)))) 161 (fun _ => 0)) with
  | (u, κ5) => (u, up2 (lp_X6_pass_312 nf 0 (lp_X6_pass_224 ns 0 κ5)) 91 0 (lp_X6_pass_312 nf 0 (lp_X6_pass_224 ns 0 κ5) 91 0 + 1))
theorem q_X6_pass : hdV yX6_pass RX6 0 := ⟨rfl, by decide +kernel, by decide +kernel, by decide +kernel⟩
theorem SI.new {nf ns nr k : Nat} {κ : Kp} {r : Nat → Int32} (h : SI nf ns nr κ) (hk : 136 ≤ k) (hns : ns ≤ 6) (hnr : nr ≤ 16) : SI nf ns nr (va_up κ k r) :=
  h.of (fun i hi => by rw [va_up_ne κ r (by omega)]; exact ⟨rfl, rfl, rfl⟩) (fun i hi => by rw [va_up_ne κ r (by omega)]; exact ⟨rfl, rfl⟩)
set_option maxRecDepth 100000 in
set_option maxHeartbeats 4000000 in
theorem m_X6_pass (l : Launch) (g : Gt) (κ : Kp) (sz : Nat) {nf ns nr : Nat} {T : List Nat} (hL : Lm g.1.2 g.2.2 nf ns nr T) (hTD : TD T g.2.2) (hSI : SI nf ns nr κ) : Met l yX6_pass (.code yX6_pass cX6_pass 9 (some .int) :: uW) { frames := 2, cells := 2, slots := 9, locals := 60 } (PRE g κ sz [.ref (g.2.2 (91))]) (va_Qi (fun r κ' => f_X6_pass nf ns nr κ = (r, κ')) (Wp g) (fr g sz)) 2 9 (fr g sz) := by
  have hnf := hL.2.2.1.1
  have hns := hL.2.2.1.2.1
  have hnr := hL.2.2.1.2.2
  have hn160 : 160 ∉ g.1.2 := hL.no (by decide) (hTD.no (by decide))
  have hlt : ∀ j ∈ g.1.2, j < 160 := fun j hj => by
    rcases (hL.1 j).mp hj with z | z | z | z | z
    · omega
    · omega
    · omega
    · omega
    · exact (hTD j z).1
  have hd160 := hL.depn hTD (k := 160) (by decide) (by decide) hn160
  have hdd161 := hL.depn hTD (k := 161) (by decide) (by decide) (hL.no (by decide) (hTD.no (by decide)))
  have hn161 : 161 ∉ g.1.2 ++ [160] := by
    rw [List.mem_append, List.mem_singleton]
    rintro (h | h)
    · exact hL.no (by decide) (hTD.no (by decide)) h
    · omega
  refine k_enter (by decide +kernel) (Nat.le_of_ble_eq_true rfl) ?_
  intro p e s m below meth c ls hM hr hl hw hsz
  subst hsz
  have hl : lv_has ls 9 [(0, .ref (g.2.2 (91)))] := hl
  have hd161 : ∀ (ad1 : Nat → Nat), AdX g.2.2 ad1 160 ns → ∀ (κ' : Kp), ∀ j ∈ g.1.2 ++ [160], ∀ x, dep ad1 j (κ' j) x → x ≠ 161 ∧ x ≠ 1000 + 161 := by
    intro ad1 hX κ' j hj x hx
    rcases List.mem_append.mp hj with h | h
    · have hj1 := hlt j h
      refine hdd161 j h (κ' j) x ?_
      unfold dep at hx ⊢
      rw [show ad1 (1000 + j) = g.2.2 (1000 + j) from hX.1 _ (by omega) (by omega)] at hx
      exact hx
    · rw [List.mem_singleton] at h
      subst h
      have := dep_tmp (Or.inl ⟨by decide, by decide⟩) hx
      omega
  refine lv_aload_n hM.x hM.b dX6_pass_0 rfl (lv_at hl 0 rfl) ?_
  refine k_get6r 1 hM hw hL.m91 (by decide) u_fl_X6_19 dX6_pass_1 ?_
  refine k_alenD (n := ns) hM hw (hL.m93) 1 (lsh93 hL) rfl rfl dX6_pass_4 ?_
  refine a_newI (N := ns) (160) hM hw hn160 (by omega) (fun j hj x hx => hd160 j hj _ x hx) (fun ad2 h r => sh160 h) rfl (by omega) (Nat.le_of_ble_eq_true rfl) (by show 0 + ns ≤ 9; omega) dX6_pass_5 (fun ad1 H hX1 hw => ?_)
  have hl : lv_has ls 9 [(0, .ref (ad1 (91)))] := by rw [hX1.1 (91) (by omega) (by omega)]; exact hl
  obtain ⟨κ1, eκ1⟩ : ∃ z : Kp, va_up κ (160) (fun _ => 0) = z := ⟨_, rfl⟩
  rw [eκ1] at hw
  have hSκ1 : SI nf ns nr κ1 := by rw [← eκ1]; exact SI.new hSI (by decide) (by omega) (by omega)
  have hL0 := hL
  have hL := hL.add hX1 (by decide) (by decide)
  have h160 : 160 ∈ g.1.2 ++ [160] ∧ ad1 1160 = ns := ⟨List.mem_append_right _ (List.mem_singleton_self _), hX1.2⟩
  refine W.widen (k := 1) (n := 6) (Nat.le_of_ble_eq_true rfl) (by show 0 + ns ≤ 6; omega) ?_
  refine lv_astore_n (lv' := [(1, .ref (ad1 (160))), (0, .ref (ad1 (91)))]) hM.x hM.b dX6_pass_7 rfl hl (by decide) rfl (fun ls hl => ?_)
  refine lv_iconst (v := nI 0) hM.x hM.b dX6_pass_8 (by decide) ?_
  refine lv_istore_n (lv' := [(2, .int (nI (0))), (1, .ref (ad1 (160))), (0, .ref (ad1 (91)))]) hM.x hM.b dX6_pass_9 rfl hl (by decide) rfl (fun ls hl => ?_)
  refine ml_X6_pass_10 l hnf hns hnr hL h160 hM (ns) 0 (by omega) (κ1) hSκ1 _ _ _ (lv_sub hl [0, 1, 2] rfl) hw (fun κ2 H locs ls heκ2 hl hSκ2 hw => ?_)
  refine lv_aload_n hM.x hM.b dX6_pass_33 rfl (lv_at hl 1 rfl) ?_
  refine k_get6r 2 hM hw hL.m91 (by decide) u_fl_X6_24 dX6_pass_34 ?_
  refine lv_astore_n (lv' := [(2, .ref (ad1 (94))), (1, .ref (ad1 (160))), (0, .ref (ad1 (91)))]) hM.x hM.b dX6_pass_37 rfl hl (by decide) rfl (fun ls hl => ?_)
  refine lv_aload_n hM.x hM.b dX6_pass_38 rfl (lv_at hl 0 rfl) ?_
  refine k_alenD (n := nr) hM hw (hL.m94) 5 (lsh94 hL) rfl rfl dX6_pass_39 ?_
  refine lv_istore_n (lv' := [(3, .int (nI (nr))), (2, .ref (ad1 (94))), (1, .ref (ad1 (160))), (0, .ref (ad1 (91)))]) hM.x hM.b dX6_pass_40 rfl hl (by decide) rfl (fun ls hl => ?_)
  refine lv_iconst (v := nI 0) hM.x hM.b dX6_pass_41 (by decide) ?_
  refine lv_istore (lv' := [(4, .int (nI (0))), (3, .int (nI (nr))), (2, .ref (ad1 (94))), (1, .ref (ad1 (160))), (0, .ref (ad1 (91)))]) hM.x hM.b dX6_pass_42 hl (by decide) rfl (fun ls hl => ?_)
  refine ml_X6_pass_44 l hnf hns hnr hL h160 hM (nr) 0 (by omega) (κ2) hSκ2 _ _ _ (lv_sub hl [0, 1, 2, 3, 4] rfl) hw (fun κ3 H locs ls heκ3 hl hSκ3 hw => ?_)
  refine lv_aload_n hM.x hM.b dX6_pass_82 rfl (lv_at hl 0 rfl) ?_
  refine k_get6r 0 hM hw hL.m91 (by decide) u_fl_X6_15 dX6_pass_83 ?_
  refine k_alenD (n := nf) hM hw (hL.m92) 1 (lsh92 hL) rfl rfl dX6_pass_86 ?_
  refine a_newI (N := nf) (161) hM hw hn161 (by omega) (hd161 ad1 hX1 _) (fun ad2 h r => sh161 h) rfl (by omega) (Nat.le_of_ble_eq_true rfl) (by show 6 + nf ≤ 9; omega) dX6_pass_87 (fun ad2 H hX2 hw => ?_)
  have hl : lv_has ls 9 [(0, .ref (ad2 (91)))] := by rw [hX2.1 (91) (by omega) (by omega)]; exact hl
  obtain ⟨κ4, eκ4⟩ : ∃ z : Kp, va_up κ3 (161) (fun _ => 0) = z := ⟨_, rfl⟩
  rw [eκ4] at hw
  have hSκ4 : SI nf ns nr κ4 := by rw [← eκ4]; exact SI.new hSκ3 (by decide) (by omega) (by omega)
  have hL := hL.add hX2 (by decide) (by decide)
  have h161 : 161 ∈ (g.1.2 ++ [160]) ++ [161] ∧ ad2 1161 = nf := ⟨List.mem_append_right _ (List.mem_singleton_self _), hX2.2⟩
  refine W.widen (k := 2) (n := 9) (Nat.le_of_ble_eq_true rfl) (by show 6 + nf ≤ 9; omega) ?_
  refine lv_astore_n (lv' := [(2, .ref (ad2 (161))), (0, .ref (ad2 (91)))]) hM.x hM.b dX6_pass_89 rfl hl (by decide) rfl (fun ls hl => ?_)
  refine lv_iconst (v := 0) hM.x hM.b dX6_pass_90 (by decide) ?_
  refine lv_istore_n (lv' := [(3, .int (0)), (2, .ref (ad2 (161))), (0, .ref (ad2 (91)))]) hM.x hM.b dX6_pass_91 rfl hl (by decide) rfl (fun ls hl => ?_)
  refine lv_aload_n hM.x hM.b dX6_pass_92 rfl (lv_at hl 2 rfl) ?_
  refine k_get6r 2 hM hw hL.m91 (by decide) u_fl_X6_24 dX6_pass_93 ?_
  refine lv_astore (lv' := [(4, .ref (ad2 (94))), (3, .int (0)), (2, .ref (ad2 (161))), (0, .ref (ad2 (91)))]) hM.x hM.b dX6_pass_96 hl (by decide) rfl (fun ls hl => ?_)
  refine lv_aload hM.x hM.b dX6_pass_98 (lv_at hl 0 rfl) ?_
  refine k_alenD (n := nr) hM hw (hL.m94) 5 (lsh94 hL) rfl rfl dX6_pass_100 ?_
  refine lv_istore (lv' := [(5, .int (nI (nr))), (4, .ref (ad2 (94))), (3, .int (0)), (2, .ref (ad2 (161))), (0, .ref (ad2 (91)))]) hM.x hM.b dX6_pass_101 hl (by decide) rfl (fun ls hl => ?_)
  refine lv_iconst (v := nI 0) hM.x hM.b dX6_pass_103 (by decide) ?_
  refine lv_istore (lv' := [(6, .int (nI (0))), (5, .int (nI (nr))), (4, .ref (ad2 (94))), (3, .int (0)), (2, .ref (ad2 (161))), (0, .ref (ad2 (91)))]) hM.x hM.b dX6_pass_104 hl (by decide) rfl (fun ls hl => ?_)
  refine ml_X6_pass_106 l hnf hns hnr hL h161 hM (nr) 0 (by omega) (0) (κ4) hSκ4 _ _ _ (lv_sub hl [0, 1, 2, 3, 4, 5] rfl) hw (fun u31 κ5 H locs ls heκ5 hl hSκ5 hw => ?_)
  refine lv_aload_n hM.x hM.b dX6_pass_210 rfl (lv_at hl 2 rfl) ?_
  refine k_get6r 1 hM hw hL.m91 (by decide) u_fl_X6_19 dX6_pass_211 ?_
  refine lv_astore (lv' := [(4, .ref (ad2 (93))), (3, .int (u31)), (2, .ref (ad2 (161))), (0, .ref (ad2 (91)))]) hM.x hM.b dX6_pass_214 hl (by decide) rfl (fun ls hl => ?_)
  refine lv_aload hM.x hM.b dX6_pass_216 (lv_at hl 0 rfl) ?_
  refine k_alenD (n := ns) hM hw (hL.m93) 1 (lsh93 hL) rfl rfl dX6_pass_218 ?_
  refine lv_istore (lv' := [(5, .int (nI (ns))), (4, .ref (ad2 (93))), (3, .int (u31)), (2, .ref (ad2 (161))), (0, .ref (ad2 (91)))]) hM.x hM.b dX6_pass_219 hl (by decide) rfl (fun ls hl => ?_)
  refine lv_iconst (v := nI 0) hM.x hM.b dX6_pass_221 (by decide) ?_
  refine lv_istore (lv' := [(6, .int (nI (0))), (5, .int (nI (ns))), (4, .ref (ad2 (93))), (3, .int (u31)), (2, .ref (ad2 (161))), (0, .ref (ad2 (91)))]) hM.x hM.b dX6_pass_222 hl (by decide) rfl (fun ls hl => ?_)
  refine ml_X6_pass_224 l hnf hns hnr hL h161 (u31) hM (ns) 0 (by omega) (κ5) hSκ5 _ _ _ (lv_sub hl [0, 1, 2, 3, 4, 5] rfl) hw (fun κ6 H locs ls heκ6 hl hSκ6 hw => ?_)
  refine lv_iconst (v := nI 0) hM.x hM.b dX6_pass_309 (by decide) ?_
  refine lv_istore (lv' := [(4, .int (nI (0))), (3, .int (u31)), (2, .ref (ad2 (161))), (0, .ref (ad2 (91)))]) hM.x hM.b dX6_pass_310 hl (by decide) rfl (fun ls hl => ?_)
  refine ml_X6_pass_312 l hnf hns hnr hL h161 (u31) hM (nf) 0 (by omega) (κ6) hSκ6 _ _ _ (lv_sub hl [0, 1, 2, 3] rfl) hw (fun κ7 H locs ls heκ7 hl hSκ7 hw => ?_)
  refine lv_aload_n hM.x hM.b dX6_pass_428 rfl (lv_at hl 1 rfl) ?_
  refine lv_dup hM.x hM.b dX6_pass_429 rfl ?_
  refine k_get6 0 hM hw hL.m91 (by decide) u_fl_X6_39 dX6_pass_430 ?_
  refine lv_iconst (v := 1) hM.x hM.b dX6_pass_433 (by decide) ?_
  refine lv_iadd hM.x hM.b dX6_pass_434 ?_
  refine k_put6 0 hM hw hL.m91 (by decide) u_fl_X6_39 dX6_pass_435 (fun H locs hw => ?_)
  obtain ⟨κ8, eκ8⟩ : ∃ z : Kp, up2 κ7 (91) 0 (((κ7 (91) 0) + (1))) = z := ⟨_, rfl⟩
  rw [eκ8] at hw
  have hSκ8 : SI nf ns nr κ8 := by rw [← eκ8]; exact (SI.up hSκ7 (by omega) (by omega) (by omega))
  refine lv_iload_n hM.x hM.b dX6_pass_438 rfl (lv_at hl 0 rfl) ?_
  refine a_iret (u := κ8) hM hr hw.2.1 (Nat.le_refl _) (Nat.le_refl _) ?_ (fun t ht => ?_) dX6_pass_439
  · show f_X6_pass nf ns nr κ = (u31, κ8)
    unfold f_X6_pass
    rw [eκ1, heκ2, heκ3, eκ4, heκ5]
    dsimp only
    rw [heκ6, heκ7, eκ8]
  · show va_P _ _ _ t.heap
    rw [ht]
    refine hw.back (fun j hj => List.mem_append_left _ (List.mem_append_left _ hj)) (fun j hj => ?_)
    have j2 : j < 160 := hlt j hj
    refine ⟨(hX2.1 j (by omega) (by omega)).trans (hX1.1 j (by omega) (by omega)), ?_⟩
    refine sh_congr (fun x hx => ?_)
    have h0 := hd160 j hj _ x hx
    have h1 := hdd161 j hj _ x hx
    exact (hX2.1 x h1.1 h1.2).trans (hX1.1 x h0.1 h0.2)
