section LAW2
variable {nf ns nr : Nat} {b a a1 : Kp} {v : Int32} {r : Nat}
theorem fat_c0 (hI : Iv nf ns nr b) (hC : CM b v a1) (hA : ∀ q, q < 46 → a q = a1 q) (hr : r < nr) (h : gotP b r ≤ 1 ∨ b (14 + 2 * r) 4 ≤ 0) : a (14 + 2 * r) 4 = b (14 + 2 * r) 4 - 0 := by
  have h16 : r < 16 := by have := hI.1; omega
  rw [hA _ (by omega), min_fat hI hC hr, if_neg (fun z => h.elim z.1 z.2), Int32.sub_zero]
theorem fat_c1 (hI : Iv nf ns nr b) (hC : CM b v a1) (hA : ∀ q, q < 46 → a q = a1 q) (hr : r < nr) (h1 : ¬ gotP b r ≤ 1) (h2 : ¬ b (14 + 2 * r) 4 ≤ 0) : a (14 + 2 * r) 4 = b (14 + 2 * r) 4 - 1 := by
  have h16 : r < 16 := by have := hI.1; omega
  rw [hA _ (by omega), min_fat hI hC hr, if_pos ⟨h1, h2⟩]
theorem wet_c0 (hI : Iv nf ns nr b) (hC : CM b v a1) (hA : ∀ q, q < 46 → a q = a1 q) (hr : r < nr) (h : b (14 + 2 * r) 2 < 0 ∨ b (14 + 2 * r) 5 ≤ 0) : a (14 + 2 * r) 5 = b (14 + 2 * r) 5 := by
  have h16 : r < 16 := by have := hI.1; omega
  rw [hA _ (by omega), min_wet hC h16]
  by_cases c : b (14 + 2 * r) 2 < 0
  · rw [if_pos c]
  · rw [if_neg c, if_pos (h.resolve_left c)]
theorem wet_c1 (hI : Iv nf ns nr b) (hC : CM b v a1) (hA : ∀ q, q < 46 → a q = a1 q) (hr : r < nr) (h1 : ¬ b (14 + 2 * r) 2 < 0) (h2 : ¬ b (14 + 2 * r) 5 ≤ 0) : a (14 + 2 * r) 5 = b (14 + 2 * r) 5 - 1 := by
  have h16 : r < 16 := by have := hI.1; omega
  rw [hA _ (by omega), min_wet hC h16, if_neg h1, if_neg h2]
theorem side_c (hI : Iv nf ns nr b) (hC : CM b v a1) (hA : ∀ q, q < 46 → a q = a1 q) (hr : r < nr) : (b (14 + 2 * r) 2 < 0 → a (14 + 2 * r) 3 = b (14 + 2 * r) 3) ∧ (a (14 + 2 * r) 3 = b (14 + 2 * r) 3 ∨ a (14 + 2 * r) 3 = (b (14 + 2 * r) 3 + 1) - (b (14 + 2 * r) 3 + 1) / 4 * 4) := by
  have h16 : r < 16 := by have := hI.1; omega
  rw [hA _ (by omega)]
  exact min_side hI hC hr
theorem burnt_c (hI : Iv nf ns nr b) (hC : CM b v a1) (hA : ∀ q, q < 46 → a q = a1 q) (hr : r < nr) (h : f_X2_burnt b (14 + 2 * r) = true) : f_X2_burnt a (14 + 2 * r) = true := by
  have h16 : r < 16 := by have := hI.1; omega
  have h1 := min_burnt hI hC hr h
  rw [burnt_iff] at h1 ⊢
  rw [hA _ (by omega), hA _ (by omega)]
  exact h1
theorem spit_c (hI : Iv nf ns nr b) (hC : CM b v a1) (hA : ∀ q, q < 46 → a q = a1 q) (hr : r < nr) : a (14 + 2 * r) 2 = b (14 + 2 * r) 2 := by
  have h16 : r < 16 := by have := hI.1; omega
  rw [hA _ (by omega), min_spit hC h16]
theorem brown_c (hI : Iv nf ns nr b) (hC : CM b v a1) (hA : ∀ q, q < 46 → a q = a1 q) (hr : r < nr) {s w : Nat} (hs : b (14 + 2 * r) 3 = nI s) (hs4 : s < 4) (hw : w < 4) : a (15 + 2 * r) ((s + w) % 4) = if b (15 + 2 * r) ((s + w) % 4) + moreP (gotP b r) w < 99 then b (15 + 2 * r) ((s + w) % 4) + moreP (gotP b r) w else 99 := by
  have h16 : r < 16 := by have := hI.1; omega
  rw [hA _ (by omega)]
  exact min_brown hI hC hr hs hs4 hw
theorem fatP_c (hA : ∀ q, q < 46 → a q = a1 q) : ∀ n, n ≤ 16 → fatP a n = fatP a1 n := by
  intro n
  induction n with
  | zero => intro _; rfl
  | succ n ih => intro hn; rw [fatP, fatP, ih (by omega), hA _ (by omega)]
theorem dripP_c (hA : ∀ q, q < 46 → a q = a1 q) : ∀ n, n ≤ 6 → dripP a n = dripP a1 n := by
  intro n
  induction n with
  | zero => intro _; rfl
  | succ n ih => intro hn; rw [dripP, dripP, ih (by omega), hA _ (by omega)]
theorem sums_c (hI : Iv nf ns nr b) (hC : CM b v a1) (hA : ∀ q, q < 46 → a q = a1 q) : fatP b nr - fatP a nr = dripP a ns - dripP b ns + v := by
  have hb := hI.1
  rw [fatP_c hA nr (by omega), dripP_c hA ns (by omega)]
  exact min_sums hI hC
theorem logs_c {f : Nat} (hI : Iv nf ns nr b) (hC : CM b v a1) (hA : ∀ q, q < 46 → a q = a1 q) (hf : f < nf) : a (5 + f) 0 = nL (b (5 + f) 0) (b 1 6) := by
  have hb := hI.1
  obtain ⟨c, u, -, -, -, e, -⟩ := min_fire hI hC hf
  rw [hA _ (by omega)]; exact e
theorem heat_c {f : Nat} (hI : Iv nf ns nr b) (hC : CM b v a1) (hA : ∀ q, q < 46 → a q = a1 q) (hf : f < nf) : mx (b (5 + f) 1 + (if b (5 + f) 0 ≤ 0 then -1 else 1)) ≤ a (5 + f) 1 ∧ (v = 0 → a (5 + f) 1 = mx (b (5 + f) 1 + (if b (5 + f) 0 ≤ 0 then -1 else 1))) ∧ a (5 + f) 1 ≤ (if b (5 + f) 1 + 1 + v < 9 then b (5 + f) 1 + 1 + v else 9) := by
  have hb := hI.1
  rw [hA _ (by omega)]; exact min_heat hI hC hf
end LAW2
set_option maxRecDepth 100000 in
set_option maxHeartbeats 4000000 in
theorem law_C {p : Program} {e : Env} {s : State} {m : MethodId} {args : Array Value} {below : List Frame} {meth : Method} {c : Code} {Q : State → Prop} {A : Nat → Prop} {D : va_G} {cA : Nat → ClassId} {L : List Nat} {ad : Nat → Nat} {nf ns nr : Nat} {b t k1 n1 : Nat} (l : Launch) (hlst : l.stackTraces = false) (hM : Ma A D cA p s m args meth c cL_law 27 RL) (hT : TW L ad nf ns nr) (hk1 : k1 ≤ 801000) (hn1 : n1 ≤ 6010000) {β a a1 θ : Kp} {v : Int32} (hI : Iv nf ns nr β) (hC : CM β v a1) (hA : ∀ q, q < 46 → a q = a1 q) (hR : RR nf ns nr a) (hq : LoQ a θ) (hF : TF β θ nf) (hS : TS β θ ns) (hTr : TR β θ nr) {j : Nat} (hjN : j < nr) : ∀ (n w : Nat), w + n = 4 → ∀ (H : Heap) (locs : List Loc) (ls : Array Slot), lv_has ls 27 [(24, .int (nI (w))), (23, .int (gotP β j)), (22, .int (β (14 + 2 * j) 2)), (21, .int (nI (j))), (19, .int (fatP a (j + 1))), (20, .int (0)), (13, .int (dripP β ns)), (16, .int (fatP β nr)), (17, .int (β 1 6)), (18, .int (v)), (0, .ref b), (1, .ref (ad (0))), (2, .ref (ad (91))), (3, .int (nI (t))), (5, .int (nI (ns))), (6, .int (nI (nr))), (7, .ref (ad (136))), (8, .ref (ad (153))), (9, .ref (ad (154))), (10, .ref (ad (155))), (11, .ref (ad (156))), (12, .ref (ad (157))), (14, .ref (ad (158))), (15, .ref (ad (159)))] → Wa A D cA L ad s θ H locs → (∀ (H : Heap) (locs : List Loc) (ls : Array Slot), lv_has ls 27 [(23, .int (gotP β j)), (22, .int (β (14 + 2 * j) 2)), (21, .int (nI (j))), (19, .int (fatP a (j + 1))), (20, .int (0)), (13, .int (dripP β ns)), (16, .int (fatP β nr)), (17, .int (β 1 6)), (18, .int (v)), (0, .ref b), (1, .ref (ad (0))), (2, .ref (ad (91))), (3, .int (nI (t))), (5, .int (nI (ns))), (6, .int (nI (nr))), (7, .ref (ad (136))), (8, .ref (ad (153))), (9, .ref (ad (154))), (10, .ref (ad (155))), (11, .ref (ad (156))), (12, .ref (ad (157))), (14, .ref (ad (158))), (15, .ref (ad (159)))] → Wa A D cA L ad s θ H locs → W p l e room_1 s m args below meth c H locs (k1 + 8) (n1 + 48) Q (F0 m 701 ls [])) → W p l e room_1 s m args below meth c H locs (k1 + 2 * w) (n1 + 12 * w) Q (F0 m 622 ls []) := by
  have hb := hR.b
  obtain ⟨sn, hsn, es⟩ := vp_in_of (side_in hI hjN) (by decide)
  have et : θ 154 j = nI sn := (hTr j hjN).2.1.trans es
  intro n
  induction n with
  | zero =>
    intro w hw4 H locs ls hl hw kk
    obtain rfl : w = 4 := by omega
    refine lv_iload hM.x hM.b dL_law_622 (lv_at hl 0 rfl) ?_
    refine lv_iconst (v := nI 4) hM.x hM.b dL_law_624 (by decide) ?_
    refine lv_icmp_ge (tgt := 701) hM.x hM.b dL_law_625 (by decide) (fun _ => ?_) (fun cz => absurd (by decide) cz)
    exact W.widen (by omega) (by omega) (kk H locs ls (lv_sub hl [1, 2, 3, 4, 5, 6, 7, 8, 9, 10, 11, 12, 13, 14, 15, 16, 17, 18, 19, 20, 21, 22, 23] rfl) hw)
  | succ n ih =>
    intro w hw4 H locs ls hl hw kk
    have hw5 : w < 4 := by omega
    refine lv_iload hM.x hM.b dL_law_622 (lv_at hl 0 rfl) ?_
    refine lv_iconst (v := nI 4) hM.x hM.b dL_law_624 (by decide) ?_
    refine lv_icmp_ge (tgt := 701) hM.x hM.b dL_law_625 (by decide) (fun cz => absurd cz (nI_ge (by omega) (by omega))) (fun _ => ?_)
    refine lv_aload hM.x hM.b dL_law_628 (lv_at hl 18 rfl) ?_
    refine lv_iload hM.x hM.b dL_law_630 (lv_at hl 3 rfl) ?_
    refine k_ialdN (i := j) (n := nr) hM hw (hT.m 154 (by decide) (by decide)) ((hT.s154)) hjN (by omega) dL_law_632 ?_
    refine lv_iload hM.x hM.b dL_law_633 (lv_at hl 0 rfl) ?_
    refine lv_iadd hM.x hM.b dL_law_635 ?_
    refine lv_iconst (v := nI 4) hM.x hM.b dL_law_636 (by decide) ?_
    refine lv_irem hM.x hM.b dL_law_637 (by decide) ?_
    rw [show ((((θ (154) (j)) + (nI (w)))) - (((θ (154) (j)) + (nI (w)))) / (nI (4)) * (nI (4))) = nI ((sn + w) % 4) from by rw [et, nI_add]; exact nI_rem (by omega) (by decide)]
    refine lv_istore (lv' := [(25, .int (nI ((sn + w) % 4))), (24, .int (nI (w))), (23, .int (gotP β j)), (22, .int (β (14 + 2 * j) 2)), (21, .int (nI (j))), (19, .int (fatP a (j + 1))), (20, .int (0)), (13, .int (dripP β ns)), (16, .int (fatP β nr)), (17, .int (β 1 6)), (18, .int (v)), (0, .ref b), (1, .ref (ad (0))), (2, .ref (ad (91))), (3, .int (nI (t))), (5, .int (nI (ns))), (6, .int (nI (nr))), (7, .ref (ad (136))), (8, .ref (ad (153))), (9, .ref (ad (154))), (10, .ref (ad (155))), (11, .ref (ad (156))), (12, .ref (ad (157))), (14, .ref (ad (158))), (15, .ref (ad (159)))]) hM.x hM.b dL_law_638 hl (by decide) rfl (fun ls hl => ?_)
    refine lv_iload hM.x hM.b dL_law_640 (lv_at hl 1 rfl) ?_
    refine lv_if_ne (tgt := 650) hM.x hM.b dL_law_642 (by decide) (fun c1 => ?_) (fun c1 => ?_)
    · skip
      refine lv_iload hM.x hM.b dL_law_650 (lv_at hl 1 rfl) ?_
      refine lv_iconst (v := 2) hM.x hM.b dL_law_652 (by decide) ?_
      refine lv_icmp_ne (tgt := 660) hM.x hM.b dL_law_653 (by decide) (fun c2 => ?_) (fun c2 => ?_)
      · skip
        refine lv_iload hM.x hM.b dL_law_660 (lv_at hl 2 rfl) ?_
        refine lv_iconst (v := 3) hM.x hM.b dL_law_662 (by decide) ?_
        refine lv_idiv hM.x hM.b dL_law_663 (by decide) ?_
        have hmm : (((gotP β j) / (3)) : Int32) = moreP (gotP β j) w := by unfold moreP; rw [if_neg (fun z => c1 (congrArg nI z)), if_neg (fun z => c2 (congrArg nI z))]
        refine W.eq (g2 := F0 m 664 ls [.int (moreP (gotP β j) w)]) (by rw [← hmm]) ?_
        refine lv_istore (lv' := [(26, .int (moreP (gotP β j) w)), (25, .int (nI ((sn + w) % 4))), (24, .int (nI (w))), (23, .int (gotP β j)), (22, .int (β (14 + 2 * j) 2)), (21, .int (nI (j))), (19, .int (fatP a (j + 1))), (20, .int (0)), (13, .int (dripP β ns)), (16, .int (fatP β nr)), (17, .int (β 1 6)), (18, .int (v)), (0, .ref b), (1, .ref (ad (0))), (2, .ref (ad (91))), (3, .int (nI (t))), (5, .int (nI (ns))), (6, .int (nI (nr))), (7, .ref (ad (136))), (8, .ref (ad (153))), (9, .ref (ad (154))), (10, .ref (ad (155))), (11, .ref (ad (156))), (12, .ref (ad (157))), (14, .ref (ad (158))), (15, .ref (ad (159)))]) hM.x hM.b dL_law_664 hl (by decide) rfl (fun ls hl => ?_)
        refine lv_aload_n hM.x hM.b dL_law_666 rfl (lv_at hl 13 rfl) ?_
        refine lv_iload hM.x hM.b dL_law_667 (lv_at hl 5 rfl) ?_
        refine lv_iload hM.x hM.b dL_law_669 (lv_at hl 1 rfl) ?_
        refine k_xiK ((rd_roast hR hq hjN).2.2.2.2.2.1 ((sn + w) % 4) (Nat.mod_lt _ (by decide))) hw (k_runXV [.int (nI (j)), .int (nI ((sn + w) % 4))] [] hM hw (m_X4_brownOf l ((D, L), cA, ad) θ _ (nI (j)) (nI ((sn + w) % 4)) hlst) (hw.dm kd_0 (by decide)) (sh4 kd_0) rfl (k_gV u_ml_L_140 u_im_X4_brownOf u_se_X4_brownOf u_ini_X4 u_co_X4_brownOf) (q_X4_brownOf) rfl rfl rfl ⟨(Nat.le_of_ble_eq_true rfl), (Nat.le_of_ble_eq_true rfl)⟩ hl.1 rfl (Nat.le_of_ble_eq_true rfl) dL_law_671 ⟨(by show _ ≤ (817018 : Nat); omega), (by show _ ≤ (6650127 : Nat); omega)⟩) (fun H locs hw => ?_)
        refine lv_bipush (v := 99) hM.x hM.b dL_law_674 (by decide) ?_
        refine lv_aload hM.x hM.b dL_law_676 (lv_at hl 18 rfl) ?_
        refine lv_iload hM.x hM.b dL_law_678 (lv_at hl 5 rfl) ?_
        refine k_aldaN (i := j) (n := nr) (t := 1) (x := ad (137 + j)) hM hw hT.1.1 hT.s136 rfl hjN (by omega) (if_pos hjN) dL_law_680 ?_
        refine lv_iload hM.x hM.b dL_law_681 (lv_at hl 1 rfl) ?_
        refine k_ialdN (i := (sn + w) % 4) (n := 4) hM hw (hT.1.2 j hjN) ((sh27 (kdB j (by omega)))) (Nat.mod_lt _ (by decide)) (by decide) dL_law_683 ?_
        refine lv_iload hM.x hM.b dL_law_684 (lv_at hl 0 rfl) ?_
        refine lv_iadd hM.x hM.b dL_law_686 ?_
        refine va_mmin hM.x hM.b (hM.ml.trans hl.1.symm) hM.ow (hM.ts _ u_ml_L_37) (hM.ts _ u_st_JM_min) (hM.ts _ u_ini_JM) (hM.ts _ u_co_JM_min) (Nat.le_of_ble_eq_true rfl) (Nat.le_of_ble_eq_true rfl) (by show _ ≤ (817018 : Nat); omega) (by show _ ≤ (6650127 : Nat); omega) dL_law_687 ?_
        refine lv_icmp_eq (tgt := 695) hM.x hM.b dL_law_690 (by decide) (fun _ => ?_) (fun cz => absurd (by rw [(hTr j hjN).2.2.2.2 _ (Nat.mod_lt _ (by decide))]; exact brown_c hI hC hA hjN es hsn hw5) cz)
        refine lv_iinc (v := nI (w + 1)) (lv' := [(24, .int (nI (w + 1))), (26, .int (moreP (gotP β j) w)), (25, .int (nI ((sn + w) % 4))), (23, .int (gotP β j)), (22, .int (β (14 + 2 * j) 2)), (21, .int (nI (j))), (19, .int (fatP a (j + 1))), (20, .int (0)), (13, .int (dripP β ns)), (16, .int (fatP β nr)), (17, .int (β 1 6)), (18, .int (v)), (0, .ref b), (1, .ref (ad (0))), (2, .ref (ad (91))), (3, .int (nI (t))), (5, .int (nI (ns))), (6, .int (nI (nr))), (7, .ref (ad (136))), (8, .ref (ad (153))), (9, .ref (ad (154))), (10, .ref (ad (155))), (11, .ref (ad (156))), (12, .ref (ad (157))), (14, .ref (ad (158))), (15, .ref (ad (159)))]) hM.x hM.b dL_law_695 hl (k := 2) rfl (nI_1 (w)) (by decide) rfl (fun ls hl => ?_)
        refine lv_goto (tgt := 622) hM.x hM.b dL_law_698 (by decide) ?_
        refine W.widen (k := k1 + 2 * (w + 1)) (n := n1 + 12 * (w + 1)) (by omega) (by omega) ?_
        exact ih (w + 1) (by omega) H locs ls (lv_sub hl [0, 3, 4, 5, 6, 7, 8, 9, 10, 11, 12, 13, 14, 15, 16, 17, 18, 19, 20, 21, 22, 23, 24, 25] rfl) hw kk
      · skip
        refine lv_iconst (v := 0) hM.x hM.b dL_law_656 (by decide) ?_
        refine lv_goto (tgt := 664) hM.x hM.b dL_law_657 (by decide) ?_
        have hmm : (0 : Int32) = moreP (gotP β j) w := by unfold moreP; rw [if_neg (fun z => c1 (congrArg nI z)), if_pos ((nIeq (a := w) (b := 2) (by omega) (by decide)).mp c2)]
        refine W.eq (g2 := F0 m 664 ls [.int (moreP (gotP β j) w)]) (by rw [← hmm]) ?_
        refine lv_istore (lv' := [(26, .int (moreP (gotP β j) w)), (25, .int (nI ((sn + w) % 4))), (24, .int (nI (w))), (23, .int (gotP β j)), (22, .int (β (14 + 2 * j) 2)), (21, .int (nI (j))), (19, .int (fatP a (j + 1))), (20, .int (0)), (13, .int (dripP β ns)), (16, .int (fatP β nr)), (17, .int (β 1 6)), (18, .int (v)), (0, .ref b), (1, .ref (ad (0))), (2, .ref (ad (91))), (3, .int (nI (t))), (5, .int (nI (ns))), (6, .int (nI (nr))), (7, .ref (ad (136))), (8, .ref (ad (153))), (9, .ref (ad (154))), (10, .ref (ad (155))), (11, .ref (ad (156))), (12, .ref (ad (157))), (14, .ref (ad (158))), (15, .ref (ad (159)))]) hM.x hM.b dL_law_664 hl (by decide) rfl (fun ls hl => ?_)
        refine lv_aload_n hM.x hM.b dL_law_666 rfl (lv_at hl 13 rfl) ?_
        refine lv_iload hM.x hM.b dL_law_667 (lv_at hl 5 rfl) ?_
        refine lv_iload hM.x hM.b dL_law_669 (lv_at hl 1 rfl) ?_
        refine k_xiK ((rd_roast hR hq hjN).2.2.2.2.2.1 ((sn + w) % 4) (Nat.mod_lt _ (by decide))) hw (k_runXV [.int (nI (j)), .int (nI ((sn + w) % 4))] [] hM hw (m_X4_brownOf l ((D, L), cA, ad) θ _ (nI (j)) (nI ((sn + w) % 4)) hlst) (hw.dm kd_0 (by decide)) (sh4 kd_0) rfl (k_gV u_ml_L_140 u_im_X4_brownOf u_se_X4_brownOf u_ini_X4 u_co_X4_brownOf) (q_X4_brownOf) rfl rfl rfl ⟨(Nat.le_of_ble_eq_true rfl), (Nat.le_of_ble_eq_true rfl)⟩ hl.1 rfl (Nat.le_of_ble_eq_true rfl) dL_law_671 ⟨(by show _ ≤ (817018 : Nat); omega), (by show _ ≤ (6650127 : Nat); omega)⟩) (fun H locs hw => ?_)
        refine lv_bipush (v := 99) hM.x hM.b dL_law_674 (by decide) ?_
        refine lv_aload hM.x hM.b dL_law_676 (lv_at hl 18 rfl) ?_
        refine lv_iload hM.x hM.b dL_law_678 (lv_at hl 5 rfl) ?_
        refine k_aldaN (i := j) (n := nr) (t := 1) (x := ad (137 + j)) hM hw hT.1.1 hT.s136 rfl hjN (by omega) (if_pos hjN) dL_law_680 ?_
        refine lv_iload hM.x hM.b dL_law_681 (lv_at hl 1 rfl) ?_
        refine k_ialdN (i := (sn + w) % 4) (n := 4) hM hw (hT.1.2 j hjN) ((sh27 (kdB j (by omega)))) (Nat.mod_lt _ (by decide)) (by decide) dL_law_683 ?_
        refine lv_iload hM.x hM.b dL_law_684 (lv_at hl 0 rfl) ?_
        refine lv_iadd hM.x hM.b dL_law_686 ?_
        refine va_mmin hM.x hM.b (hM.ml.trans hl.1.symm) hM.ow (hM.ts _ u_ml_L_37) (hM.ts _ u_st_JM_min) (hM.ts _ u_ini_JM) (hM.ts _ u_co_JM_min) (Nat.le_of_ble_eq_true rfl) (Nat.le_of_ble_eq_true rfl) (by show _ ≤ (817018 : Nat); omega) (by show _ ≤ (6650127 : Nat); omega) dL_law_687 ?_
        refine lv_icmp_eq (tgt := 695) hM.x hM.b dL_law_690 (by decide) (fun _ => ?_) (fun cz => absurd (by rw [(hTr j hjN).2.2.2.2 _ (Nat.mod_lt _ (by decide))]; exact brown_c hI hC hA hjN es hsn hw5) cz)
        refine lv_iinc (v := nI (w + 1)) (lv' := [(24, .int (nI (w + 1))), (26, .int (moreP (gotP β j) w)), (25, .int (nI ((sn + w) % 4))), (23, .int (gotP β j)), (22, .int (β (14 + 2 * j) 2)), (21, .int (nI (j))), (19, .int (fatP a (j + 1))), (20, .int (0)), (13, .int (dripP β ns)), (16, .int (fatP β nr)), (17, .int (β 1 6)), (18, .int (v)), (0, .ref b), (1, .ref (ad (0))), (2, .ref (ad (91))), (3, .int (nI (t))), (5, .int (nI (ns))), (6, .int (nI (nr))), (7, .ref (ad (136))), (8, .ref (ad (153))), (9, .ref (ad (154))), (10, .ref (ad (155))), (11, .ref (ad (156))), (12, .ref (ad (157))), (14, .ref (ad (158))), (15, .ref (ad (159)))]) hM.x hM.b dL_law_695 hl (k := 2) rfl (nI_1 (w)) (by decide) rfl (fun ls hl => ?_)
        refine lv_goto (tgt := 622) hM.x hM.b dL_law_698 (by decide) ?_
        refine W.widen (k := k1 + 2 * (w + 1)) (n := n1 + 12 * (w + 1)) (by omega) (by omega) ?_
        exact ih (w + 1) (by omega) H locs ls (lv_sub hl [0, 3, 4, 5, 6, 7, 8, 9, 10, 11, 12, 13, 14, 15, 16, 17, 18, 19, 20, 21, 22, 23, 24, 25] rfl) hw kk
    · skip
      refine lv_iload hM.x hM.b dL_law_645 (lv_at hl 2 rfl) ?_
      refine lv_goto (tgt := 664) hM.x hM.b dL_law_647 (by decide) ?_
      have hmm : (gotP β j : Int32) = moreP (gotP β j) w := by unfold moreP; rw [if_pos ((nIeq (a := w) (b := 0) (by omega) (by decide)).mp c1)]
      refine W.eq (g2 := F0 m 664 ls [.int (moreP (gotP β j) w)]) (by rw [← hmm]) ?_
      refine lv_istore (lv' := [(26, .int (moreP (gotP β j) w)), (25, .int (nI ((sn + w) % 4))), (24, .int (nI (w))), (23, .int (gotP β j)), (22, .int (β (14 + 2 * j) 2)), (21, .int (nI (j))), (19, .int (fatP a (j + 1))), (20, .int (0)), (13, .int (dripP β ns)), (16, .int (fatP β nr)), (17, .int (β 1 6)), (18, .int (v)), (0, .ref b), (1, .ref (ad (0))), (2, .ref (ad (91))), (3, .int (nI (t))), (5, .int (nI (ns))), (6, .int (nI (nr))), (7, .ref (ad (136))), (8, .ref (ad (153))), (9, .ref (ad (154))), (10, .ref (ad (155))), (11, .ref (ad (156))), (12, .ref (ad (157))), (14, .ref (ad (158))), (15, .ref (ad (159)))]) hM.x hM.b dL_law_664 hl (by decide) rfl (fun ls hl => ?_)
      refine lv_aload_n hM.x hM.b dL_law_666 rfl (lv_at hl 13 rfl) ?_
      refine lv_iload hM.x hM.b dL_law_667 (lv_at hl 5 rfl) ?_
      refine lv_iload hM.x hM.b dL_law_669 (lv_at hl 1 rfl) ?_
      refine k_xiK ((rd_roast hR hq hjN).2.2.2.2.2.1 ((sn + w) % 4) (Nat.mod_lt _ (by decide))) hw (k_runXV [.int (nI (j)), .int (nI ((sn + w) % 4))] [] hM hw (m_X4_brownOf l ((D, L), cA, ad) θ _ (nI (j)) (nI ((sn + w) % 4)) hlst) (hw.dm kd_0 (by decide)) (sh4 kd_0) rfl (k_gV u_ml_L_140 u_im_X4_brownOf u_se_X4_brownOf u_ini_X4 u_co_X4_brownOf) (q_X4_brownOf) rfl rfl rfl ⟨(Nat.le_of_ble_eq_true rfl), (Nat.le_of_ble_eq_true rfl)⟩ hl.1 rfl (Nat.le_of_ble_eq_true rfl) dL_law_671 ⟨(by show _ ≤ (817018 : Nat); omega), (by show _ ≤ (6650127 : Nat); omega)⟩) (fun H locs hw => ?_)
      refine lv_bipush (v := 99) hM.x hM.b dL_law_674 (by decide) ?_
      refine lv_aload hM.x hM.b dL_law_676 (lv_at hl 18 rfl) ?_
      refine lv_iload hM.x hM.b dL_law_678 (lv_at hl 5 rfl) ?_
      refine k_aldaN (i := j) (n := nr) (t := 1) (x := ad (137 + j)) hM hw hT.1.1 hT.s136 rfl hjN (by omega) (if_pos hjN) dL_law_680 ?_
      refine lv_iload hM.x hM.b dL_law_681 (lv_at hl 1 rfl) ?_
      refine k_ialdN (i := (sn + w) % 4) (n := 4) hM hw (hT.1.2 j hjN) ((sh27 (kdB j (by omega)))) (Nat.mod_lt _ (by decide)) (by decide) dL_law_683 ?_
      refine lv_iload hM.x hM.b dL_law_684 (lv_at hl 0 rfl) ?_
      refine lv_iadd hM.x hM.b dL_law_686 ?_
      refine va_mmin hM.x hM.b (hM.ml.trans hl.1.symm) hM.ow (hM.ts _ u_ml_L_37) (hM.ts _ u_st_JM_min) (hM.ts _ u_ini_JM) (hM.ts _ u_co_JM_min) (Nat.le_of_ble_eq_true rfl) (Nat.le_of_ble_eq_true rfl) (by show _ ≤ (817018 : Nat); omega) (by show _ ≤ (6650127 : Nat); omega) dL_law_687 ?_
      refine lv_icmp_eq (tgt := 695) hM.x hM.b dL_law_690 (by decide) (fun _ => ?_) (fun cz => absurd (by rw [(hTr j hjN).2.2.2.2 _ (Nat.mod_lt _ (by decide))]; exact brown_c hI hC hA hjN es hsn hw5) cz)
      refine lv_iinc (v := nI (w + 1)) (lv' := [(24, .int (nI (w + 1))), (26, .int (moreP (gotP β j) w)), (25, .int (nI ((sn + w) % 4))), (23, .int (gotP β j)), (22, .int (β (14 + 2 * j) 2)), (21, .int (nI (j))), (19, .int (fatP a (j + 1))), (20, .int (0)), (13, .int (dripP β ns)), (16, .int (fatP β nr)), (17, .int (β 1 6)), (18, .int (v)), (0, .ref b), (1, .ref (ad (0))), (2, .ref (ad (91))), (3, .int (nI (t))), (5, .int (nI (ns))), (6, .int (nI (nr))), (7, .ref (ad (136))), (8, .ref (ad (153))), (9, .ref (ad (154))), (10, .ref (ad (155))), (11, .ref (ad (156))), (12, .ref (ad (157))), (14, .ref (ad (158))), (15, .ref (ad (159)))]) hM.x hM.b dL_law_695 hl (k := 2) rfl (nI_1 (w)) (by decide) rfl (fun ls hl => ?_)
      refine lv_goto (tgt := 622) hM.x hM.b dL_law_698 (by decide) ?_
      refine W.widen (k := k1 + 2 * (w + 1)) (n := n1 + 12 * (w + 1)) (by omega) (by omega) ?_
      exact ih (w + 1) (by omega) H locs ls (lv_sub hl [0, 3, 4, 5, 6, 7, 8, 9, 10, 11, 12, 13, 14, 15, 16, 17, 18, 19, 20, 21, 22, 23, 24, 25] rfl) hw kk
set_option maxRecDepth 100000 in
set_option maxHeartbeats 4000000 in
theorem law_A {p : Program} {e : Env} {s : State} {m : MethodId} {args : Array Value} {below : List Frame} {meth : Method} {c : Code} {Q : State → Prop} {A : Nat → Prop} {D : va_G} {cA : Nat → ClassId} {L : List Nat} {ad : Nat → Nat} {nf ns nr : Nat} {b t k1 n1 : Nat} (l : Launch) (hlst : l.stackTraces = false) (hM : Ma A D cA p s m args meth c cL_law 27 RL) (hT : TW L ad nf ns nr) (hk1 : k1 ≤ 800000) (hn1 : n1 ≤ 6000000) {β a a1 θ : Kp} {v : Int32} (hI : Iv nf ns nr β) (hC : CM β v a1) (hA : ∀ q, q < 46 → a q = a1 q) (hR : RR nf ns nr a) (hq : LoQ a θ) (hF : TF β θ nf) (hS : TS β θ ns) (hTr : TR β θ nr) : ∀ (n j : Nat), j + n = nr → ∀ (H : Heap) (locs : List Loc) (ls : Array Slot), lv_has ls 27 [(21, .int (nI (j))), (19, .int (fatP a j)), (20, .int (0)), (13, .int (dripP β ns)), (16, .int (fatP β nr)), (17, .int (β 1 6)), (18, .int (v)), (0, .ref b), (1, .ref (ad (0))), (2, .ref (ad (91))), (3, .int (nI (t))), (5, .int (nI (ns))), (6, .int (nI (nr))), (7, .ref (ad (136))), (8, .ref (ad (153))), (9, .ref (ad (154))), (10, .ref (ad (155))), (11, .ref (ad (156))), (12, .ref (ad (157))), (14, .ref (ad (158))), (15, .ref (ad (159)))] → Wa A D cA L ad s θ H locs → (∀ (H : Heap) (locs : List Loc) (ls : Array Slot), lv_has ls 27 [(19, .int (fatP a nr)), (20, .int (0)), (13, .int (dripP β ns)), (16, .int (fatP β nr)), (17, .int (β 1 6)), (18, .int (v)), (0, .ref b), (1, .ref (ad (0))), (2, .ref (ad (91))), (3, .int (nI (t))), (5, .int (nI (ns))), (6, .int (nI (nr))), (7, .ref (ad (136))), (8, .ref (ad (153))), (9, .ref (ad (154))), (10, .ref (ad (155))), (11, .ref (ad (156))), (12, .ref (ad (157))), (14, .ref (ad (158))), (15, .ref (ad (159)))] → Wa A D cA L ad s θ H locs → W p l e room_1 s m args below meth c H locs (k1 + 256) (n1 + 1536) Q (F0 m 850 ls [])) → W p l e room_1 s m args below meth c H locs (k1 + 16 * j) (n1 + 96 * j) Q (F0 m 559 ls []) := by
  have hb := hR.b
  intro n
  induction n with
  | zero =>
    intro j hj H locs ls hl hw kk
    obtain rfl : j = nr := by omega
    refine lv_iload hM.x hM.b dL_law_559 (lv_at hl 0 rfl) ?_
    refine lv_iload hM.x hM.b dL_law_561 (lv_at hl 12 rfl) ?_
    refine lv_icmp_ge (tgt := 850) hM.x hM.b dL_law_563 (by decide) (fun _ => ?_) (fun cz => absurd (nI_le (by omega) (by omega)) cz)
    exact W.widen (by omega) (by omega) (kk H locs ls (lv_sub hl [1, 2, 3, 4, 5, 6, 7, 8, 9, 10, 11, 12, 13, 14, 15, 16, 17, 18, 19, 20] rfl) hw)
  | succ n ih =>
    intro j hj H locs ls hl hw kk
    have hjN : j < nr := by omega
    obtain ⟨t4, t3, t5, tb, tw⟩ := hTr j hjN
    have hsp := spit_c hI hC hA hjN
    have tail : ∀ (H : Heap) (locs : List Loc) (ls : Array Slot), lv_has ls 27 [(23, .int (gotP β j)), (22, .int (β (14 + 2 * j) 2)), (21, .int (nI (j))), (19, .int (fatP a (j + 1))), (20, .int (0)), (13, .int (dripP β ns)), (16, .int (fatP β nr)), (17, .int (β 1 6)), (18, .int (v)), (0, .ref b), (1, .ref (ad (0))), (2, .ref (ad (91))), (3, .int (nI (t))), (5, .int (nI (ns))), (6, .int (nI (nr))), (7, .ref (ad (136))), (8, .ref (ad (153))), (9, .ref (ad (154))), (10, .ref (ad (155))), (11, .ref (ad (156))), (12, .ref (ad (157))), (14, .ref (ad (158))), (15, .ref (ad (159)))] → Wa A D cA L ad s θ H locs → W p l e room_1 s m args below meth c H locs (k1 + 16 * j + 2 + 8) (n1 + 96 * j + 12 + 48) Q (F0 m 701 ls []) := by
      intro H locs ls hl hw
      refine lv_aload_n hM.x hM.b dL_law_701 rfl (lv_at hl 10 rfl) ?_
      refine lv_iload hM.x hM.b dL_law_702 (lv_at hl 2 rfl) ?_
      refine k_xiK (rd_roast hR hq hjN).2.2.2.1 hw (k_runXV [.int (nI (j))] [] hM hw (m_X4_fatOf l ((D, L), cA, ad) θ _ (nI (j)) hlst) (hw.dm kd_0 (by decide)) (sh4 kd_0) rfl (k_gV u_ml_L_143 u_im_X4_fatOf u_se_X4_fatOf u_ini_X4 u_co_X4_fatOf) (q_X4_fatOf) rfl rfl rfl ⟨(Nat.le_of_ble_eq_true rfl), (Nat.le_of_ble_eq_true rfl)⟩ hl.1 rfl (Nat.le_of_ble_eq_true rfl) dL_law_704 ⟨(by show _ ≤ (817018 : Nat); omega), (by show _ ≤ (6650127 : Nat); omega)⟩) (fun H locs hw => ?_)
      refine lv_aload hM.x hM.b dL_law_707 (lv_at hl 16 rfl) ?_
      refine lv_iload hM.x hM.b dL_law_709 (lv_at hl 2 rfl) ?_
      refine k_ialdN (i := j) (n := nr) hM hw (hT.m 153 (by decide) (by decide)) ((hT.s153)) hjN (by omega) dL_law_711 ?_
      refine lv_iload hM.x hM.b dL_law_712 (lv_at hl 0 rfl) ?_
      refine lv_iconst (v := 1) hM.x hM.b dL_law_714 (by decide) ?_
      refine lv_icmp_le (tgt := 730) hM.x hM.b dL_law_715 (by decide) (fun c1 => ?_) (fun c1 => ?_)
      · skip
        refine lv_iconst (v := 0) hM.x hM.b dL_law_730 (by decide) ?_
        refine lv_isub hM.x hM.b dL_law_731 ?_
        refine lv_icmp_ne (tgt := 789) hM.x hM.b dL_law_732 (by decide) (fun cz => absurd (by rw [t4]; exact fat_c0 hI hC hA hjN (Or.inl c1)) cz) (fun _ => ?_)
        refine lv_aload_n hM.x hM.b dL_law_735 rfl (lv_at hl 10 rfl) ?_
        refine lv_iload hM.x hM.b dL_law_736 (lv_at hl 2 rfl) ?_
        refine k_xiK (rd_roast hR hq hjN).2.2.2.2.1 hw (k_runXV [.int (nI (j))] [] hM hw (m_X4_wetFor l ((D, L), cA, ad) θ _ (nI (j)) hlst) (hw.dm kd_0 (by decide)) (sh4 kd_0) rfl (k_gV u_ml_L_149 u_im_X4_wetFor u_se_X4_wetFor u_ini_X4 u_co_X4_wetFor) (q_X4_wetFor) rfl rfl rfl ⟨(Nat.le_of_ble_eq_true rfl), (Nat.le_of_ble_eq_true rfl)⟩ hl.1 rfl (Nat.le_of_ble_eq_true rfl) dL_law_738 ⟨(by show _ ≤ (817018 : Nat); omega), (by show _ ≤ (6650127 : Nat); omega)⟩) (fun H locs hw => ?_)
        refine lv_iload hM.x hM.b dL_law_741 (lv_at hl 1 rfl) ?_
        refine lv_if_lt (tgt := 764) hM.x hM.b dL_law_743 (by decide) (fun c2 => ?_) (fun c2 => ?_)
        · skip
          refine lv_aload hM.x hM.b dL_law_764 (lv_at hl 18 rfl) ?_
          refine lv_iload hM.x hM.b dL_law_766 (lv_at hl 2 rfl) ?_
          refine k_ialdN (i := j) (n := nr) hM hw (hT.m 155 (by decide) (by decide)) ((hT.s155)) hjN (by omega) dL_law_768 ?_
          refine lv_icmp_ne (tgt := 789) hM.x hM.b dL_law_769 (by decide) (fun cz => absurd (by rw [t5]; exact wet_c0 hI hC hA hjN (Or.inl c2)) cz) (fun _ => ?_)
          refine lv_aload hM.x hM.b dL_law_772 (lv_at hl 19 rfl) ?_
          refine lv_iload hM.x hM.b dL_law_774 (lv_at hl 2 rfl) ?_
          refine k_zald (n := nr) hM hw (hT.m 156 (by decide) (by decide)) hT.s156 (vp_in_nI hjN (by omega)) dL_law_776 ?_
          rw [nI_clamp (by omega)]
          refine lv_if_eq (tgt := 791) hM.x hM.b dL_law_777 (by decide) (fun c3 => ?_) (fun c3 => ?_)
          · skip
            refine lv_iload hM.x hM.b dL_law_791 (lv_at hl 1 rfl) ?_
            refine lv_if_ge (tgt := 810) hM.x hM.b dL_law_793 (by decide) (fun c4 => ?_) (fun c4 => ?_)
            · skip
              refine lv_aload_n hM.x hM.b dL_law_810 rfl (lv_at hl 10 rfl) ?_
              refine lv_iload hM.x hM.b dL_law_811 (lv_at hl 2 rfl) ?_
              refine k_xiK (rd_roast hR hq hjN).2.2.1 hw (k_runXV [.int (nI (j))] [] hM hw (m_X4_sideToFire l ((D, L), cA, ad) θ _ (nI (j)) hlst) (hw.dm kd_0 (by decide)) (sh4 kd_0) rfl (k_gV u_ml_L_146 u_im_X4_sideToFire u_se_X4_sideToFire u_ini_X4 u_co_X4_sideToFire) (q_X4_sideToFire) rfl rfl rfl ⟨(Nat.le_of_ble_eq_true rfl), (Nat.le_of_ble_eq_true rfl)⟩ hl.1 rfl (Nat.le_of_ble_eq_true rfl) dL_law_813 ⟨(by show _ ≤ (817018 : Nat); omega), (by show _ ≤ (6650127 : Nat); omega)⟩) (fun H locs hw => ?_)
              refine lv_aload hM.x hM.b dL_law_816 (lv_at hl 17 rfl) ?_
              refine lv_iload hM.x hM.b dL_law_818 (lv_at hl 2 rfl) ?_
              refine k_ialdN (i := j) (n := nr) hM hw (hT.m 154 (by decide) (by decide)) ((hT.s154)) hjN (by omega) dL_law_820 ?_
              refine lv_icmp_eq (tgt := 844) hM.x hM.b dL_law_821 (by decide) (fun c5 => ?_) (fun c5 => ?_)
              · skip
                refine lv_iinc (v := nI (j + 1)) (lv' := [(21, .int (nI (j + 1))), (23, .int (gotP β j)), (22, .int (β (14 + 2 * j) 2)), (19, .int (fatP a (j + 1))), (20, .int (0)), (13, .int (dripP β ns)), (16, .int (fatP β nr)), (17, .int (β 1 6)), (18, .int (v)), (0, .ref b), (1, .ref (ad (0))), (2, .ref (ad (91))), (3, .int (nI (t))), (5, .int (nI (ns))), (6, .int (nI (nr))), (7, .ref (ad (136))), (8, .ref (ad (153))), (9, .ref (ad (154))), (10, .ref (ad (155))), (11, .ref (ad (156))), (12, .ref (ad (157))), (14, .ref (ad (158))), (15, .ref (ad (159)))]) hM.x hM.b dL_law_844 hl (k := 2) rfl (nI_1 (j)) (by decide) rfl (fun ls hl => ?_)
                refine lv_goto (tgt := 559) hM.x hM.b dL_law_847 (by decide) ?_
                refine W.widen (k := k1 + 16 * (j + 1)) (n := n1 + 96 * (j + 1)) (by omega) (by omega) ?_
                exact ih (j + 1) (by omega) H locs ls (lv_sub hl [0, 3, 4, 5, 6, 7, 8, 9, 10, 11, 12, 13, 14, 15, 16, 17, 18, 19, 20, 21, 22] rfl) hw kk
              · skip
                refine lv_aload_n hM.x hM.b dL_law_824 rfl (lv_at hl 10 rfl) ?_
                refine lv_iload hM.x hM.b dL_law_825 (lv_at hl 2 rfl) ?_
                refine k_xiK (rd_roast hR hq hjN).2.2.1 hw (k_runXV [.int (nI (j))] [] hM hw (m_X4_sideToFire l ((D, L), cA, ad) θ _ (nI (j)) hlst) (hw.dm kd_0 (by decide)) (sh4 kd_0) rfl (k_gV u_ml_L_146 u_im_X4_sideToFire u_se_X4_sideToFire u_ini_X4 u_co_X4_sideToFire) (q_X4_sideToFire) rfl rfl rfl ⟨(Nat.le_of_ble_eq_true rfl), (Nat.le_of_ble_eq_true rfl)⟩ hl.1 rfl (Nat.le_of_ble_eq_true rfl) dL_law_827 ⟨(by show _ ≤ (817018 : Nat); omega), (by show _ ≤ (6650127 : Nat); omega)⟩) (fun H locs hw => ?_)
                refine lv_aload hM.x hM.b dL_law_830 (lv_at hl 17 rfl) ?_
                refine lv_iload hM.x hM.b dL_law_832 (lv_at hl 2 rfl) ?_
                refine k_ialdN (i := j) (n := nr) hM hw (hT.m 154 (by decide) (by decide)) ((hT.s154)) hjN (by omega) dL_law_834 ?_
                refine lv_iconst (v := 1) hM.x hM.b dL_law_835 (by decide) ?_
                refine lv_iadd hM.x hM.b dL_law_836 ?_
                refine lv_iconst (v := 4) hM.x hM.b dL_law_837 (by decide) ?_
                refine lv_irem hM.x hM.b dL_law_838 (by decide) ?_
                refine lv_icmp_eq (tgt := 844) hM.x hM.b dL_law_839 (by decide) (fun _ => ?_) (fun cz => absurd (by rw [t3]; exact (side_c hI hC hA hjN).2.resolve_left (fun z => c5 (by rw [t3]; exact z))) cz)
                refine lv_iinc (v := nI (j + 1)) (lv' := [(21, .int (nI (j + 1))), (23, .int (gotP β j)), (22, .int (β (14 + 2 * j) 2)), (19, .int (fatP a (j + 1))), (20, .int (0)), (13, .int (dripP β ns)), (16, .int (fatP β nr)), (17, .int (β 1 6)), (18, .int (v)), (0, .ref b), (1, .ref (ad (0))), (2, .ref (ad (91))), (3, .int (nI (t))), (5, .int (nI (ns))), (6, .int (nI (nr))), (7, .ref (ad (136))), (8, .ref (ad (153))), (9, .ref (ad (154))), (10, .ref (ad (155))), (11, .ref (ad (156))), (12, .ref (ad (157))), (14, .ref (ad (158))), (15, .ref (ad (159)))]) hM.x hM.b dL_law_844 hl (k := 2) rfl (nI_1 (j)) (by decide) rfl (fun ls hl => ?_)
                refine lv_goto (tgt := 559) hM.x hM.b dL_law_847 (by decide) ?_
                refine W.widen (k := k1 + 16 * (j + 1)) (n := n1 + 96 * (j + 1)) (by omega) (by omega) ?_
                exact ih (j + 1) (by omega) H locs ls (lv_sub hl [0, 3, 4, 5, 6, 7, 8, 9, 10, 11, 12, 13, 14, 15, 16, 17, 18, 19, 20, 21, 22] rfl) hw kk
            · skip
              refine lv_aload_n hM.x hM.b dL_law_796 rfl (lv_at hl 10 rfl) ?_
              refine lv_iload hM.x hM.b dL_law_797 (lv_at hl 2 rfl) ?_
              refine k_xiK (rd_roast hR hq hjN).2.2.1 hw (k_runXV [.int (nI (j))] [] hM hw (m_X4_sideToFire l ((D, L), cA, ad) θ _ (nI (j)) hlst) (hw.dm kd_0 (by decide)) (sh4 kd_0) rfl (k_gV u_ml_L_146 u_im_X4_sideToFire u_se_X4_sideToFire u_ini_X4 u_co_X4_sideToFire) (q_X4_sideToFire) rfl rfl rfl ⟨(Nat.le_of_ble_eq_true rfl), (Nat.le_of_ble_eq_true rfl)⟩ hl.1 rfl (Nat.le_of_ble_eq_true rfl) dL_law_799 ⟨(by show _ ≤ (817018 : Nat); omega), (by show _ ≤ (6650127 : Nat); omega)⟩) (fun H locs hw => ?_)
              refine lv_aload hM.x hM.b dL_law_802 (lv_at hl 17 rfl) ?_
              refine lv_iload hM.x hM.b dL_law_804 (lv_at hl 2 rfl) ?_
              refine k_ialdN (i := j) (n := nr) hM hw (hT.m 154 (by decide) (by decide)) ((hT.s154)) hjN (by omega) dL_law_806 ?_
              refine lv_icmp_ne (tgt := 842) hM.x hM.b dL_law_807 (by decide) (fun cz => absurd (by rw [t3]; exact (side_c hI hC hA hjN).1 (Int32.not_le.mp c4)) cz) (fun _ => ?_)
              refine lv_aload_n hM.x hM.b dL_law_810 rfl (lv_at hl 10 rfl) ?_
              refine lv_iload hM.x hM.b dL_law_811 (lv_at hl 2 rfl) ?_
              refine k_xiK (rd_roast hR hq hjN).2.2.1 hw (k_runXV [.int (nI (j))] [] hM hw (m_X4_sideToFire l ((D, L), cA, ad) θ _ (nI (j)) hlst) (hw.dm kd_0 (by decide)) (sh4 kd_0) rfl (k_gV u_ml_L_146 u_im_X4_sideToFire u_se_X4_sideToFire u_ini_X4 u_co_X4_sideToFire) (q_X4_sideToFire) rfl rfl rfl ⟨(Nat.le_of_ble_eq_true rfl), (Nat.le_of_ble_eq_true rfl)⟩ hl.1 rfl (Nat.le_of_ble_eq_true rfl) dL_law_813 ⟨(by show _ ≤ (817018 : Nat); omega), (by show _ ≤ (6650127 : Nat); omega)⟩) (fun H locs hw => ?_)
              refine lv_aload hM.x hM.b dL_law_816 (lv_at hl 17 rfl) ?_
              refine lv_iload hM.x hM.b dL_law_818 (lv_at hl 2 rfl) ?_
              refine k_ialdN (i := j) (n := nr) hM hw (hT.m 154 (by decide) (by decide)) ((hT.s154)) hjN (by omega) dL_law_820 ?_
              refine lv_icmp_eq (tgt := 844) hM.x hM.b dL_law_821 (by decide) (fun c6 => ?_) (fun c6 => ?_)
              · skip
                refine lv_iinc (v := nI (j + 1)) (lv' := [(21, .int (nI (j + 1))), (23, .int (gotP β j)), (22, .int (β (14 + 2 * j) 2)), (19, .int (fatP a (j + 1))), (20, .int (0)), (13, .int (dripP β ns)), (16, .int (fatP β nr)), (17, .int (β 1 6)), (18, .int (v)), (0, .ref b), (1, .ref (ad (0))), (2, .ref (ad (91))), (3, .int (nI (t))), (5, .int (nI (ns))), (6, .int (nI (nr))), (7, .ref (ad (136))), (8, .ref (ad (153))), (9, .ref (ad (154))), (10, .ref (ad (155))), (11, .ref (ad (156))), (12, .ref (ad (157))), (14, .ref (ad (158))), (15, .ref (ad (159)))]) hM.x hM.b dL_law_844 hl (k := 2) rfl (nI_1 (j)) (by decide) rfl (fun ls hl => ?_)
                refine lv_goto (tgt := 559) hM.x hM.b dL_law_847 (by decide) ?_
                refine W.widen (k := k1 + 16 * (j + 1)) (n := n1 + 96 * (j + 1)) (by omega) (by omega) ?_
                exact ih (j + 1) (by omega) H locs ls (lv_sub hl [0, 3, 4, 5, 6, 7, 8, 9, 10, 11, 12, 13, 14, 15, 16, 17, 18, 19, 20, 21, 22] rfl) hw kk
              · skip
                refine lv_aload_n hM.x hM.b dL_law_824 rfl (lv_at hl 10 rfl) ?_
                refine lv_iload hM.x hM.b dL_law_825 (lv_at hl 2 rfl) ?_
                refine k_xiK (rd_roast hR hq hjN).2.2.1 hw (k_runXV [.int (nI (j))] [] hM hw (m_X4_sideToFire l ((D, L), cA, ad) θ _ (nI (j)) hlst) (hw.dm kd_0 (by decide)) (sh4 kd_0) rfl (k_gV u_ml_L_146 u_im_X4_sideToFire u_se_X4_sideToFire u_ini_X4 u_co_X4_sideToFire) (q_X4_sideToFire) rfl rfl rfl ⟨(Nat.le_of_ble_eq_true rfl), (Nat.le_of_ble_eq_true rfl)⟩ hl.1 rfl (Nat.le_of_ble_eq_true rfl) dL_law_827 ⟨(by show _ ≤ (817018 : Nat); omega), (by show _ ≤ (6650127 : Nat); omega)⟩) (fun H locs hw => ?_)
                refine lv_aload hM.x hM.b dL_law_830 (lv_at hl 17 rfl) ?_
                refine lv_iload hM.x hM.b dL_law_832 (lv_at hl 2 rfl) ?_
                refine k_ialdN (i := j) (n := nr) hM hw (hT.m 154 (by decide) (by decide)) ((hT.s154)) hjN (by omega) dL_law_834 ?_
                refine lv_iconst (v := 1) hM.x hM.b dL_law_835 (by decide) ?_
                refine lv_iadd hM.x hM.b dL_law_836 ?_
                refine lv_iconst (v := 4) hM.x hM.b dL_law_837 (by decide) ?_
                refine lv_irem hM.x hM.b dL_law_838 (by decide) ?_
                refine lv_icmp_eq (tgt := 844) hM.x hM.b dL_law_839 (by decide) (fun _ => ?_) (fun cz => absurd (by rw [t3]; exact (side_c hI hC hA hjN).2.resolve_left (fun z => c6 (by rw [t3]; exact z))) cz)
                refine lv_iinc (v := nI (j + 1)) (lv' := [(21, .int (nI (j + 1))), (23, .int (gotP β j)), (22, .int (β (14 + 2 * j) 2)), (19, .int (fatP a (j + 1))), (20, .int (0)), (13, .int (dripP β ns)), (16, .int (fatP β nr)), (17, .int (β 1 6)), (18, .int (v)), (0, .ref b), (1, .ref (ad (0))), (2, .ref (ad (91))), (3, .int (nI (t))), (5, .int (nI (ns))), (6, .int (nI (nr))), (7, .ref (ad (136))), (8, .ref (ad (153))), (9, .ref (ad (154))), (10, .ref (ad (155))), (11, .ref (ad (156))), (12, .ref (ad (157))), (14, .ref (ad (158))), (15, .ref (ad (159)))]) hM.x hM.b dL_law_844 hl (k := 2) rfl (nI_1 (j)) (by decide) rfl (fun ls hl => ?_)
                refine lv_goto (tgt := 559) hM.x hM.b dL_law_847 (by decide) ?_
                refine W.widen (k := k1 + 16 * (j + 1)) (n := n1 + 96 * (j + 1)) (by omega) (by omega) ?_
                exact ih (j + 1) (by omega) H locs ls (lv_sub hl [0, 3, 4, 5, 6, 7, 8, 9, 10, 11, 12, 13, 14, 15, 16, 17, 18, 19, 20, 21, 22] rfl) hw kk
          · skip
            refine lv_aload_n hM.x hM.b dL_law_780 rfl (lv_at hl 10 rfl) ?_
            refine lv_iload hM.x hM.b dL_law_781 (lv_at hl 2 rfl) ?_
            refine k_xiK (rd_roast hR hq hjN).2.2.2.2.2.2.2 hw (k_runXV [.int (nI (j))] [] hM hw (m_X4_isBurnt l ((D, L), cA, ad) θ _ (nI (j)) hlst) (hw.dm kd_0 (by decide)) (sh4 kd_0) rfl (k_gV u_ml_L_152 u_im_X4_isBurnt u_se_X4_isBurnt u_ini_X4 u_co_X4_isBurnt) (q_X4_isBurnt) rfl rfl rfl ⟨(Nat.le_of_ble_eq_true rfl), (Nat.le_of_ble_eq_true rfl)⟩ hl.1 rfl (Nat.le_of_ble_eq_true rfl) dL_law_783 ⟨(by show _ ≤ (817018 : Nat); omega), (by show _ ≤ (6650127 : Nat); omega)⟩) (fun H locs hw => ?_)
            refine lv_if_ne (tgt := 791) hM.x hM.b dL_law_786 (by decide) (fun _ => ?_) (fun cz => absurd cz (by rw [burnt_c hI hC hA hjN (bi_ne (fun z => c3 (tb.trans z)))]; exact bi_t))
            refine lv_iload hM.x hM.b dL_law_791 (lv_at hl 1 rfl) ?_
            refine lv_if_ge (tgt := 810) hM.x hM.b dL_law_793 (by decide) (fun c7 => ?_) (fun c7 => ?_)
            · skip
              refine lv_aload_n hM.x hM.b dL_law_810 rfl (lv_at hl 10 rfl) ?_
              refine lv_iload hM.x hM.b dL_law_811 (lv_at hl 2 rfl) ?_
              refine k_xiK (rd_roast hR hq hjN).2.2.1 hw (k_runXV [.int (nI (j))] [] hM hw (m_X4_sideToFire l ((D, L), cA, ad) θ _ (nI (j)) hlst) (hw.dm kd_0 (by decide)) (sh4 kd_0) rfl (k_gV u_ml_L_146 u_im_X4_sideToFire u_se_X4_sideToFire u_ini_X4 u_co_X4_sideToFire) (q_X4_sideToFire) rfl rfl rfl ⟨(Nat.le_of_ble_eq_true rfl), (Nat.le_of_ble_eq_true rfl)⟩ hl.1 rfl (Nat.le_of_ble_eq_true rfl) dL_law_813 ⟨(by show _ ≤ (817018 : Nat); omega), (by show _ ≤ (6650127 : Nat); omega)⟩) (fun H locs hw => ?_)
              refine lv_aload hM.x hM.b dL_law_816 (lv_at hl 17 rfl) ?_
              refine lv_iload hM.x hM.b dL_law_818 (lv_at hl 2 rfl) ?_
              refine k_ialdN (i := j) (n := nr) hM hw (hT.m 154 (by decide) (by decide)) ((hT.s154)) hjN (by omega) dL_law_820 ?_
              refine lv_icmp_eq (tgt := 844) hM.x hM.b dL_law_821 (by decide) (fun c8 => ?_) (fun c8 => ?_)
              · skip
                refine lv_iinc (v := nI (j + 1)) (lv' := [(21, .int (nI (j + 1))), (23, .int (gotP β j)), (22, .int (β (14 + 2 * j) 2)), (19, .int (fatP a (j + 1))), (20, .int (0)), (13, .int (dripP β ns)), (16, .int (fatP β nr)), (17, .int (β 1 6)), (18, .int (v)), (0, .ref b), (1, .ref (ad (0))), (2, .ref (ad (91))), (3, .int (nI (t))), (5, .int (nI (ns))), (6, .int (nI (nr))), (7, .ref (ad (136))), (8, .ref (ad (153))), (9, .ref (ad (154))), (10, .ref (ad (155))), (11, .ref (ad (156))), (12, .ref (ad (157))), (14, .ref (ad (158))), (15, .ref (ad (159)))]) hM.x hM.b dL_law_844 hl (k := 2) rfl (nI_1 (j)) (by decide) rfl (fun ls hl => ?_)
                refine lv_goto (tgt := 559) hM.x hM.b dL_law_847 (by decide) ?_
                refine W.widen (k := k1 + 16 * (j + 1)) (n := n1 + 96 * (j + 1)) (by omega) (by omega) ?_
                exact ih (j + 1) (by omega) H locs ls (lv_sub hl [0, 3, 4, 5, 6, 7, 8, 9, 10, 11, 12, 13, 14, 15, 16, 17, 18, 19, 20, 21, 22] rfl) hw kk
              · skip
                refine lv_aload_n hM.x hM.b dL_law_824 rfl (lv_at hl 10 rfl) ?_
                refine lv_iload hM.x hM.b dL_law_825 (lv_at hl 2 rfl) ?_
                refine k_xiK (rd_roast hR hq hjN).2.2.1 hw (k_runXV [.int (nI (j))] [] hM hw (m_X4_sideToFire l ((D, L), cA, ad) θ _ (nI (j)) hlst) (hw.dm kd_0 (by decide)) (sh4 kd_0) rfl (k_gV u_ml_L_146 u_im_X4_sideToFire u_se_X4_sideToFire u_ini_X4 u_co_X4_sideToFire) (q_X4_sideToFire) rfl rfl rfl ⟨(Nat.le_of_ble_eq_true rfl), (Nat.le_of_ble_eq_true rfl)⟩ hl.1 rfl (Nat.le_of_ble_eq_true rfl) dL_law_827 ⟨(by show _ ≤ (817018 : Nat); omega), (by show _ ≤ (6650127 : Nat); omega)⟩) (fun H locs hw => ?_)
                refine lv_aload hM.x hM.b dL_law_830 (lv_at hl 17 rfl) ?_
                refine lv_iload hM.x hM.b dL_law_832 (lv_at hl 2 rfl) ?_
                refine k_ialdN (i := j) (n := nr) hM hw (hT.m 154 (by decide) (by decide)) ((hT.s154)) hjN (by omega) dL_law_834 ?_
                refine lv_iconst (v := 1) hM.x hM.b dL_law_835 (by decide) ?_
                refine lv_iadd hM.x hM.b dL_law_836 ?_
                refine lv_iconst (v := 4) hM.x hM.b dL_law_837 (by decide) ?_
                refine lv_irem hM.x hM.b dL_law_838 (by decide) ?_
                refine lv_icmp_eq (tgt := 844) hM.x hM.b dL_law_839 (by decide) (fun _ => ?_) (fun cz => absurd (by rw [t3]; exact (side_c hI hC hA hjN).2.resolve_left (fun z => c8 (by rw [t3]; exact z))) cz)
                refine lv_iinc (v := nI (j + 1)) (lv' := [(21, .int (nI (j + 1))), (23, .int (gotP β j)), (22, .int (β (14 + 2 * j) 2)), (19, .int (fatP a (j + 1))), (20, .int (0)), (13, .int (dripP β ns)), (16, .int (fatP β nr)), (17, .int (β 1 6)), (18, .int (v)), (0, .ref b), (1, .ref (ad (0))), (2, .ref (ad (91))), (3, .int (nI (t))), (5, .int (nI (ns))), (6, .int (nI (nr))), (7, .ref (ad (136))), (8, .ref (ad (153))), (9, .ref (ad (154))), (10, .ref (ad (155))), (11, .ref (ad (156))), (12, .ref (ad (157))), (14, .ref (ad (158))), (15, .ref (ad (159)))]) hM.x hM.b dL_law_844 hl (k := 2) rfl (nI_1 (j)) (by decide) rfl (fun ls hl => ?_)
                refine lv_goto (tgt := 559) hM.x hM.b dL_law_847 (by decide) ?_
                refine W.widen (k := k1 + 16 * (j + 1)) (n := n1 + 96 * (j + 1)) (by omega) (by omega) ?_
                exact ih (j + 1) (by omega) H locs ls (lv_sub hl [0, 3, 4, 5, 6, 7, 8, 9, 10, 11, 12, 13, 14, 15, 16, 17, 18, 19, 20, 21, 22] rfl) hw kk
            · skip
              refine lv_aload_n hM.x hM.b dL_law_796 rfl (lv_at hl 10 rfl) ?_
              refine lv_iload hM.x hM.b dL_law_797 (lv_at hl 2 rfl) ?_
              refine k_xiK (rd_roast hR hq hjN).2.2.1 hw (k_runXV [.int (nI (j))] [] hM hw (m_X4_sideToFire l ((D, L), cA, ad) θ _ (nI (j)) hlst) (hw.dm kd_0 (by decide)) (sh4 kd_0) rfl (k_gV u_ml_L_146 u_im_X4_sideToFire u_se_X4_sideToFire u_ini_X4 u_co_X4_sideToFire) (q_X4_sideToFire) rfl rfl rfl ⟨(Nat.le_of_ble_eq_true rfl), (Nat.le_of_ble_eq_true rfl)⟩ hl.1 rfl (Nat.le_of_ble_eq_true rfl) dL_law_799 ⟨(by show _ ≤ (817018 : Nat); omega), (by show _ ≤ (6650127 : Nat); omega)⟩) (fun H locs hw => ?_)
              refine lv_aload hM.x hM.b dL_law_802 (lv_at hl 17 rfl) ?_
              refine lv_iload hM.x hM.b dL_law_804 (lv_at hl 2 rfl) ?_
              refine k_ialdN (i := j) (n := nr) hM hw (hT.m 154 (by decide) (by decide)) ((hT.s154)) hjN (by omega) dL_law_806 ?_
              refine lv_icmp_ne (tgt := 842) hM.x hM.b dL_law_807 (by decide) (fun cz => absurd (by rw [t3]; exact (side_c hI hC hA hjN).1 (Int32.not_le.mp c7)) cz) (fun _ => ?_)
              refine lv_aload_n hM.x hM.b dL_law_810 rfl (lv_at hl 10 rfl) ?_
              refine lv_iload hM.x hM.b dL_law_811 (lv_at hl 2 rfl) ?_
              refine k_xiK (rd_roast hR hq hjN).2.2.1 hw (k_runXV [.int (nI (j))] [] hM hw (m_X4_sideToFire l ((D, L), cA, ad) θ _ (nI (j)) hlst) (hw.dm kd_0 (by decide)) (sh4 kd_0) rfl (k_gV u_ml_L_146 u_im_X4_sideToFire u_se_X4_sideToFire u_ini_X4 u_co_X4_sideToFire) (q_X4_sideToFire) rfl rfl rfl ⟨(Nat.le_of_ble_eq_true rfl), (Nat.le_of_ble_eq_true rfl)⟩ hl.1 rfl (Nat.le_of_ble_eq_true rfl) dL_law_813 ⟨(by show _ ≤ (817018 : Nat); omega), (by show _ ≤ (6650127 : Nat); omega)⟩) (fun H locs hw => ?_)
              refine lv_aload hM.x hM.b dL_law_816 (lv_at hl 17 rfl) ?_
              refine lv_iload hM.x hM.b dL_law_818 (lv_at hl 2 rfl) ?_
              refine k_ialdN (i := j) (n := nr) hM hw (hT.m 154 (by decide) (by decide)) ((hT.s154)) hjN (by omega) dL_law_820 ?_
              refine lv_icmp_eq (tgt := 844) hM.x hM.b dL_law_821 (by decide) (fun c9 => ?_) (fun c9 => ?_)
              · skip
                refine lv_iinc (v := nI (j + 1)) (lv' := [(21, .int (nI (j + 1))), (23, .int (gotP β j)), (22, .int (β (14 + 2 * j) 2)), (19, .int (fatP a (j + 1))), (20, .int (0)), (13, .int (dripP β ns)), (16, .int (fatP β nr)), (17, .int (β 1 6)), (18, .int (v)), (0, .ref b), (1, .ref (ad (0))), (2, .ref (ad (91))), (3, .int (nI (t))), (5, .int (nI (ns))), (6, .int (nI (nr))), (7, .ref (ad (136))), (8, .ref (ad (153))), (9, .ref (ad (154))), (10, .ref (ad (155))), (11, .ref (ad (156))), (12, .ref (ad (157))), (14, .ref (ad (158))), (15, .ref (ad (159)))]) hM.x hM.b dL_law_844 hl (k := 2) rfl (nI_1 (j)) (by decide) rfl (fun ls hl => ?_)
                refine lv_goto (tgt := 559) hM.x hM.b dL_law_847 (by decide) ?_
                refine W.widen (k := k1 + 16 * (j + 1)) (n := n1 + 96 * (j + 1)) (by omega) (by omega) ?_
                exact ih (j + 1) (by omega) H locs ls (lv_sub hl [0, 3, 4, 5, 6, 7, 8, 9, 10, 11, 12, 13, 14, 15, 16, 17, 18, 19, 20, 21, 22] rfl) hw kk
              · skip
                refine lv_aload_n hM.x hM.b dL_law_824 rfl (lv_at hl 10 rfl) ?_
                refine lv_iload hM.x hM.b dL_law_825 (lv_at hl 2 rfl) ?_
                refine k_xiK (rd_roast hR hq hjN).2.2.1 hw (k_runXV [.int (nI (j))] [] hM hw (m_X4_sideToFire l ((D, L), cA, ad) θ _ (nI (j)) hlst) (hw.dm kd_0 (by decide)) (sh4 kd_0) rfl (k_gV u_ml_L_146 u_im_X4_sideToFire u_se_X4_sideToFire u_ini_X4 u_co_X4_sideToFire) (q_X4_sideToFire) rfl rfl rfl ⟨(Nat.le_of_ble_eq_true rfl), (Nat.le_of_ble_eq_true rfl)⟩ hl.1 rfl (Nat.le_of_ble_eq_true rfl) dL_law_827 ⟨(by show _ ≤ (817018 : Nat); omega), (by show _ ≤ (6650127 : Nat); omega)⟩) (fun H locs hw => ?_)
                refine lv_aload hM.x hM.b dL_law_830 (lv_at hl 17 rfl) ?_
                refine lv_iload hM.x hM.b dL_law_832 (lv_at hl 2 rfl) ?_
                refine k_ialdN (i := j) (n := nr) hM hw (hT.m 154 (by decide) (by decide)) ((hT.s154)) hjN (by omega) dL_law_834 ?_
                refine lv_iconst (v := 1) hM.x hM.b dL_law_835 (by decide) ?_
                refine lv_iadd hM.x hM.b dL_law_836 ?_
                refine lv_iconst (v := 4) hM.x hM.b dL_law_837 (by decide) ?_
                refine lv_irem hM.x hM.b dL_law_838 (by decide) ?_
                refine lv_icmp_eq (tgt := 844) hM.x hM.b dL_law_839 (by decide) (fun _ => ?_) (fun cz => absurd (by rw [t3]; exact (side_c hI hC hA hjN).2.resolve_left (fun z => c9 (by rw [t3]; exact z))) cz)
                refine lv_iinc (v := nI (j + 1)) (lv' := [(21, .int (nI (j + 1))), (23, .int (gotP β j)), (22, .int (β (14 + 2 * j) 2)), (19, .int (fatP a (j + 1))), (20, .int (0)), (13, .int (dripP β ns)), (16, .int (fatP β nr)), (17, .int (β 1 6)), (18, .int (v)), (0, .ref b), (1, .ref (ad (0))), (2, .ref (ad (91))), (3, .int (nI (t))), (5, .int (nI (ns))), (6, .int (nI (nr))), (7, .ref (ad (136))), (8, .ref (ad (153))), (9, .ref (ad (154))), (10, .ref (ad (155))), (11, .ref (ad (156))), (12, .ref (ad (157))), (14, .ref (ad (158))), (15, .ref (ad (159)))]) hM.x hM.b dL_law_844 hl (k := 2) rfl (nI_1 (j)) (by decide) rfl (fun ls hl => ?_)
                refine lv_goto (tgt := 559) hM.x hM.b dL_law_847 (by decide) ?_
                refine W.widen (k := k1 + 16 * (j + 1)) (n := n1 + 96 * (j + 1)) (by omega) (by omega) ?_
                exact ih (j + 1) (by omega) H locs ls (lv_sub hl [0, 3, 4, 5, 6, 7, 8, 9, 10, 11, 12, 13, 14, 15, 16, 17, 18, 19, 20, 21, 22] rfl) hw kk
        · skip
          refine lv_aload hM.x hM.b dL_law_746 (lv_at hl 18 rfl) ?_
          refine lv_iload hM.x hM.b dL_law_748 (lv_at hl 2 rfl) ?_
          refine k_ialdN (i := j) (n := nr) hM hw (hT.m 155 (by decide) (by decide)) ((hT.s155)) hjN (by omega) dL_law_750 ?_
          refine lv_if_le (tgt := 764) hM.x hM.b dL_law_751 (by decide) (fun c10 => ?_) (fun c10 => ?_)
          · skip
            refine lv_aload hM.x hM.b dL_law_764 (lv_at hl 18 rfl) ?_
            refine lv_iload hM.x hM.b dL_law_766 (lv_at hl 2 rfl) ?_
            refine k_ialdN (i := j) (n := nr) hM hw (hT.m 155 (by decide) (by decide)) ((hT.s155)) hjN (by omega) dL_law_768 ?_
            refine lv_icmp_ne (tgt := 789) hM.x hM.b dL_law_769 (by decide) (fun cz => absurd (by rw [t5]; exact wet_c0 hI hC hA hjN (Or.inr (by rw [← t5]; exact c10))) cz) (fun _ => ?_)
            refine lv_aload hM.x hM.b dL_law_772 (lv_at hl 19 rfl) ?_
            refine lv_iload hM.x hM.b dL_law_774 (lv_at hl 2 rfl) ?_
            refine k_zald (n := nr) hM hw (hT.m 156 (by decide) (by decide)) hT.s156 (vp_in_nI hjN (by omega)) dL_law_776 ?_
            rw [nI_clamp (by omega)]
            refine lv_if_eq (tgt := 791) hM.x hM.b dL_law_777 (by decide) (fun c11 => ?_) (fun c11 => ?_)
            · skip
              refine lv_iload hM.x hM.b dL_law_791 (lv_at hl 1 rfl) ?_
              refine lv_if_ge (tgt := 810) hM.x hM.b dL_law_793 (by decide) (fun c12 => ?_) (fun c12 => ?_)
              · skip
                refine lv_aload_n hM.x hM.b dL_law_810 rfl (lv_at hl 10 rfl) ?_
                refine lv_iload hM.x hM.b dL_law_811 (lv_at hl 2 rfl) ?_
                refine k_xiK (rd_roast hR hq hjN).2.2.1 hw (k_runXV [.int (nI (j))] [] hM hw (m_X4_sideToFire l ((D, L), cA, ad) θ _ (nI (j)) hlst) (hw.dm kd_0 (by decide)) (sh4 kd_0) rfl (k_gV u_ml_L_146 u_im_X4_sideToFire u_se_X4_sideToFire u_ini_X4 u_co_X4_sideToFire) (q_X4_sideToFire) rfl rfl rfl ⟨(Nat.le_of_ble_eq_true rfl), (Nat.le_of_ble_eq_true rfl)⟩ hl.1 rfl (Nat.le_of_ble_eq_true rfl) dL_law_813 ⟨(by show _ ≤ (817018 : Nat); omega), (by show _ ≤ (6650127 : Nat); omega)⟩) (fun H locs hw => ?_)
                refine lv_aload hM.x hM.b dL_law_816 (lv_at hl 17 rfl) ?_
                refine lv_iload hM.x hM.b dL_law_818 (lv_at hl 2 rfl) ?_
                refine k_ialdN (i := j) (n := nr) hM hw (hT.m 154 (by decide) (by decide)) ((hT.s154)) hjN (by omega) dL_law_820 ?_
                refine lv_icmp_eq (tgt := 844) hM.x hM.b dL_law_821 (by decide) (fun c13 => ?_) (fun c13 => ?_)
                · skip
                  refine lv_iinc (v := nI (j + 1)) (lv' := [(21, .int (nI (j + 1))), (23, .int (gotP β j)), (22, .int (β (14 + 2 * j) 2)), (19, .int (fatP a (j + 1))), (20, .int (0)), (13, .int (dripP β ns)), (16, .int (fatP β nr)), (17, .int (β 1 6)), (18, .int (v)), (0, .ref b), (1, .ref (ad (0))), (2, .ref (ad (91))), (3, .int (nI (t))), (5, .int (nI (ns))), (6, .int (nI (nr))), (7, .ref (ad (136))), (8, .ref (ad (153))), (9, .ref (ad (154))), (10, .ref (ad (155))), (11, .ref (ad (156))), (12, .ref (ad (157))), (14, .ref (ad (158))), (15, .ref (ad (159)))]) hM.x hM.b dL_law_844 hl (k := 2) rfl (nI_1 (j)) (by decide) rfl (fun ls hl => ?_)
                  refine lv_goto (tgt := 559) hM.x hM.b dL_law_847 (by decide) ?_
                  refine W.widen (k := k1 + 16 * (j + 1)) (n := n1 + 96 * (j + 1)) (by omega) (by omega) ?_
                  exact ih (j + 1) (by omega) H locs ls (lv_sub hl [0, 3, 4, 5, 6, 7, 8, 9, 10, 11, 12, 13, 14, 15, 16, 17, 18, 19, 20, 21, 22] rfl) hw kk
                · skip
                  refine lv_aload_n hM.x hM.b dL_law_824 rfl (lv_at hl 10 rfl) ?_
                  refine lv_iload hM.x hM.b dL_law_825 (lv_at hl 2 rfl) ?_
                  refine k_xiK (rd_roast hR hq hjN).2.2.1 hw (k_runXV [.int (nI (j))] [] hM hw (m_X4_sideToFire l ((D, L), cA, ad) θ _ (nI (j)) hlst) (hw.dm kd_0 (by decide)) (sh4 kd_0) rfl (k_gV u_ml_L_146 u_im_X4_sideToFire u_se_X4_sideToFire u_ini_X4 u_co_X4_sideToFire) (q_X4_sideToFire) rfl rfl rfl ⟨(Nat.le_of_ble_eq_true rfl), (Nat.le_of_ble_eq_true rfl)⟩ hl.1 rfl (Nat.le_of_ble_eq_true rfl) dL_law_827 ⟨(by show _ ≤ (817018 : Nat); omega), (by show _ ≤ (6650127 : Nat); omega)⟩) (fun H locs hw => ?_)
                  refine lv_aload hM.x hM.b dL_law_830 (lv_at hl 17 rfl) ?_
                  refine lv_iload hM.x hM.b dL_law_832 (lv_at hl 2 rfl) ?_
                  refine k_ialdN (i := j) (n := nr) hM hw (hT.m 154 (by decide) (by decide)) ((hT.s154)) hjN (by omega) dL_law_834 ?_
                  refine lv_iconst (v := 1) hM.x hM.b dL_law_835 (by decide) ?_
                  refine lv_iadd hM.x hM.b dL_law_836 ?_
                  refine lv_iconst (v := 4) hM.x hM.b dL_law_837 (by decide) ?_
                  refine lv_irem hM.x hM.b dL_law_838 (by decide) ?_
                  refine lv_icmp_eq (tgt := 844) hM.x hM.b dL_law_839 (by decide) (fun _ => ?_) (fun cz => absurd (by rw [t3]; exact (side_c hI hC hA hjN).2.resolve_left (fun z => c13 (by rw [t3]; exact z))) cz)
                  refine lv_iinc (v := nI (j + 1)) (lv' := [(21, .int (nI (j + 1))), (23, .int (gotP β j)), (22, .int (β (14 + 2 * j) 2)), (19, .int (fatP a (j + 1))), (20, .int (0)), (13, .int (dripP β ns)), (16, .int (fatP β nr)), (17, .int (β 1 6)), (18, .int (v)), (0, .ref b), (1, .ref (ad (0))), (2, .ref (ad (91))), (3, .int (nI (t))), (5, .int (nI (ns))), (6, .int (nI (nr))), (7, .ref (ad (136))), (8, .ref (ad (153))), (9, .ref (ad (154))), (10, .ref (ad (155))), (11, .ref (ad (156))), (12, .ref (ad (157))), (14, .ref (ad (158))), (15, .ref (ad (159)))]) hM.x hM.b dL_law_844 hl (k := 2) rfl (nI_1 (j)) (by decide) rfl (fun ls hl => ?_)
                  refine lv_goto (tgt := 559) hM.x hM.b dL_law_847 (by decide) ?_
                  refine W.widen (k := k1 + 16 * (j + 1)) (n := n1 + 96 * (j + 1)) (by omega) (by omega) ?_
                  exact ih (j + 1) (by omega) H locs ls (lv_sub hl [0, 3, 4, 5, 6, 7, 8, 9, 10, 11, 12, 13, 14, 15, 16, 17, 18, 19, 20, 21, 22] rfl) hw kk
              · skip
                refine lv_aload_n hM.x hM.b dL_law_796 rfl (lv_at hl 10 rfl) ?_
                refine lv_iload hM.x hM.b dL_law_797 (lv_at hl 2 rfl) ?_
                refine k_xiK (rd_roast hR hq hjN).2.2.1 hw (k_runXV [.int (nI (j))] [] hM hw (m_X4_sideToFire l ((D, L), cA, ad) θ _ (nI (j)) hlst) (hw.dm kd_0 (by decide)) (sh4 kd_0) rfl (k_gV u_ml_L_146 u_im_X4_sideToFire u_se_X4_sideToFire u_ini_X4 u_co_X4_sideToFire) (q_X4_sideToFire) rfl rfl rfl ⟨(Nat.le_of_ble_eq_true rfl), (Nat.le_of_ble_eq_true rfl)⟩ hl.1 rfl (Nat.le_of_ble_eq_true rfl) dL_law_799 ⟨(by show _ ≤ (817018 : Nat); omega), (by show _ ≤ (6650127 : Nat); omega)⟩) (fun H locs hw => ?_)
                refine lv_aload hM.x hM.b dL_law_802 (lv_at hl 17 rfl) ?_
                refine lv_iload hM.x hM.b dL_law_804 (lv_at hl 2 rfl) ?_
                refine k_ialdN (i := j) (n := nr) hM hw (hT.m 154 (by decide) (by decide)) ((hT.s154)) hjN (by omega) dL_law_806 ?_
                refine lv_icmp_ne (tgt := 842) hM.x hM.b dL_law_807 (by decide) (fun cz => absurd (by rw [t3]; exact (side_c hI hC hA hjN).1 (Int32.not_le.mp c12)) cz) (fun _ => ?_)
                refine lv_aload_n hM.x hM.b dL_law_810 rfl (lv_at hl 10 rfl) ?_
                refine lv_iload hM.x hM.b dL_law_811 (lv_at hl 2 rfl) ?_
                refine k_xiK (rd_roast hR hq hjN).2.2.1 hw (k_runXV [.int (nI (j))] [] hM hw (m_X4_sideToFire l ((D, L), cA, ad) θ _ (nI (j)) hlst) (hw.dm kd_0 (by decide)) (sh4 kd_0) rfl (k_gV u_ml_L_146 u_im_X4_sideToFire u_se_X4_sideToFire u_ini_X4 u_co_X4_sideToFire) (q_X4_sideToFire) rfl rfl rfl ⟨(Nat.le_of_ble_eq_true rfl), (Nat.le_of_ble_eq_true rfl)⟩ hl.1 rfl (Nat.le_of_ble_eq_true rfl) dL_law_813 ⟨(by show _ ≤ (817018 : Nat); omega), (by show _ ≤ (6650127 : Nat); omega)⟩) (fun H locs hw => ?_)
                refine lv_aload hM.x hM.b dL_law_816 (lv_at hl 17 rfl) ?_
                refine lv_iload hM.x hM.b dL_law_818 (lv_at hl 2 rfl) ?_
                refine k_ialdN (i := j) (n := nr) hM hw (hT.m 154 (by decide) (by decide)) ((hT.s154)) hjN (by omega) dL_law_820 ?_
                refine lv_icmp_eq (tgt := 844) hM.x hM.b dL_law_821 (by decide) (fun c14 => ?_) (fun c14 => ?_)
                · skip
                  refine lv_iinc (v := nI (j + 1)) (lv' := [(21, .int (nI (j + 1))), (23, .int (gotP β j)), (22, .int (β (14 + 2 * j) 2)), (19, .int (fatP a (j + 1))), (20, .int (0)), (13, .int (dripP β ns)), (16, .int (fatP β nr)), (17, .int (β 1 6)), (18, .int (v)), (0, .ref b), (1, .ref (ad (0))), (2, .ref (ad (91))), (3, .int (nI (t))), (5, .int (nI (ns))), (6, .int (nI (nr))), (7, .ref (ad (136))), (8, .ref (ad (153))), (9, .ref (ad (154))), (10, .ref (ad (155))), (11, .ref (ad (156))), (12, .ref (ad (157))), (14, .ref (ad (158))), (15, .ref (ad (159)))]) hM.x hM.b dL_law_844 hl (k := 2) rfl (nI_1 (j)) (by decide) rfl (fun ls hl => ?_)
                  refine lv_goto (tgt := 559) hM.x hM.b dL_law_847 (by decide) ?_
                  refine W.widen (k := k1 + 16 * (j + 1)) (n := n1 + 96 * (j + 1)) (by omega) (by omega) ?_
                  exact ih (j + 1) (by omega) H locs ls (lv_sub hl [0, 3, 4, 5, 6, 7, 8, 9, 10, 11, 12, 13, 14, 15, 16, 17, 18, 19, 20, 21, 22] rfl) hw kk
                · skip
                  refine lv_aload_n hM.x hM.b dL_law_824 rfl (lv_at hl 10 rfl) ?_
                  refine lv_iload hM.x hM.b dL_law_825 (lv_at hl 2 rfl) ?_
                  refine k_xiK (rd_roast hR hq hjN).2.2.1 hw (k_runXV [.int (nI (j))] [] hM hw (m_X4_sideToFire l ((D, L), cA, ad) θ _ (nI (j)) hlst) (hw.dm kd_0 (by decide)) (sh4 kd_0) rfl (k_gV u_ml_L_146 u_im_X4_sideToFire u_se_X4_sideToFire u_ini_X4 u_co_X4_sideToFire) (q_X4_sideToFire) rfl rfl rfl ⟨(Nat.le_of_ble_eq_true rfl), (Nat.le_of_ble_eq_true rfl)⟩ hl.1 rfl (Nat.le_of_ble_eq_true rfl) dL_law_827 ⟨(by show _ ≤ (817018 : Nat); omega), (by show _ ≤ (6650127 : Nat); omega)⟩) (fun H locs hw => ?_)
                  refine lv_aload hM.x hM.b dL_law_830 (lv_at hl 17 rfl) ?_
                  refine lv_iload hM.x hM.b dL_law_832 (lv_at hl 2 rfl) ?_
                  refine k_ialdN (i := j) (n := nr) hM hw (hT.m 154 (by decide) (by decide)) ((hT.s154)) hjN (by omega) dL_law_834 ?_
                  refine lv_iconst (v := 1) hM.x hM.b dL_law_835 (by decide) ?_
                  refine lv_iadd hM.x hM.b dL_law_836 ?_
                  refine lv_iconst (v := 4) hM.x hM.b dL_law_837 (by decide) ?_
                  refine lv_irem hM.x hM.b dL_law_838 (by decide) ?_
                  refine lv_icmp_eq (tgt := 844) hM.x hM.b dL_law_839 (by decide) (fun _ => ?_) (fun cz => absurd (by rw [t3]; exact (side_c hI hC hA hjN).2.resolve_left (fun z => c14 (by rw [t3]; exact z))) cz)
                  refine lv_iinc (v := nI (j + 1)) (lv' := [(21, .int (nI (j + 1))), (23, .int (gotP β j)), (22, .int (β (14 + 2 * j) 2)), (19, .int (fatP a (j + 1))), (20, .int (0)), (13, .int (dripP β ns)), (16, .int (fatP β nr)), (17, .int (β 1 6)), (18, .int (v)), (0, .ref b), (1, .ref (ad (0))), (2, .ref (ad (91))), (3, .int (nI (t))), (5, .int (nI (ns))), (6, .int (nI (nr))), (7, .ref (ad (136))), (8, .ref (ad (153))), (9, .ref (ad (154))), (10, .ref (ad (155))), (11, .ref (ad (156))), (12, .ref (ad (157))), (14, .ref (ad (158))), (15, .ref (ad (159)))]) hM.x hM.b dL_law_844 hl (k := 2) rfl (nI_1 (j)) (by decide) rfl (fun ls hl => ?_)
                  refine lv_goto (tgt := 559) hM.x hM.b dL_law_847 (by decide) ?_
                  refine W.widen (k := k1 + 16 * (j + 1)) (n := n1 + 96 * (j + 1)) (by omega) (by omega) ?_
                  exact ih (j + 1) (by omega) H locs ls (lv_sub hl [0, 3, 4, 5, 6, 7, 8, 9, 10, 11, 12, 13, 14, 15, 16, 17, 18, 19, 20, 21, 22] rfl) hw kk
            · skip
              refine lv_aload_n hM.x hM.b dL_law_780 rfl (lv_at hl 10 rfl) ?_
              refine lv_iload hM.x hM.b dL_law_781 (lv_at hl 2 rfl) ?_
              refine k_xiK (rd_roast hR hq hjN).2.2.2.2.2.2.2 hw (k_runXV [.int (nI (j))] [] hM hw (m_X4_isBurnt l ((D, L), cA, ad) θ _ (nI (j)) hlst) (hw.dm kd_0 (by decide)) (sh4 kd_0) rfl (k_gV u_ml_L_152 u_im_X4_isBurnt u_se_X4_isBurnt u_ini_X4 u_co_X4_isBurnt) (q_X4_isBurnt) rfl rfl rfl ⟨(Nat.le_of_ble_eq_true rfl), (Nat.le_of_ble_eq_true rfl)⟩ hl.1 rfl (Nat.le_of_ble_eq_true rfl) dL_law_783 ⟨(by show _ ≤ (817018 : Nat); omega), (by show _ ≤ (6650127 : Nat); omega)⟩) (fun H locs hw => ?_)
              refine lv_if_ne (tgt := 791) hM.x hM.b dL_law_786 (by decide) (fun _ => ?_) (fun cz => absurd cz (by rw [burnt_c hI hC hA hjN (bi_ne (fun z => c11 (tb.trans z)))]; exact bi_t))
              refine lv_iload hM.x hM.b dL_law_791 (lv_at hl 1 rfl) ?_
              refine lv_if_ge (tgt := 810) hM.x hM.b dL_law_793 (by decide) (fun c15 => ?_) (fun c15 => ?_)
              · skip
                refine lv_aload_n hM.x hM.b dL_law_810 rfl (lv_at hl 10 rfl) ?_
                refine lv_iload hM.x hM.b dL_law_811 (lv_at hl 2 rfl) ?_
                refine k_xiK (rd_roast hR hq hjN).2.2.1 hw (k_runXV [.int (nI (j))] [] hM hw (m_X4_sideToFire l ((D, L), cA, ad) θ _ (nI (j)) hlst) (hw.dm kd_0 (by decide)) (sh4 kd_0) rfl (k_gV u_ml_L_146 u_im_X4_sideToFire u_se_X4_sideToFire u_ini_X4 u_co_X4_sideToFire) (q_X4_sideToFire) rfl rfl rfl ⟨(Nat.le_of_ble_eq_true rfl), (Nat.le_of_ble_eq_true rfl)⟩ hl.1 rfl (Nat.le_of_ble_eq_true rfl) dL_law_813 ⟨(by show _ ≤ (817018 : Nat); omega), (by show _ ≤ (6650127 : Nat); omega)⟩) (fun H locs hw => ?_)
                refine lv_aload hM.x hM.b dL_law_816 (lv_at hl 17 rfl) ?_
                refine lv_iload hM.x hM.b dL_law_818 (lv_at hl 2 rfl) ?_
                refine k_ialdN (i := j) (n := nr) hM hw (hT.m 154 (by decide) (by decide)) ((hT.s154)) hjN (by omega) dL_law_820 ?_
                refine lv_icmp_eq (tgt := 844) hM.x hM.b dL_law_821 (by decide) (fun c16 => ?_) (fun c16 => ?_)
                · skip
                  refine lv_iinc (v := nI (j + 1)) (lv' := [(21, .int (nI (j + 1))), (23, .int (gotP β j)), (22, .int (β (14 + 2 * j) 2)), (19, .int (fatP a (j + 1))), (20, .int (0)), (13, .int (dripP β ns)), (16, .int (fatP β nr)), (17, .int (β 1 6)), (18, .int (v)), (0, .ref b), (1, .ref (ad (0))), (2, .ref (ad (91))), (3, .int (nI (t))), (5, .int (nI (ns))), (6, .int (nI (nr))), (7, .ref (ad (136))), (8, .ref (ad (153))), (9, .ref (ad (154))), (10, .ref (ad (155))), (11, .ref (ad (156))), (12, .ref (ad (157))), (14, .ref (ad (158))), (15, .ref (ad (159)))]) hM.x hM.b dL_law_844 hl (k := 2) rfl (nI_1 (j)) (by decide) rfl (fun ls hl => ?_)
                  refine lv_goto (tgt := 559) hM.x hM.b dL_law_847 (by decide) ?_
                  refine W.widen (k := k1 + 16 * (j + 1)) (n := n1 + 96 * (j + 1)) (by omega) (by omega) ?_
                  exact ih (j + 1) (by omega) H locs ls (lv_sub hl [0, 3, 4, 5, 6, 7, 8, 9, 10, 11, 12, 13, 14, 15, 16, 17, 18, 19, 20, 21, 22] rfl) hw kk
                · skip
                  refine lv_aload_n hM.x hM.b dL_law_824 rfl (lv_at hl 10 rfl) ?_
                  refine lv_iload hM.x hM.b dL_law_825 (lv_at hl 2 rfl) ?_
                  refine k_xiK (rd_roast hR hq hjN).2.2.1 hw (k_runXV [.int (nI (j))] [] hM hw (m_X4_sideToFire l ((D, L), cA, ad) θ _ (nI (j)) hlst) (hw.dm kd_0 (by decide)) (sh4 kd_0) rfl (k_gV u_ml_L_146 u_im_X4_sideToFire u_se_X4_sideToFire u_ini_X4 u_co_X4_sideToFire) (q_X4_sideToFire) rfl rfl rfl ⟨(Nat.le_of_ble_eq_true rfl), (Nat.le_of_ble_eq_true rfl)⟩ hl.1 rfl (Nat.le_of_ble_eq_true rfl) dL_law_827 ⟨(by show _ ≤ (817018 : Nat); omega), (by show _ ≤ (6650127 : Nat); omega)⟩) (fun H locs hw => ?_)
                  refine lv_aload hM.x hM.b dL_law_830 (lv_at hl 17 rfl) ?_
                  refine lv_iload hM.x hM.b dL_law_832 (lv_at hl 2 rfl) ?_
                  refine k_ialdN (i := j) (n := nr) hM hw (hT.m 154 (by decide) (by decide)) ((hT.s154)) hjN (by omega) dL_law_834 ?_
                  refine lv_iconst (v := 1) hM.x hM.b dL_law_835 (by decide) ?_
                  refine lv_iadd hM.x hM.b dL_law_836 ?_
                  refine lv_iconst (v := 4) hM.x hM.b dL_law_837 (by decide) ?_
                  refine lv_irem hM.x hM.b dL_law_838 (by decide) ?_
                  refine lv_icmp_eq (tgt := 844) hM.x hM.b dL_law_839 (by decide) (fun _ => ?_) (fun cz => absurd (by rw [t3]; exact (side_c hI hC hA hjN).2.resolve_left (fun z => c16 (by rw [t3]; exact z))) cz)
                  refine lv_iinc (v := nI (j + 1)) (lv' := [(21, .int (nI (j + 1))), (23, .int (gotP β j)), (22, .int (β (14 + 2 * j) 2)), (19, .int (fatP a (j + 1))), (20, .int (0)), (13, .int (dripP β ns)), (16, .int (fatP β nr)), (17, .int (β 1 6)), (18, .int (v)), (0, .ref b), (1, .ref (ad (0))), (2, .ref (ad (91))), (3, .int (nI (t))), (5, .int (nI (ns))), (6, .int (nI (nr))), (7, .ref (ad (136))), (8, .ref (ad (153))), (9, .ref (ad (154))), (10, .ref (ad (155))), (11, .ref (ad (156))), (12, .ref (ad (157))), (14, .ref (ad (158))), (15, .ref (ad (159)))]) hM.x hM.b dL_law_844 hl (k := 2) rfl (nI_1 (j)) (by decide) rfl (fun ls hl => ?_)
                  refine lv_goto (tgt := 559) hM.x hM.b dL_law_847 (by decide) ?_
                  refine W.widen (k := k1 + 16 * (j + 1)) (n := n1 + 96 * (j + 1)) (by omega) (by omega) ?_
                  exact ih (j + 1) (by omega) H locs ls (lv_sub hl [0, 3, 4, 5, 6, 7, 8, 9, 10, 11, 12, 13, 14, 15, 16, 17, 18, 19, 20, 21, 22] rfl) hw kk
              · skip
                refine lv_aload_n hM.x hM.b dL_law_796 rfl (lv_at hl 10 rfl) ?_
                refine lv_iload hM.x hM.b dL_law_797 (lv_at hl 2 rfl) ?_
                refine k_xiK (rd_roast hR hq hjN).2.2.1 hw (k_runXV [.int (nI (j))] [] hM hw (m_X4_sideToFire l ((D, L), cA, ad) θ _ (nI (j)) hlst) (hw.dm kd_0 (by decide)) (sh4 kd_0) rfl (k_gV u_ml_L_146 u_im_X4_sideToFire u_se_X4_sideToFire u_ini_X4 u_co_X4_sideToFire) (q_X4_sideToFire) rfl rfl rfl ⟨(Nat.le_of_ble_eq_true rfl), (Nat.le_of_ble_eq_true rfl)⟩ hl.1 rfl (Nat.le_of_ble_eq_true rfl) dL_law_799 ⟨(by show _ ≤ (817018 : Nat); omega), (by show _ ≤ (6650127 : Nat); omega)⟩) (fun H locs hw => ?_)
                refine lv_aload hM.x hM.b dL_law_802 (lv_at hl 17 rfl) ?_
                refine lv_iload hM.x hM.b dL_law_804 (lv_at hl 2 rfl) ?_
                refine k_ialdN (i := j) (n := nr) hM hw (hT.m 154 (by decide) (by decide)) ((hT.s154)) hjN (by omega) dL_law_806 ?_
                refine lv_icmp_ne (tgt := 842) hM.x hM.b dL_law_807 (by decide) (fun cz => absurd (by rw [t3]; exact (side_c hI hC hA hjN).1 (Int32.not_le.mp c15)) cz) (fun _ => ?_)
                refine lv_aload_n hM.x hM.b dL_law_810 rfl (lv_at hl 10 rfl) ?_
                refine lv_iload hM.x hM.b dL_law_811 (lv_at hl 2 rfl) ?_
                refine k_xiK (rd_roast hR hq hjN).2.2.1 hw (k_runXV [.int (nI (j))] [] hM hw (m_X4_sideToFire l ((D, L), cA, ad) θ _ (nI (j)) hlst) (hw.dm kd_0 (by decide)) (sh4 kd_0) rfl (k_gV u_ml_L_146 u_im_X4_sideToFire u_se_X4_sideToFire u_ini_X4 u_co_X4_sideToFire) (q_X4_sideToFire) rfl rfl rfl ⟨(Nat.le_of_ble_eq_true rfl), (Nat.le_of_ble_eq_true rfl)⟩ hl.1 rfl (Nat.le_of_ble_eq_true rfl) dL_law_813 ⟨(by show _ ≤ (817018 : Nat); omega), (by show _ ≤ (6650127 : Nat); omega)⟩) (fun H locs hw => ?_)
                refine lv_aload hM.x hM.b dL_law_816 (lv_at hl 17 rfl) ?_
                refine lv_iload hM.x hM.b dL_law_818 (lv_at hl 2 rfl) ?_
                refine k_ialdN (i := j) (n := nr) hM hw (hT.m 154 (by decide) (by decide)) ((hT.s154)) hjN (by omega) dL_law_820 ?_
                refine lv_icmp_eq (tgt := 844) hM.x hM.b dL_law_821 (by decide) (fun c17 => ?_) (fun c17 => ?_)
                · skip
                  refine lv_iinc (v := nI (j + 1)) (lv' := [(21, .int (nI (j + 1))), (23, .int (gotP β j)), (22, .int (β (14 + 2 * j) 2)), (19, .int (fatP a (j + 1))), (20, .int (0)), (13, .int (dripP β ns)), (16, .int (fatP β nr)), (17, .int (β 1 6)), (18, .int (v)), (0, .ref b), (1, .ref (ad (0))), (2, .ref (ad (91))), (3, .int (nI (t))), (5, .int (nI (ns))), (6, .int (nI (nr))), (7, .ref (ad (136))), (8, .ref (ad (153))), (9, .ref (ad (154))), (10, .ref (ad (155))), (11, .ref (ad (156))), (12, .ref (ad (157))), (14, .ref (ad (158))), (15, .ref (ad (159)))]) hM.x hM.b dL_law_844 hl (k := 2) rfl (nI_1 (j)) (by decide) rfl (fun ls hl => ?_)
                  refine lv_goto (tgt := 559) hM.x hM.b dL_law_847 (by decide) ?_
                  refine W.widen (k := k1 + 16 * (j + 1)) (n := n1 + 96 * (j + 1)) (by omega) (by omega) ?_
                  exact ih (j + 1) (by omega) H locs ls (lv_sub hl [0, 3, 4, 5, 6, 7, 8, 9, 10, 11, 12, 13, 14, 15, 16, 17, 18, 19, 20, 21, 22] rfl) hw kk
                · skip
                  refine lv_aload_n hM.x hM.b dL_law_824 rfl (lv_at hl 10 rfl) ?_
                  refine lv_iload hM.x hM.b dL_law_825 (lv_at hl 2 rfl) ?_
                  refine k_xiK (rd_roast hR hq hjN).2.2.1 hw (k_runXV [.int (nI (j))] [] hM hw (m_X4_sideToFire l ((D, L), cA, ad) θ _ (nI (j)) hlst) (hw.dm kd_0 (by decide)) (sh4 kd_0) rfl (k_gV u_ml_L_146 u_im_X4_sideToFire u_se_X4_sideToFire u_ini_X4 u_co_X4_sideToFire) (q_X4_sideToFire) rfl rfl rfl ⟨(Nat.le_of_ble_eq_true rfl), (Nat.le_of_ble_eq_true rfl)⟩ hl.1 rfl (Nat.le_of_ble_eq_true rfl) dL_law_827 ⟨(by show _ ≤ (817018 : Nat); omega), (by show _ ≤ (6650127 : Nat); omega)⟩) (fun H locs hw => ?_)
                  refine lv_aload hM.x hM.b dL_law_830 (lv_at hl 17 rfl) ?_
                  refine lv_iload hM.x hM.b dL_law_832 (lv_at hl 2 rfl) ?_
                  refine k_ialdN (i := j) (n := nr) hM hw (hT.m 154 (by decide) (by decide)) ((hT.s154)) hjN (by omega) dL_law_834 ?_
                  refine lv_iconst (v := 1) hM.x hM.b dL_law_835 (by decide) ?_
                  refine lv_iadd hM.x hM.b dL_law_836 ?_
                  refine lv_iconst (v := 4) hM.x hM.b dL_law_837 (by decide) ?_
                  refine lv_irem hM.x hM.b dL_law_838 (by decide) ?_
                  refine lv_icmp_eq (tgt := 844) hM.x hM.b dL_law_839 (by decide) (fun _ => ?_) (fun cz => absurd (by rw [t3]; exact (side_c hI hC hA hjN).2.resolve_left (fun z => c17 (by rw [t3]; exact z))) cz)
                  refine lv_iinc (v := nI (j + 1)) (lv' := [(21, .int (nI (j + 1))), (23, .int (gotP β j)), (22, .int (β (14 + 2 * j) 2)), (19, .int (fatP a (j + 1))), (20, .int (0)), (13, .int (dripP β ns)), (16, .int (fatP β nr)), (17, .int (β 1 6)), (18, .int (v)), (0, .ref b), (1, .ref (ad (0))), (2, .ref (ad (91))), (3, .int (nI (t))), (5, .int (nI (ns))), (6, .int (nI (nr))), (7, .ref (ad (136))), (8, .ref (ad (153))), (9, .ref (ad (154))), (10, .ref (ad (155))), (11, .ref (ad (156))), (12, .ref (ad (157))), (14, .ref (ad (158))), (15, .ref (ad (159)))]) hM.x hM.b dL_law_844 hl (k := 2) rfl (nI_1 (j)) (by decide) rfl (fun ls hl => ?_)
                  refine lv_goto (tgt := 559) hM.x hM.b dL_law_847 (by decide) ?_
                  refine W.widen (k := k1 + 16 * (j + 1)) (n := n1 + 96 * (j + 1)) (by omega) (by omega) ?_
                  exact ih (j + 1) (by omega) H locs ls (lv_sub hl [0, 3, 4, 5, 6, 7, 8, 9, 10, 11, 12, 13, 14, 15, 16, 17, 18, 19, 20, 21, 22] rfl) hw kk
          · skip
            refine lv_aload hM.x hM.b dL_law_754 (lv_at hl 18 rfl) ?_
            refine lv_iload hM.x hM.b dL_law_756 (lv_at hl 2 rfl) ?_
            refine k_ialdN (i := j) (n := nr) hM hw (hT.m 155 (by decide) (by decide)) ((hT.s155)) hjN (by omega) dL_law_758 ?_
            refine lv_iconst (v := 1) hM.x hM.b dL_law_759 (by decide) ?_
            refine lv_isub hM.x hM.b dL_law_760 ?_
            refine lv_goto (tgt := 769) hM.x hM.b dL_law_761 (by decide) ?_
            refine lv_icmp_ne (tgt := 789) hM.x hM.b dL_law_769 (by decide) (fun cz => absurd (by rw [t5]; exact wet_c1 hI hC hA hjN c2 (by rw [← t5]; exact c10)) cz) (fun _ => ?_)
            refine lv_aload hM.x hM.b dL_law_772 (lv_at hl 19 rfl) ?_
            refine lv_iload hM.x hM.b dL_law_774 (lv_at hl 2 rfl) ?_
            refine k_zald (n := nr) hM hw (hT.m 156 (by decide) (by decide)) hT.s156 (vp_in_nI hjN (by omega)) dL_law_776 ?_
            rw [nI_clamp (by omega)]
            refine lv_if_eq (tgt := 791) hM.x hM.b dL_law_777 (by decide) (fun c18 => ?_) (fun c18 => ?_)
            · skip
              refine lv_iload hM.x hM.b dL_law_791 (lv_at hl 1 rfl) ?_
              refine lv_if_ge (tgt := 810) hM.x hM.b dL_law_793 (by decide) (fun c19 => ?_) (fun c19 => ?_)
              · skip
                refine lv_aload_n hM.x hM.b dL_law_810 rfl (lv_at hl 10 rfl) ?_
                refine lv_iload hM.x hM.b dL_law_811 (lv_at hl 2 rfl) ?_
                refine k_xiK (rd_roast hR hq hjN).2.2.1 hw (k_runXV [.int (nI (j))] [] hM hw (m_X4_sideToFire l ((D, L), cA, ad) θ _ (nI (j)) hlst) (hw.dm kd_0 (by decide)) (sh4 kd_0) rfl (k_gV u_ml_L_146 u_im_X4_sideToFire u_se_X4_sideToFire u_ini_X4 u_co_X4_sideToFire) (q_X4_sideToFire) rfl rfl rfl ⟨(Nat.le_of_ble_eq_true rfl), (Nat.le_of_ble_eq_true rfl)⟩ hl.1 rfl (Nat.le_of_ble_eq_true rfl) dL_law_813 ⟨(by show _ ≤ (817018 : Nat); omega), (by show _ ≤ (6650127 : Nat); omega)⟩) (fun H locs hw => ?_)
                refine lv_aload hM.x hM.b dL_law_816 (lv_at hl 17 rfl) ?_
                refine lv_iload hM.x hM.b dL_law_818 (lv_at hl 2 rfl) ?_
                refine k_ialdN (i := j) (n := nr) hM hw (hT.m 154 (by decide) (by decide)) ((hT.s154)) hjN (by omega) dL_law_820 ?_
                refine lv_icmp_eq (tgt := 844) hM.x hM.b dL_law_821 (by decide) (fun c20 => ?_) (fun c20 => ?_)
                · skip
                  refine lv_iinc (v := nI (j + 1)) (lv' := [(21, .int (nI (j + 1))), (23, .int (gotP β j)), (22, .int (β (14 + 2 * j) 2)), (19, .int (fatP a (j + 1))), (20, .int (0)), (13, .int (dripP β ns)), (16, .int (fatP β nr)), (17, .int (β 1 6)), (18, .int (v)), (0, .ref b), (1, .ref (ad (0))), (2, .ref (ad (91))), (3, .int (nI (t))), (5, .int (nI (ns))), (6, .int (nI (nr))), (7, .ref (ad (136))), (8, .ref (ad (153))), (9, .ref (ad (154))), (10, .ref (ad (155))), (11, .ref (ad (156))), (12, .ref (ad (157))), (14, .ref (ad (158))), (15, .ref (ad (159)))]) hM.x hM.b dL_law_844 hl (k := 2) rfl (nI_1 (j)) (by decide) rfl (fun ls hl => ?_)
                  refine lv_goto (tgt := 559) hM.x hM.b dL_law_847 (by decide) ?_
                  refine W.widen (k := k1 + 16 * (j + 1)) (n := n1 + 96 * (j + 1)) (by omega) (by omega) ?_
                  exact ih (j + 1) (by omega) H locs ls (lv_sub hl [0, 3, 4, 5, 6, 7, 8, 9, 10, 11, 12, 13, 14, 15, 16, 17, 18, 19, 20, 21, 22] rfl) hw kk
                · skip
                  refine lv_aload_n hM.x hM.b dL_law_824 rfl (lv_at hl 10 rfl) ?_
                  refine lv_iload hM.x hM.b dL_law_825 (lv_at hl 2 rfl) ?_
                  refine k_xiK (rd_roast hR hq hjN).2.2.1 hw (k_runXV [.int (nI (j))] [] hM hw (m_X4_sideToFire l ((D, L), cA, ad) θ _ (nI (j)) hlst) (hw.dm kd_0 (by decide)) (sh4 kd_0) rfl (k_gV u_ml_L_146 u_im_X4_sideToFire u_se_X4_sideToFire u_ini_X4 u_co_X4_sideToFire) (q_X4_sideToFire) rfl rfl rfl ⟨(Nat.le_of_ble_eq_true rfl), (Nat.le_of_ble_eq_true rfl)⟩ hl.1 rfl (Nat.le_of_ble_eq_true rfl) dL_law_827 ⟨(by show _ ≤ (817018 : Nat); omega), (by show _ ≤ (6650127 : Nat); omega)⟩) (fun H locs hw => ?_)
                  refine lv_aload hM.x hM.b dL_law_830 (lv_at hl 17 rfl) ?_
                  refine lv_iload hM.x hM.b dL_law_832 (lv_at hl 2 rfl) ?_
                  refine k_ialdN (i := j) (n := nr) hM hw (hT.m 154 (by decide) (by decide)) ((hT.s154)) hjN (by omega) dL_law_834 ?_
                  refine lv_iconst (v := 1) hM.x hM.b dL_law_835 (by decide) ?_
                  refine lv_iadd hM.x hM.b dL_law_836 ?_
                  refine lv_iconst (v := 4) hM.x hM.b dL_law_837 (by decide) ?_
                  refine lv_irem hM.x hM.b dL_law_838 (by decide) ?_
                  refine lv_icmp_eq (tgt := 844) hM.x hM.b dL_law_839 (by decide) (fun _ => ?_) (fun cz => absurd (by rw [t3]; exact (side_c hI hC hA hjN).2.resolve_left (fun z => c20 (by rw [t3]; exact z))) cz)
                  refine lv_iinc (v := nI (j + 1)) (lv' := [(21, .int (nI (j + 1))), (23, .int (gotP β j)), (22, .int (β (14 + 2 * j) 2)), (19, .int (fatP a (j + 1))), (20, .int (0)), (13, .int (dripP β ns)), (16, .int (fatP β nr)), (17, .int (β 1 6)), (18, .int (v)), (0, .ref b), (1, .ref (ad (0))), (2, .ref (ad (91))), (3, .int (nI (t))), (5, .int (nI (ns))), (6, .int (nI (nr))), (7, .ref (ad (136))), (8, .ref (ad (153))), (9, .ref (ad (154))), (10, .ref (ad (155))), (11, .ref (ad (156))), (12, .ref (ad (157))), (14, .ref (ad (158))), (15, .ref (ad (159)))]) hM.x hM.b dL_law_844 hl (k := 2) rfl (nI_1 (j)) (by decide) rfl (fun ls hl => ?_)
                  refine lv_goto (tgt := 559) hM.x hM.b dL_law_847 (by decide) ?_
                  refine W.widen (k := k1 + 16 * (j + 1)) (n := n1 + 96 * (j + 1)) (by omega) (by omega) ?_
                  exact ih (j + 1) (by omega) H locs ls (lv_sub hl [0, 3, 4, 5, 6, 7, 8, 9, 10, 11, 12, 13, 14, 15, 16, 17, 18, 19, 20, 21, 22] rfl) hw kk
              · skip
                refine lv_aload_n hM.x hM.b dL_law_796 rfl (lv_at hl 10 rfl) ?_
                refine lv_iload hM.x hM.b dL_law_797 (lv_at hl 2 rfl) ?_
                refine k_xiK (rd_roast hR hq hjN).2.2.1 hw (k_runXV [.int (nI (j))] [] hM hw (m_X4_sideToFire l ((D, L), cA, ad) θ _ (nI (j)) hlst) (hw.dm kd_0 (by decide)) (sh4 kd_0) rfl (k_gV u_ml_L_146 u_im_X4_sideToFire u_se_X4_sideToFire u_ini_X4 u_co_X4_sideToFire) (q_X4_sideToFire) rfl rfl rfl ⟨(Nat.le_of_ble_eq_true rfl), (Nat.le_of_ble_eq_true rfl)⟩ hl.1 rfl (Nat.le_of_ble_eq_true rfl) dL_law_799 ⟨(by show _ ≤ (817018 : Nat); omega), (by show _ ≤ (6650127 : Nat); omega)⟩) (fun H locs hw => ?_)
                refine lv_aload hM.x hM.b dL_law_802 (lv_at hl 17 rfl) ?_
                refine lv_iload hM.x hM.b dL_law_804 (lv_at hl 2 rfl) ?_
                refine k_ialdN (i := j) (n := nr) hM hw (hT.m 154 (by decide) (by decide)) ((hT.s154)) hjN (by omega) dL_law_806 ?_
                refine lv_icmp_ne (tgt := 842) hM.x hM.b dL_law_807 (by decide) (fun cz => absurd (by rw [t3]; exact (side_c hI hC hA hjN).1 (Int32.not_le.mp c19)) cz) (fun _ => ?_)
                refine lv_aload_n hM.x hM.b dL_law_810 rfl (lv_at hl 10 rfl) ?_
                refine lv_iload hM.x hM.b dL_law_811 (lv_at hl 2 rfl) ?_
                refine k_xiK (rd_roast hR hq hjN).2.2.1 hw (k_runXV [.int (nI (j))] [] hM hw (m_X4_sideToFire l ((D, L), cA, ad) θ _ (nI (j)) hlst) (hw.dm kd_0 (by decide)) (sh4 kd_0) rfl (k_gV u_ml_L_146 u_im_X4_sideToFire u_se_X4_sideToFire u_ini_X4 u_co_X4_sideToFire) (q_X4_sideToFire) rfl rfl rfl ⟨(Nat.le_of_ble_eq_true rfl), (Nat.le_of_ble_eq_true rfl)⟩ hl.1 rfl (Nat.le_of_ble_eq_true rfl) dL_law_813 ⟨(by show _ ≤ (817018 : Nat); omega), (by show _ ≤ (6650127 : Nat); omega)⟩) (fun H locs hw => ?_)
                refine lv_aload hM.x hM.b dL_law_816 (lv_at hl 17 rfl) ?_
                refine lv_iload hM.x hM.b dL_law_818 (lv_at hl 2 rfl) ?_
                refine k_ialdN (i := j) (n := nr) hM hw (hT.m 154 (by decide) (by decide)) ((hT.s154)) hjN (by omega) dL_law_820 ?_
                refine lv_icmp_eq (tgt := 844) hM.x hM.b dL_law_821 (by decide) (fun c21 => ?_) (fun c21 => ?_)
                · skip
                  refine lv_iinc (v := nI (j + 1)) (lv' := [(21, .int (nI (j + 1))), (23, .int (gotP β j)), (22, .int (β (14 + 2 * j) 2)), (19, .int (fatP a (j + 1))), (20, .int (0)), (13, .int (dripP β ns)), (16, .int (fatP β nr)), (17, .int (β 1 6)), (18, .int (v)), (0, .ref b), (1, .ref (ad (0))), (2, .ref (ad (91))), (3, .int (nI (t))), (5, .int (nI (ns))), (6, .int (nI (nr))), (7, .ref (ad (136))), (8, .ref (ad (153))), (9, .ref (ad (154))), (10, .ref (ad (155))), (11, .ref (ad (156))), (12, .ref (ad (157))), (14, .ref (ad (158))), (15, .ref (ad (159)))]) hM.x hM.b dL_law_844 hl (k := 2) rfl (nI_1 (j)) (by decide) rfl (fun ls hl => ?_)
                  refine lv_goto (tgt := 559) hM.x hM.b dL_law_847 (by decide) ?_
                  refine W.widen (k := k1 + 16 * (j + 1)) (n := n1 + 96 * (j + 1)) (by omega) (by omega) ?_
                  exact ih (j + 1) (by omega) H locs ls (lv_sub hl [0, 3, 4, 5, 6, 7, 8, 9, 10, 11, 12, 13, 14, 15, 16, 17, 18, 19, 20, 21, 22] rfl) hw kk
                · skip
                  refine lv_aload_n hM.x hM.b dL_law_824 rfl (lv_at hl 10 rfl) ?_
                  refine lv_iload hM.x hM.b dL_law_825 (lv_at hl 2 rfl) ?_
                  refine k_xiK (rd_roast hR hq hjN).2.2.1 hw (k_runXV [.int (nI (j))] [] hM hw (m_X4_sideToFire l ((D, L), cA, ad) θ _ (nI (j)) hlst) (hw.dm kd_0 (by decide)) (sh4 kd_0) rfl (k_gV u_ml_L_146 u_im_X4_sideToFire u_se_X4_sideToFire u_ini_X4 u_co_X4_sideToFire) (q_X4_sideToFire) rfl rfl rfl ⟨(Nat.le_of_ble_eq_true rfl), (Nat.le_of_ble_eq_true rfl)⟩ hl.1 rfl (Nat.le_of_ble_eq_true rfl) dL_law_827 ⟨(by show _ ≤ (817018 : Nat); omega), (by show _ ≤ (6650127 : Nat); omega)⟩) (fun H locs hw => ?_)
                  refine lv_aload hM.x hM.b dL_law_830 (lv_at hl 17 rfl) ?_
                  refine lv_iload hM.x hM.b dL_law_832 (lv_at hl 2 rfl) ?_
                  refine k_ialdN (i := j) (n := nr) hM hw (hT.m 154 (by decide) (by decide)) ((hT.s154)) hjN (by omega) dL_law_834 ?_
                  refine lv_iconst (v := 1) hM.x hM.b dL_law_835 (by decide) ?_
                  refine lv_iadd hM.x hM.b dL_law_836 ?_
                  refine lv_iconst (v := 4) hM.x hM.b dL_law_837 (by decide) ?_
                  refine lv_irem hM.x hM.b dL_law_838 (by decide) ?_
                  refine lv_icmp_eq (tgt := 844) hM.x hM.b dL_law_839 (by decide) (fun _ => ?_) (fun cz => absurd (by rw [t3]; exact (side_c hI hC hA hjN).2.resolve_left (fun z => c21 (by rw [t3]; exact z))) cz)
                  refine lv_iinc (v := nI (j + 1)) (lv' := [(21, .int (nI (j + 1))), (23, .int (gotP β j)), (22, .int (β (14 + 2 * j) 2)), (19, .int (fatP a (j + 1))), (20, .int (0)), (13, .int (dripP β ns)), (16, .int (fatP β nr)), (17, .int (β 1 6)), (18, .int (v)), (0, .ref b), (1, .ref (ad (0))), (2, .ref (ad (91))), (3, .int (nI (t))), (5, .int (nI (ns))), (6, .int (nI (nr))), (7, .ref (ad (136))), (8, .ref (ad (153))), (9, .ref (ad (154))), (10, .ref (ad (155))), (11, .ref (ad (156))), (12, .ref (ad (157))), (14, .ref (ad (158))), (15, .ref (ad (159)))]) hM.x hM.b dL_law_844 hl (k := 2) rfl (nI_1 (j)) (by decide) rfl (fun ls hl => ?_)
                  refine lv_goto (tgt := 559) hM.x hM.b dL_law_847 (by decide) ?_
                  refine W.widen (k := k1 + 16 * (j + 1)) (n := n1 + 96 * (j + 1)) (by omega) (by omega) ?_
                  exact ih (j + 1) (by omega) H locs ls (lv_sub hl [0, 3, 4, 5, 6, 7, 8, 9, 10, 11, 12, 13, 14, 15, 16, 17, 18, 19, 20, 21, 22] rfl) hw kk
            · skip
              refine lv_aload_n hM.x hM.b dL_law_780 rfl (lv_at hl 10 rfl) ?_
              refine lv_iload hM.x hM.b dL_law_781 (lv_at hl 2 rfl) ?_
              refine k_xiK (rd_roast hR hq hjN).2.2.2.2.2.2.2 hw (k_runXV [.int (nI (j))] [] hM hw (m_X4_isBurnt l ((D, L), cA, ad) θ _ (nI (j)) hlst) (hw.dm kd_0 (by decide)) (sh4 kd_0) rfl (k_gV u_ml_L_152 u_im_X4_isBurnt u_se_X4_isBurnt u_ini_X4 u_co_X4_isBurnt) (q_X4_isBurnt) rfl rfl rfl ⟨(Nat.le_of_ble_eq_true rfl), (Nat.le_of_ble_eq_true rfl)⟩ hl.1 rfl (Nat.le_of_ble_eq_true rfl) dL_law_783 ⟨(by show _ ≤ (817018 : Nat); omega), (by show _ ≤ (6650127 : Nat); omega)⟩) (fun H locs hw => ?_)
              refine lv_if_ne (tgt := 791) hM.x hM.b dL_law_786 (by decide) (fun _ => ?_) (fun cz => absurd cz (by rw [burnt_c hI hC hA hjN (bi_ne (fun z => c18 (tb.trans z)))]; exact bi_t))
              refine lv_iload hM.x hM.b dL_law_791 (lv_at hl 1 rfl) ?_
              refine lv_if_ge (tgt := 810) hM.x hM.b dL_law_793 (by decide) (fun c22 => ?_) (fun c22 => ?_)
              · skip
                refine lv_aload_n hM.x hM.b dL_law_810 rfl (lv_at hl 10 rfl) ?_
                refine lv_iload hM.x hM.b dL_law_811 (lv_at hl 2 rfl) ?_
                refine k_xiK (rd_roast hR hq hjN).2.2.1 hw (k_runXV [.int (nI (j))] [] hM hw (m_X4_sideToFire l ((D, L), cA, ad) θ _ (nI (j)) hlst) (hw.dm kd_0 (by decide)) (sh4 kd_0) rfl (k_gV u_ml_L_146 u_im_X4_sideToFire u_se_X4_sideToFire u_ini_X4 u_co_X4_sideToFire) (q_X4_sideToFire) rfl rfl rfl ⟨(Nat.le_of_ble_eq_true rfl), (Nat.le_of_ble_eq_true rfl)⟩ hl.1 rfl (Nat.le_of_ble_eq_true rfl) dL_law_813 ⟨(by show _ ≤ (817018 : Nat); omega), (by show _ ≤ (6650127 : Nat); omega)⟩) (fun H locs hw => ?_)
                refine lv_aload hM.x hM.b dL_law_816 (lv_at hl 17 rfl) ?_
                refine lv_iload hM.x hM.b dL_law_818 (lv_at hl 2 rfl) ?_
                refine k_ialdN (i := j) (n := nr) hM hw (hT.m 154 (by decide) (by decide)) ((hT.s154)) hjN (by omega) dL_law_820 ?_
                refine lv_icmp_eq (tgt := 844) hM.x hM.b dL_law_821 (by decide) (fun c23 => ?_) (fun c23 => ?_)
                · skip
                  refine lv_iinc (v := nI (j + 1)) (lv' := [(21, .int (nI (j + 1))), (23, .int (gotP β j)), (22, .int (β (14 + 2 * j) 2)), (19, .int (fatP a (j + 1))), (20, .int (0)), (13, .int (dripP β ns)), (16, .int (fatP β nr)), (17, .int (β 1 6)), (18, .int (v)), (0, .ref b), (1, .ref (ad (0))), (2, .ref (ad (91))), (3, .int (nI (t))), (5, .int (nI (ns))), (6, .int (nI (nr))), (7, .ref (ad (136))), (8, .ref (ad (153))), (9, .ref (ad (154))), (10, .ref (ad (155))), (11, .ref (ad (156))), (12, .ref (ad (157))), (14, .ref (ad (158))), (15, .ref (ad (159)))]) hM.x hM.b dL_law_844 hl (k := 2) rfl (nI_1 (j)) (by decide) rfl (fun ls hl => ?_)
                  refine lv_goto (tgt := 559) hM.x hM.b dL_law_847 (by decide) ?_
                  refine W.widen (k := k1 + 16 * (j + 1)) (n := n1 + 96 * (j + 1)) (by omega) (by omega) ?_
                  exact ih (j + 1) (by omega) H locs ls (lv_sub hl [0, 3, 4, 5, 6, 7, 8, 9, 10, 11, 12, 13, 14, 15, 16, 17, 18, 19, 20, 21, 22] rfl) hw kk
                · skip
                  refine lv_aload_n hM.x hM.b dL_law_824 rfl (lv_at hl 10 rfl) ?_
                  refine lv_iload hM.x hM.b dL_law_825 (lv_at hl 2 rfl) ?_
                  refine k_xiK (rd_roast hR hq hjN).2.2.1 hw (k_runXV [.int (nI (j))] [] hM hw (m_X4_sideToFire l ((D, L), cA, ad) θ _ (nI (j)) hlst) (hw.dm kd_0 (by decide)) (sh4 kd_0) rfl (k_gV u_ml_L_146 u_im_X4_sideToFire u_se_X4_sideToFire u_ini_X4 u_co_X4_sideToFire) (q_X4_sideToFire) rfl rfl rfl ⟨(Nat.le_of_ble_eq_true rfl), (Nat.le_of_ble_eq_true rfl)⟩ hl.1 rfl (Nat.le_of_ble_eq_true rfl) dL_law_827 ⟨(by show _ ≤ (817018 : Nat); omega), (by show _ ≤ (6650127 : Nat); omega)⟩) (fun H locs hw => ?_)
                  refine lv_aload hM.x hM.b dL_law_830 (lv_at hl 17 rfl) ?_
                  refine lv_iload hM.x hM.b dL_law_832 (lv_at hl 2 rfl) ?_
                  refine k_ialdN (i := j) (n := nr) hM hw (hT.m 154 (by decide) (by decide)) ((hT.s154)) hjN (by omega) dL_law_834 ?_
                  refine lv_iconst (v := 1) hM.x hM.b dL_law_835 (by decide) ?_
                  refine lv_iadd hM.x hM.b dL_law_836 ?_
                  refine lv_iconst (v := 4) hM.x hM.b dL_law_837 (by decide) ?_
                  refine lv_irem hM.x hM.b dL_law_838 (by decide) ?_
                  refine lv_icmp_eq (tgt := 844) hM.x hM.b dL_law_839 (by decide) (fun _ => ?_) (fun cz => absurd (by rw [t3]; exact (side_c hI hC hA hjN).2.resolve_left (fun z => c23 (by rw [t3]; exact z))) cz)
                  refine lv_iinc (v := nI (j + 1)) (lv' := [(21, .int (nI (j + 1))), (23, .int (gotP β j)), (22, .int (β (14 + 2 * j) 2)), (19, .int (fatP a (j + 1))), (20, .int (0)), (13, .int (dripP β ns)), (16, .int (fatP β nr)), (17, .int (β 1 6)), (18, .int (v)), (0, .ref b), (1, .ref (ad (0))), (2, .ref (ad (91))), (3, .int (nI (t))), (5, .int (nI (ns))), (6, .int (nI (nr))), (7, .ref (ad (136))), (8, .ref (ad (153))), (9, .ref (ad (154))), (10, .ref (ad (155))), (11, .ref (ad (156))), (12, .ref (ad (157))), (14, .ref (ad (158))), (15, .ref (ad (159)))]) hM.x hM.b dL_law_844 hl (k := 2) rfl (nI_1 (j)) (by decide) rfl (fun ls hl => ?_)
                  refine lv_goto (tgt := 559) hM.x hM.b dL_law_847 (by decide) ?_
                  refine W.widen (k := k1 + 16 * (j + 1)) (n := n1 + 96 * (j + 1)) (by omega) (by omega) ?_
                  exact ih (j + 1) (by omega) H locs ls (lv_sub hl [0, 3, 4, 5, 6, 7, 8, 9, 10, 11, 12, 13, 14, 15, 16, 17, 18, 19, 20, 21, 22] rfl) hw kk
              · skip
                refine lv_aload_n hM.x hM.b dL_law_796 rfl (lv_at hl 10 rfl) ?_
                refine lv_iload hM.x hM.b dL_law_797 (lv_at hl 2 rfl) ?_
                refine k_xiK (rd_roast hR hq hjN).2.2.1 hw (k_runXV [.int (nI (j))] [] hM hw (m_X4_sideToFire l ((D, L), cA, ad) θ _ (nI (j)) hlst) (hw.dm kd_0 (by decide)) (sh4 kd_0) rfl (k_gV u_ml_L_146 u_im_X4_sideToFire u_se_X4_sideToFire u_ini_X4 u_co_X4_sideToFire) (q_X4_sideToFire) rfl rfl rfl ⟨(Nat.le_of_ble_eq_true rfl), (Nat.le_of_ble_eq_true rfl)⟩ hl.1 rfl (Nat.le_of_ble_eq_true rfl) dL_law_799 ⟨(by show _ ≤ (817018 : Nat); omega), (by show _ ≤ (6650127 : Nat); omega)⟩) (fun H locs hw => ?_)
                refine lv_aload hM.x hM.b dL_law_802 (lv_at hl 17 rfl) ?_
                refine lv_iload hM.x hM.b dL_law_804 (lv_at hl 2 rfl) ?_
                refine k_ialdN (i := j) (n := nr) hM hw (hT.m 154 (by decide) (by decide)) ((hT.s154)) hjN (by omega) dL_law_806 ?_
                refine lv_icmp_ne (tgt := 842) hM.x hM.b dL_law_807 (by decide) (fun cz => absurd (by rw [t3]; exact (side_c hI hC hA hjN).1 (Int32.not_le.mp c22)) cz) (fun _ => ?_)
                refine lv_aload_n hM.x hM.b dL_law_810 rfl (lv_at hl 10 rfl) ?_
                refine lv_iload hM.x hM.b dL_law_811 (lv_at hl 2 rfl) ?_
                refine k_xiK (rd_roast hR hq hjN).2.2.1 hw (k_runXV [.int (nI (j))] [] hM hw (m_X4_sideToFire l ((D, L), cA, ad) θ _ (nI (j)) hlst) (hw.dm kd_0 (by decide)) (sh4 kd_0) rfl (k_gV u_ml_L_146 u_im_X4_sideToFire u_se_X4_sideToFire u_ini_X4 u_co_X4_sideToFire) (q_X4_sideToFire) rfl rfl rfl ⟨(Nat.le_of_ble_eq_true rfl), (Nat.le_of_ble_eq_true rfl)⟩ hl.1 rfl (Nat.le_of_ble_eq_true rfl) dL_law_813 ⟨(by show _ ≤ (817018 : Nat); omega), (by show _ ≤ (6650127 : Nat); omega)⟩) (fun H locs hw => ?_)
                refine lv_aload hM.x hM.b dL_law_816 (lv_at hl 17 rfl) ?_
                refine lv_iload hM.x hM.b dL_law_818 (lv_at hl 2 rfl) ?_
                refine k_ialdN (i := j) (n := nr) hM hw (hT.m 154 (by decide) (by decide)) ((hT.s154)) hjN (by omega) dL_law_820 ?_
                refine lv_icmp_eq (tgt := 844) hM.x hM.b dL_law_821 (by decide) (fun c24 => ?_) (fun c24 => ?_)
                · skip
                  refine lv_iinc (v := nI (j + 1)) (lv' := [(21, .int (nI (j + 1))), (23, .int (gotP β j)), (22, .int (β (14 + 2 * j) 2)), (19, .int (fatP a (j + 1))), (20, .int (0)), (13, .int (dripP β ns)), (16, .int (fatP β nr)), (17, .int (β 1 6)), (18, .int (v)), (0, .ref b), (1, .ref (ad (0))), (2, .ref (ad (91))), (3, .int (nI (t))), (5, .int (nI (ns))), (6, .int (nI (nr))), (7, .ref (ad (136))), (8, .ref (ad (153))), (9, .ref (ad (154))), (10, .ref (ad (155))), (11, .ref (ad (156))), (12, .ref (ad (157))), (14, .ref (ad (158))), (15, .ref (ad (159)))]) hM.x hM.b dL_law_844 hl (k := 2) rfl (nI_1 (j)) (by decide) rfl (fun ls hl => ?_)
                  refine lv_goto (tgt := 559) hM.x hM.b dL_law_847 (by decide) ?_
                  refine W.widen (k := k1 + 16 * (j + 1)) (n := n1 + 96 * (j + 1)) (by omega) (by omega) ?_
                  exact ih (j + 1) (by omega) H locs ls (lv_sub hl [0, 3, 4, 5, 6, 7, 8, 9, 10, 11, 12, 13, 14, 15, 16, 17, 18, 19, 20, 21, 22] rfl) hw kk
                · skip
                  refine lv_aload_n hM.x hM.b dL_law_824 rfl (lv_at hl 10 rfl) ?_
                  refine lv_iload hM.x hM.b dL_law_825 (lv_at hl 2 rfl) ?_
                  refine k_xiK (rd_roast hR hq hjN).2.2.1 hw (k_runXV [.int (nI (j))] [] hM hw (m_X4_sideToFire l ((D, L), cA, ad) θ _ (nI (j)) hlst) (hw.dm kd_0 (by decide)) (sh4 kd_0) rfl (k_gV u_ml_L_146 u_im_X4_sideToFire u_se_X4_sideToFire u_ini_X4 u_co_X4_sideToFire) (q_X4_sideToFire) rfl rfl rfl ⟨(Nat.le_of_ble_eq_true rfl), (Nat.le_of_ble_eq_true rfl)⟩ hl.1 rfl (Nat.le_of_ble_eq_true rfl) dL_law_827 ⟨(by show _ ≤ (817018 : Nat); omega), (by show _ ≤ (6650127 : Nat); omega)⟩) (fun H locs hw => ?_)
                  refine lv_aload hM.x hM.b dL_law_830 (lv_at hl 17 rfl) ?_
                  refine lv_iload hM.x hM.b dL_law_832 (lv_at hl 2 rfl) ?_
                  refine k_ialdN (i := j) (n := nr) hM hw (hT.m 154 (by decide) (by decide)) ((hT.s154)) hjN (by omega) dL_law_834 ?_
                  refine lv_iconst (v := 1) hM.x hM.b dL_law_835 (by decide) ?_
                  refine lv_iadd hM.x hM.b dL_law_836 ?_
                  refine lv_iconst (v := 4) hM.x hM.b dL_law_837 (by decide) ?_
                  refine lv_irem hM.x hM.b dL_law_838 (by decide) ?_
                  refine lv_icmp_eq (tgt := 844) hM.x hM.b dL_law_839 (by decide) (fun _ => ?_) (fun cz => absurd (by rw [t3]; exact (side_c hI hC hA hjN).2.resolve_left (fun z => c24 (by rw [t3]; exact z))) cz)
                  refine lv_iinc (v := nI (j + 1)) (lv' := [(21, .int (nI (j + 1))), (23, .int (gotP β j)), (22, .int (β (14 + 2 * j) 2)), (19, .int (fatP a (j + 1))), (20, .int (0)), (13, .int (dripP β ns)), (16, .int (fatP β nr)), (17, .int (β 1 6)), (18, .int (v)), (0, .ref b), (1, .ref (ad (0))), (2, .ref (ad (91))), (3, .int (nI (t))), (5, .int (nI (ns))), (6, .int (nI (nr))), (7, .ref (ad (136))), (8, .ref (ad (153))), (9, .ref (ad (154))), (10, .ref (ad (155))), (11, .ref (ad (156))), (12, .ref (ad (157))), (14, .ref (ad (158))), (15, .ref (ad (159)))]) hM.x hM.b dL_law_844 hl (k := 2) rfl (nI_1 (j)) (by decide) rfl (fun ls hl => ?_)
                  refine lv_goto (tgt := 559) hM.x hM.b dL_law_847 (by decide) ?_
                  refine W.widen (k := k1 + 16 * (j + 1)) (n := n1 + 96 * (j + 1)) (by omega) (by omega) ?_
                  exact ih (j + 1) (by omega) H locs ls (lv_sub hl [0, 3, 4, 5, 6, 7, 8, 9, 10, 11, 12, 13, 14, 15, 16, 17, 18, 19, 20, 21, 22] rfl) hw kk
      · skip
        refine lv_aload hM.x hM.b dL_law_718 (lv_at hl 16 rfl) ?_
        refine lv_iload hM.x hM.b dL_law_720 (lv_at hl 2 rfl) ?_
        refine k_ialdN (i := j) (n := nr) hM hw (hT.m 153 (by decide) (by decide)) ((hT.s153)) hjN (by omega) dL_law_722 ?_
        refine lv_if_le (tgt := 730) hM.x hM.b dL_law_723 (by decide) (fun c25 => ?_) (fun c25 => ?_)
        · skip
          refine lv_iconst (v := 0) hM.x hM.b dL_law_730 (by decide) ?_
          refine lv_isub hM.x hM.b dL_law_731 ?_
          refine lv_icmp_ne (tgt := 789) hM.x hM.b dL_law_732 (by decide) (fun cz => absurd (by rw [t4]; exact fat_c0 hI hC hA hjN (Or.inr (by rw [← t4]; exact c25))) cz) (fun _ => ?_)
          refine lv_aload_n hM.x hM.b dL_law_735 rfl (lv_at hl 10 rfl) ?_
          refine lv_iload hM.x hM.b dL_law_736 (lv_at hl 2 rfl) ?_
          refine k_xiK (rd_roast hR hq hjN).2.2.2.2.1 hw (k_runXV [.int (nI (j))] [] hM hw (m_X4_wetFor l ((D, L), cA, ad) θ _ (nI (j)) hlst) (hw.dm kd_0 (by decide)) (sh4 kd_0) rfl (k_gV u_ml_L_149 u_im_X4_wetFor u_se_X4_wetFor u_ini_X4 u_co_X4_wetFor) (q_X4_wetFor) rfl rfl rfl ⟨(Nat.le_of_ble_eq_true rfl), (Nat.le_of_ble_eq_true rfl)⟩ hl.1 rfl (Nat.le_of_ble_eq_true rfl) dL_law_738 ⟨(by show _ ≤ (817018 : Nat); omega), (by show _ ≤ (6650127 : Nat); omega)⟩) (fun H locs hw => ?_)
          refine lv_iload hM.x hM.b dL_law_741 (lv_at hl 1 rfl) ?_
          refine lv_if_lt (tgt := 764) hM.x hM.b dL_law_743 (by decide) (fun c26 => ?_) (fun c26 => ?_)
          · skip
            refine lv_aload hM.x hM.b dL_law_764 (lv_at hl 18 rfl) ?_
            refine lv_iload hM.x hM.b dL_law_766 (lv_at hl 2 rfl) ?_
            refine k_ialdN (i := j) (n := nr) hM hw (hT.m 155 (by decide) (by decide)) ((hT.s155)) hjN (by omega) dL_law_768 ?_
            refine lv_icmp_ne (tgt := 789) hM.x hM.b dL_law_769 (by decide) (fun cz => absurd (by rw [t5]; exact wet_c0 hI hC hA hjN (Or.inl c26)) cz) (fun _ => ?_)
            refine lv_aload hM.x hM.b dL_law_772 (lv_at hl 19 rfl) ?_
            refine lv_iload hM.x hM.b dL_law_774 (lv_at hl 2 rfl) ?_
            refine k_zald (n := nr) hM hw (hT.m 156 (by decide) (by decide)) hT.s156 (vp_in_nI hjN (by omega)) dL_law_776 ?_
            rw [nI_clamp (by omega)]
            refine lv_if_eq (tgt := 791) hM.x hM.b dL_law_777 (by decide) (fun c27 => ?_) (fun c27 => ?_)
            · skip
              refine lv_iload hM.x hM.b dL_law_791 (lv_at hl 1 rfl) ?_
              refine lv_if_ge (tgt := 810) hM.x hM.b dL_law_793 (by decide) (fun c28 => ?_) (fun c28 => ?_)
              · skip
                refine lv_aload_n hM.x hM.b dL_law_810 rfl (lv_at hl 10 rfl) ?_
                refine lv_iload hM.x hM.b dL_law_811 (lv_at hl 2 rfl) ?_
                refine k_xiK (rd_roast hR hq hjN).2.2.1 hw (k_runXV [.int (nI (j))] [] hM hw (m_X4_sideToFire l ((D, L), cA, ad) θ _ (nI (j)) hlst) (hw.dm kd_0 (by decide)) (sh4 kd_0) rfl (k_gV u_ml_L_146 u_im_X4_sideToFire u_se_X4_sideToFire u_ini_X4 u_co_X4_sideToFire) (q_X4_sideToFire) rfl rfl rfl ⟨(Nat.le_of_ble_eq_true rfl), (Nat.le_of_ble_eq_true rfl)⟩ hl.1 rfl (Nat.le_of_ble_eq_true rfl) dL_law_813 ⟨(by show _ ≤ (817018 : Nat); omega), (by show _ ≤ (6650127 : Nat); omega)⟩) (fun H locs hw => ?_)
                refine lv_aload hM.x hM.b dL_law_816 (lv_at hl 17 rfl) ?_
                refine lv_iload hM.x hM.b dL_law_818 (lv_at hl 2 rfl) ?_
                refine k_ialdN (i := j) (n := nr) hM hw (hT.m 154 (by decide) (by decide)) ((hT.s154)) hjN (by omega) dL_law_820 ?_
                refine lv_icmp_eq (tgt := 844) hM.x hM.b dL_law_821 (by decide) (fun c29 => ?_) (fun c29 => ?_)
                · skip
                  refine lv_iinc (v := nI (j + 1)) (lv' := [(21, .int (nI (j + 1))), (23, .int (gotP β j)), (22, .int (β (14 + 2 * j) 2)), (19, .int (fatP a (j + 1))), (20, .int (0)), (13, .int (dripP β ns)), (16, .int (fatP β nr)), (17, .int (β 1 6)), (18, .int (v)), (0, .ref b), (1, .ref (ad (0))), (2, .ref (ad (91))), (3, .int (nI (t))), (5, .int (nI (ns))), (6, .int (nI (nr))), (7, .ref (ad (136))), (8, .ref (ad (153))), (9, .ref (ad (154))), (10, .ref (ad (155))), (11, .ref (ad (156))), (12, .ref (ad (157))), (14, .ref (ad (158))), (15, .ref (ad (159)))]) hM.x hM.b dL_law_844 hl (k := 2) rfl (nI_1 (j)) (by decide) rfl (fun ls hl => ?_)
                  refine lv_goto (tgt := 559) hM.x hM.b dL_law_847 (by decide) ?_
                  refine W.widen (k := k1 + 16 * (j + 1)) (n := n1 + 96 * (j + 1)) (by omega) (by omega) ?_
                  exact ih (j + 1) (by omega) H locs ls (lv_sub hl [0, 3, 4, 5, 6, 7, 8, 9, 10, 11, 12, 13, 14, 15, 16, 17, 18, 19, 20, 21, 22] rfl) hw kk
                · skip
                  refine lv_aload_n hM.x hM.b dL_law_824 rfl (lv_at hl 10 rfl) ?_
                  refine lv_iload hM.x hM.b dL_law_825 (lv_at hl 2 rfl) ?_
                  refine k_xiK (rd_roast hR hq hjN).2.2.1 hw (k_runXV [.int (nI (j))] [] hM hw (m_X4_sideToFire l ((D, L), cA, ad) θ _ (nI (j)) hlst) (hw.dm kd_0 (by decide)) (sh4 kd_0) rfl (k_gV u_ml_L_146 u_im_X4_sideToFire u_se_X4_sideToFire u_ini_X4 u_co_X4_sideToFire) (q_X4_sideToFire) rfl rfl rfl ⟨(Nat.le_of_ble_eq_true rfl), (Nat.le_of_ble_eq_true rfl)⟩ hl.1 rfl (Nat.le_of_ble_eq_true rfl) dL_law_827 ⟨(by show _ ≤ (817018 : Nat); omega), (by show _ ≤ (6650127 : Nat); omega)⟩) (fun H locs hw => ?_)
                  refine lv_aload hM.x hM.b dL_law_830 (lv_at hl 17 rfl) ?_
                  refine lv_iload hM.x hM.b dL_law_832 (lv_at hl 2 rfl) ?_
                  refine k_ialdN (i := j) (n := nr) hM hw (hT.m 154 (by decide) (by decide)) ((hT.s154)) hjN (by omega) dL_law_834 ?_
                  refine lv_iconst (v := 1) hM.x hM.b dL_law_835 (by decide) ?_
                  refine lv_iadd hM.x hM.b dL_law_836 ?_
                  refine lv_iconst (v := 4) hM.x hM.b dL_law_837 (by decide) ?_
                  refine lv_irem hM.x hM.b dL_law_838 (by decide) ?_
                  refine lv_icmp_eq (tgt := 844) hM.x hM.b dL_law_839 (by decide) (fun _ => ?_) (fun cz => absurd (by rw [t3]; exact (side_c hI hC hA hjN).2.resolve_left (fun z => c29 (by rw [t3]; exact z))) cz)
                  refine lv_iinc (v := nI (j + 1)) (lv' := [(21, .int (nI (j + 1))), (23, .int (gotP β j)), (22, .int (β (14 + 2 * j) 2)), (19, .int (fatP a (j + 1))), (20, .int (0)), (13, .int (dripP β ns)), (16, .int (fatP β nr)), (17, .int (β 1 6)), (18, .int (v)), (0, .ref b), (1, .ref (ad (0))), (2, .ref (ad (91))), (3, .int (nI (t))), (5, .int (nI (ns))), (6, .int (nI (nr))), (7, .ref (ad (136))), (8, .ref (ad (153))), (9, .ref (ad (154))), (10, .ref (ad (155))), (11, .ref (ad (156))), (12, .ref (ad (157))), (14, .ref (ad (158))), (15, .ref (ad (159)))]) hM.x hM.b dL_law_844 hl (k := 2) rfl (nI_1 (j)) (by decide) rfl (fun ls hl => ?_)
                  refine lv_goto (tgt := 559) hM.x hM.b dL_law_847 (by decide) ?_
                  refine W.widen (k := k1 + 16 * (j + 1)) (n := n1 + 96 * (j + 1)) (by omega) (by omega) ?_
                  exact ih (j + 1) (by omega) H locs ls (lv_sub hl [0, 3, 4, 5, 6, 7, 8, 9, 10, 11, 12, 13, 14, 15, 16, 17, 18, 19, 20, 21, 22] rfl) hw kk
              · skip
                refine lv_aload_n hM.x hM.b dL_law_796 rfl (lv_at hl 10 rfl) ?_
                refine lv_iload hM.x hM.b dL_law_797 (lv_at hl 2 rfl) ?_
                refine k_xiK (rd_roast hR hq hjN).2.2.1 hw (k_runXV [.int (nI (j))] [] hM hw (m_X4_sideToFire l ((D, L), cA, ad) θ _ (nI (j)) hlst) (hw.dm kd_0 (by decide)) (sh4 kd_0) rfl (k_gV u_ml_L_146 u_im_X4_sideToFire u_se_X4_sideToFire u_ini_X4 u_co_X4_sideToFire) (q_X4_sideToFire) rfl rfl rfl ⟨(Nat.le_of_ble_eq_true rfl), (Nat.le_of_ble_eq_true rfl)⟩ hl.1 rfl (Nat.le_of_ble_eq_true rfl) dL_law_799 ⟨(by show _ ≤ (817018 : Nat); omega), (by show _ ≤ (6650127 : Nat); omega)⟩) (fun H locs hw => ?_)
                refine lv_aload hM.x hM.b dL_law_802 (lv_at hl 17 rfl) ?_
                refine lv_iload hM.x hM.b dL_law_804 (lv_at hl 2 rfl) ?_
                refine k_ialdN (i := j) (n := nr) hM hw (hT.m 154 (by decide) (by decide)) ((hT.s154)) hjN (by omega) dL_law_806 ?_
                refine lv_icmp_ne (tgt := 842) hM.x hM.b dL_law_807 (by decide) (fun cz => absurd (by rw [t3]; exact (side_c hI hC hA hjN).1 (Int32.not_le.mp c28)) cz) (fun _ => ?_)
                refine lv_aload_n hM.x hM.b dL_law_810 rfl (lv_at hl 10 rfl) ?_
                refine lv_iload hM.x hM.b dL_law_811 (lv_at hl 2 rfl) ?_
                refine k_xiK (rd_roast hR hq hjN).2.2.1 hw (k_runXV [.int (nI (j))] [] hM hw (m_X4_sideToFire l ((D, L), cA, ad) θ _ (nI (j)) hlst) (hw.dm kd_0 (by decide)) (sh4 kd_0) rfl (k_gV u_ml_L_146 u_im_X4_sideToFire u_se_X4_sideToFire u_ini_X4 u_co_X4_sideToFire) (q_X4_sideToFire) rfl rfl rfl ⟨(Nat.le_of_ble_eq_true rfl), (Nat.le_of_ble_eq_true rfl)⟩ hl.1 rfl (Nat.le_of_ble_eq_true rfl) dL_law_813 ⟨(by show _ ≤ (817018 : Nat); omega), (by show _ ≤ (6650127 : Nat); omega)⟩) (fun H locs hw => ?_)
                refine lv_aload hM.x hM.b dL_law_816 (lv_at hl 17 rfl) ?_
                refine lv_iload hM.x hM.b dL_law_818 (lv_at hl 2 rfl) ?_
                refine k_ialdN (i := j) (n := nr) hM hw (hT.m 154 (by decide) (by decide)) ((hT.s154)) hjN (by omega) dL_law_820 ?_
                refine lv_icmp_eq (tgt := 844) hM.x hM.b dL_law_821 (by decide) (fun c30 => ?_) (fun c30 => ?_)
                · skip
                  refine lv_iinc (v := nI (j + 1)) (lv' := [(21, .int (nI (j + 1))), (23, .int (gotP β j)), (22, .int (β (14 + 2 * j) 2)), (19, .int (fatP a (j + 1))), (20, .int (0)), (13, .int (dripP β ns)), (16, .int (fatP β nr)), (17, .int (β 1 6)), (18, .int (v)), (0, .ref b), (1, .ref (ad (0))), (2, .ref (ad (91))), (3, .int (nI (t))), (5, .int (nI (ns))), (6, .int (nI (nr))), (7, .ref (ad (136))), (8, .ref (ad (153))), (9, .ref (ad (154))), (10, .ref (ad (155))), (11, .ref (ad (156))), (12, .ref (ad (157))), (14, .ref (ad (158))), (15, .ref (ad (159)))]) hM.x hM.b dL_law_844 hl (k := 2) rfl (nI_1 (j)) (by decide) rfl (fun ls hl => ?_)
                  refine lv_goto (tgt := 559) hM.x hM.b dL_law_847 (by decide) ?_
                  refine W.widen (k := k1 + 16 * (j + 1)) (n := n1 + 96 * (j + 1)) (by omega) (by omega) ?_
                  exact ih (j + 1) (by omega) H locs ls (lv_sub hl [0, 3, 4, 5, 6, 7, 8, 9, 10, 11, 12, 13, 14, 15, 16, 17, 18, 19, 20, 21, 22] rfl) hw kk
                · skip
                  refine lv_aload_n hM.x hM.b dL_law_824 rfl (lv_at hl 10 rfl) ?_
                  refine lv_iload hM.x hM.b dL_law_825 (lv_at hl 2 rfl) ?_
                  refine k_xiK (rd_roast hR hq hjN).2.2.1 hw (k_runXV [.int (nI (j))] [] hM hw (m_X4_sideToFire l ((D, L), cA, ad) θ _ (nI (j)) hlst) (hw.dm kd_0 (by decide)) (sh4 kd_0) rfl (k_gV u_ml_L_146 u_im_X4_sideToFire u_se_X4_sideToFire u_ini_X4 u_co_X4_sideToFire) (q_X4_sideToFire) rfl rfl rfl ⟨(Nat.le_of_ble_eq_true rfl), (Nat.le_of_ble_eq_true rfl)⟩ hl.1 rfl (Nat.le_of_ble_eq_true rfl) dL_law_827 ⟨(by show _ ≤ (817018 : Nat); omega), (by show _ ≤ (6650127 : Nat); omega)⟩) (fun H locs hw => ?_)
                  refine lv_aload hM.x hM.b dL_law_830 (lv_at hl 17 rfl) ?_
                  refine lv_iload hM.x hM.b dL_law_832 (lv_at hl 2 rfl) ?_
                  refine k_ialdN (i := j) (n := nr) hM hw (hT.m 154 (by decide) (by decide)) ((hT.s154)) hjN (by omega) dL_law_834 ?_
                  refine lv_iconst (v := 1) hM.x hM.b dL_law_835 (by decide) ?_
                  refine lv_iadd hM.x hM.b dL_law_836 ?_
                  refine lv_iconst (v := 4) hM.x hM.b dL_law_837 (by decide) ?_
                  refine lv_irem hM.x hM.b dL_law_838 (by decide) ?_
                  refine lv_icmp_eq (tgt := 844) hM.x hM.b dL_law_839 (by decide) (fun _ => ?_) (fun cz => absurd (by rw [t3]; exact (side_c hI hC hA hjN).2.resolve_left (fun z => c30 (by rw [t3]; exact z))) cz)
                  refine lv_iinc (v := nI (j + 1)) (lv' := [(21, .int (nI (j + 1))), (23, .int (gotP β j)), (22, .int (β (14 + 2 * j) 2)), (19, .int (fatP a (j + 1))), (20, .int (0)), (13, .int (dripP β ns)), (16, .int (fatP β nr)), (17, .int (β 1 6)), (18, .int (v)), (0, .ref b), (1, .ref (ad (0))), (2, .ref (ad (91))), (3, .int (nI (t))), (5, .int (nI (ns))), (6, .int (nI (nr))), (7, .ref (ad (136))), (8, .ref (ad (153))), (9, .ref (ad (154))), (10, .ref (ad (155))), (11, .ref (ad (156))), (12, .ref (ad (157))), (14, .ref (ad (158))), (15, .ref (ad (159)))]) hM.x hM.b dL_law_844 hl (k := 2) rfl (nI_1 (j)) (by decide) rfl (fun ls hl => ?_)
                  refine lv_goto (tgt := 559) hM.x hM.b dL_law_847 (by decide) ?_
                  refine W.widen (k := k1 + 16 * (j + 1)) (n := n1 + 96 * (j + 1)) (by omega) (by omega) ?_
                  exact ih (j + 1) (by omega) H locs ls (lv_sub hl [0, 3, 4, 5, 6, 7, 8, 9, 10, 11, 12, 13, 14, 15, 16, 17, 18, 19, 20, 21, 22] rfl) hw kk
            · skip
              refine lv_aload_n hM.x hM.b dL_law_780 rfl (lv_at hl 10 rfl) ?_
              refine lv_iload hM.x hM.b dL_law_781 (lv_at hl 2 rfl) ?_
              refine k_xiK (rd_roast hR hq hjN).2.2.2.2.2.2.2 hw (k_runXV [.int (nI (j))] [] hM hw (m_X4_isBurnt l ((D, L), cA, ad) θ _ (nI (j)) hlst) (hw.dm kd_0 (by decide)) (sh4 kd_0) rfl (k_gV u_ml_L_152 u_im_X4_isBurnt u_se_X4_isBurnt u_ini_X4 u_co_X4_isBurnt) (q_X4_isBurnt) rfl rfl rfl ⟨(Nat.le_of_ble_eq_true rfl), (Nat.le_of_ble_eq_true rfl)⟩ hl.1 rfl (Nat.le_of_ble_eq_true rfl) dL_law_783 ⟨(by show _ ≤ (817018 : Nat); omega), (by show _ ≤ (6650127 : Nat); omega)⟩) (fun H locs hw => ?_)
              refine lv_if_ne (tgt := 791) hM.x hM.b dL_law_786 (by decide) (fun _ => ?_) (fun cz => absurd cz (by rw [burnt_c hI hC hA hjN (bi_ne (fun z => c27 (tb.trans z)))]; exact bi_t))
              refine lv_iload hM.x hM.b dL_law_791 (lv_at hl 1 rfl) ?_
              refine lv_if_ge (tgt := 810) hM.x hM.b dL_law_793 (by decide) (fun c31 => ?_) (fun c31 => ?_)
              · skip
                refine lv_aload_n hM.x hM.b dL_law_810 rfl (lv_at hl 10 rfl) ?_
                refine lv_iload hM.x hM.b dL_law_811 (lv_at hl 2 rfl) ?_
                refine k_xiK (rd_roast hR hq hjN).2.2.1 hw (k_runXV [.int (nI (j))] [] hM hw (m_X4_sideToFire l ((D, L), cA, ad) θ _ (nI (j)) hlst) (hw.dm kd_0 (by decide)) (sh4 kd_0) rfl (k_gV u_ml_L_146 u_im_X4_sideToFire u_se_X4_sideToFire u_ini_X4 u_co_X4_sideToFire) (q_X4_sideToFire) rfl rfl rfl ⟨(Nat.le_of_ble_eq_true rfl), (Nat.le_of_ble_eq_true rfl)⟩ hl.1 rfl (Nat.le_of_ble_eq_true rfl) dL_law_813 ⟨(by show _ ≤ (817018 : Nat); omega), (by show _ ≤ (6650127 : Nat); omega)⟩) (fun H locs hw => ?_)
                refine lv_aload hM.x hM.b dL_law_816 (lv_at hl 17 rfl) ?_
                refine lv_iload hM.x hM.b dL_law_818 (lv_at hl 2 rfl) ?_
                refine k_ialdN (i := j) (n := nr) hM hw (hT.m 154 (by decide) (by decide)) ((hT.s154)) hjN (by omega) dL_law_820 ?_
                refine lv_icmp_eq (tgt := 844) hM.x hM.b dL_law_821 (by decide) (fun c32 => ?_) (fun c32 => ?_)
                · skip
                  refine lv_iinc (v := nI (j + 1)) (lv' := [(21, .int (nI (j + 1))), (23, .int (gotP β j)), (22, .int (β (14 + 2 * j) 2)), (19, .int (fatP a (j + 1))), (20, .int (0)), (13, .int (dripP β ns)), (16, .int (fatP β nr)), (17, .int (β 1 6)), (18, .int (v)), (0, .ref b), (1, .ref (ad (0))), (2, .ref (ad (91))), (3, .int (nI (t))), (5, .int (nI (ns))), (6, .int (nI (nr))), (7, .ref (ad (136))), (8, .ref (ad (153))), (9, .ref (ad (154))), (10, .ref (ad (155))), (11, .ref (ad (156))), (12, .ref (ad (157))), (14, .ref (ad (158))), (15, .ref (ad (159)))]) hM.x hM.b dL_law_844 hl (k := 2) rfl (nI_1 (j)) (by decide) rfl (fun ls hl => ?_)
                  refine lv_goto (tgt := 559) hM.x hM.b dL_law_847 (by decide) ?_
                  refine W.widen (k := k1 + 16 * (j + 1)) (n := n1 + 96 * (j + 1)) (by omega) (by omega) ?_
                  exact ih (j + 1) (by omega) H locs ls (lv_sub hl [0, 3, 4, 5, 6, 7, 8, 9, 10, 11, 12, 13, 14, 15, 16, 17, 18, 19, 20, 21, 22] rfl) hw kk
                · skip
                  refine lv_aload_n hM.x hM.b dL_law_824 rfl (lv_at hl 10 rfl) ?_
                  refine lv_iload hM.x hM.b dL_law_825 (lv_at hl 2 rfl) ?_
                  refine k_xiK (rd_roast hR hq hjN).2.2.1 hw (k_runXV [.int (nI (j))] [] hM hw (m_X4_sideToFire l ((D, L), cA, ad) θ _ (nI (j)) hlst) (hw.dm kd_0 (by decide)) (sh4 kd_0) rfl (k_gV u_ml_L_146 u_im_X4_sideToFire u_se_X4_sideToFire u_ini_X4 u_co_X4_sideToFire) (q_X4_sideToFire) rfl rfl rfl ⟨(Nat.le_of_ble_eq_true rfl), (Nat.le_of_ble_eq_true rfl)⟩ hl.1 rfl (Nat.le_of_ble_eq_true rfl) dL_law_827 ⟨(by show _ ≤ (817018 : Nat); omega), (by show _ ≤ (6650127 : Nat); omega)⟩) (fun H locs hw => ?_)
                  refine lv_aload hM.x hM.b dL_law_830 (lv_at hl 17 rfl) ?_
                  refine lv_iload hM.x hM.b dL_law_832 (lv_at hl 2 rfl) ?_
                  refine k_ialdN (i := j) (n := nr) hM hw (hT.m 154 (by decide) (by decide)) ((hT.s154)) hjN (by omega) dL_law_834 ?_
                  refine lv_iconst (v := 1) hM.x hM.b dL_law_835 (by decide) ?_
                  refine lv_iadd hM.x hM.b dL_law_836 ?_
                  refine lv_iconst (v := 4) hM.x hM.b dL_law_837 (by decide) ?_
                  refine lv_irem hM.x hM.b dL_law_838 (by decide) ?_
                  refine lv_icmp_eq (tgt := 844) hM.x hM.b dL_law_839 (by decide) (fun _ => ?_) (fun cz => absurd (by rw [t3]; exact (side_c hI hC hA hjN).2.resolve_left (fun z => c32 (by rw [t3]; exact z))) cz)
                  refine lv_iinc (v := nI (j + 1)) (lv' := [(21, .int (nI (j + 1))), (23, .int (gotP β j)), (22, .int (β (14 + 2 * j) 2)), (19, .int (fatP a (j + 1))), (20, .int (0)), (13, .int (dripP β ns)), (16, .int (fatP β nr)), (17, .int (β 1 6)), (18, .int (v)), (0, .ref b), (1, .ref (ad (0))), (2, .ref (ad (91))), (3, .int (nI (t))), (5, .int (nI (ns))), (6, .int (nI (nr))), (7, .ref (ad (136))), (8, .ref (ad (153))), (9, .ref (ad (154))), (10, .ref (ad (155))), (11, .ref (ad (156))), (12, .ref (ad (157))), (14, .ref (ad (158))), (15, .ref (ad (159)))]) hM.x hM.b dL_law_844 hl (k := 2) rfl (nI_1 (j)) (by decide) rfl (fun ls hl => ?_)
                  refine lv_goto (tgt := 559) hM.x hM.b dL_law_847 (by decide) ?_
                  refine W.widen (k := k1 + 16 * (j + 1)) (n := n1 + 96 * (j + 1)) (by omega) (by omega) ?_
                  exact ih (j + 1) (by omega) H locs ls (lv_sub hl [0, 3, 4, 5, 6, 7, 8, 9, 10, 11, 12, 13, 14, 15, 16, 17, 18, 19, 20, 21, 22] rfl) hw kk
              · skip
                refine lv_aload_n hM.x hM.b dL_law_796 rfl (lv_at hl 10 rfl) ?_
                refine lv_iload hM.x hM.b dL_law_797 (lv_at hl 2 rfl) ?_
                refine k_xiK (rd_roast hR hq hjN).2.2.1 hw (k_runXV [.int (nI (j))] [] hM hw (m_X4_sideToFire l ((D, L), cA, ad) θ _ (nI (j)) hlst) (hw.dm kd_0 (by decide)) (sh4 kd_0) rfl (k_gV u_ml_L_146 u_im_X4_sideToFire u_se_X4_sideToFire u_ini_X4 u_co_X4_sideToFire) (q_X4_sideToFire) rfl rfl rfl ⟨(Nat.le_of_ble_eq_true rfl), (Nat.le_of_ble_eq_true rfl)⟩ hl.1 rfl (Nat.le_of_ble_eq_true rfl) dL_law_799 ⟨(by show _ ≤ (817018 : Nat); omega), (by show _ ≤ (6650127 : Nat); omega)⟩) (fun H locs hw => ?_)
                refine lv_aload hM.x hM.b dL_law_802 (lv_at hl 17 rfl) ?_
                refine lv_iload hM.x hM.b dL_law_804 (lv_at hl 2 rfl) ?_
                refine k_ialdN (i := j) (n := nr) hM hw (hT.m 154 (by decide) (by decide)) ((hT.s154)) hjN (by omega) dL_law_806 ?_
                refine lv_icmp_ne (tgt := 842) hM.x hM.b dL_law_807 (by decide) (fun cz => absurd (by rw [t3]; exact (side_c hI hC hA hjN).1 (Int32.not_le.mp c31)) cz) (fun _ => ?_)
                refine lv_aload_n hM.x hM.b dL_law_810 rfl (lv_at hl 10 rfl) ?_
                refine lv_iload hM.x hM.b dL_law_811 (lv_at hl 2 rfl) ?_
                refine k_xiK (rd_roast hR hq hjN).2.2.1 hw (k_runXV [.int (nI (j))] [] hM hw (m_X4_sideToFire l ((D, L), cA, ad) θ _ (nI (j)) hlst) (hw.dm kd_0 (by decide)) (sh4 kd_0) rfl (k_gV u_ml_L_146 u_im_X4_sideToFire u_se_X4_sideToFire u_ini_X4 u_co_X4_sideToFire) (q_X4_sideToFire) rfl rfl rfl ⟨(Nat.le_of_ble_eq_true rfl), (Nat.le_of_ble_eq_true rfl)⟩ hl.1 rfl (Nat.le_of_ble_eq_true rfl) dL_law_813 ⟨(by show _ ≤ (817018 : Nat); omega), (by show _ ≤ (6650127 : Nat); omega)⟩) (fun H locs hw => ?_)
                refine lv_aload hM.x hM.b dL_law_816 (lv_at hl 17 rfl) ?_
                refine lv_iload hM.x hM.b dL_law_818 (lv_at hl 2 rfl) ?_
                refine k_ialdN (i := j) (n := nr) hM hw (hT.m 154 (by decide) (by decide)) ((hT.s154)) hjN (by omega) dL_law_820 ?_
                refine lv_icmp_eq (tgt := 844) hM.x hM.b dL_law_821 (by decide) (fun c33 => ?_) (fun c33 => ?_)
                · skip
                  refine lv_iinc (v := nI (j + 1)) (lv' := [(21, .int (nI (j + 1))), (23, .int (gotP β j)), (22, .int (β (14 + 2 * j) 2)), (19, .int (fatP a (j + 1))), (20, .int (0)), (13, .int (dripP β ns)), (16, .int (fatP β nr)), (17, .int (β 1 6)), (18, .int (v)), (0, .ref b), (1, .ref (ad (0))), (2, .ref (ad (91))), (3, .int (nI (t))), (5, .int (nI (ns))), (6, .int (nI (nr))), (7, .ref (ad (136))), (8, .ref (ad (153))), (9, .ref (ad (154))), (10, .ref (ad (155))), (11, .ref (ad (156))), (12, .ref (ad (157))), (14, .ref (ad (158))), (15, .ref (ad (159)))]) hM.x hM.b dL_law_844 hl (k := 2) rfl (nI_1 (j)) (by decide) rfl (fun ls hl => ?_)
                  refine lv_goto (tgt := 559) hM.x hM.b dL_law_847 (by decide) ?_
                  refine W.widen (k := k1 + 16 * (j + 1)) (n := n1 + 96 * (j + 1)) (by omega) (by omega) ?_
                  exact ih (j + 1) (by omega) H locs ls (lv_sub hl [0, 3, 4, 5, 6, 7, 8, 9, 10, 11, 12, 13, 14, 15, 16, 17, 18, 19, 20, 21, 22] rfl) hw kk
                · skip
                  refine lv_aload_n hM.x hM.b dL_law_824 rfl (lv_at hl 10 rfl) ?_
                  refine lv_iload hM.x hM.b dL_law_825 (lv_at hl 2 rfl) ?_
                  refine k_xiK (rd_roast hR hq hjN).2.2.1 hw (k_runXV [.int (nI (j))] [] hM hw (m_X4_sideToFire l ((D, L), cA, ad) θ _ (nI (j)) hlst) (hw.dm kd_0 (by decide)) (sh4 kd_0) rfl (k_gV u_ml_L_146 u_im_X4_sideToFire u_se_X4_sideToFire u_ini_X4 u_co_X4_sideToFire) (q_X4_sideToFire) rfl rfl rfl ⟨(Nat.le_of_ble_eq_true rfl), (Nat.le_of_ble_eq_true rfl)⟩ hl.1 rfl (Nat.le_of_ble_eq_true rfl) dL_law_827 ⟨(by show _ ≤ (817018 : Nat); omega), (by show _ ≤ (6650127 : Nat); omega)⟩) (fun H locs hw => ?_)
                  refine lv_aload hM.x hM.b dL_law_830 (lv_at hl 17 rfl) ?_
                  refine lv_iload hM.x hM.b dL_law_832 (lv_at hl 2 rfl) ?_
                  refine k_ialdN (i := j) (n := nr) hM hw (hT.m 154 (by decide) (by decide)) ((hT.s154)) hjN (by omega) dL_law_834 ?_
                  refine lv_iconst (v := 1) hM.x hM.b dL_law_835 (by decide) ?_
                  refine lv_iadd hM.x hM.b dL_law_836 ?_
                  refine lv_iconst (v := 4) hM.x hM.b dL_law_837 (by decide) ?_
                  refine lv_irem hM.x hM.b dL_law_838 (by decide) ?_
                  refine lv_icmp_eq (tgt := 844) hM.x hM.b dL_law_839 (by decide) (fun _ => ?_) (fun cz => absurd (by rw [t3]; exact (side_c hI hC hA hjN).2.resolve_left (fun z => c33 (by rw [t3]; exact z))) cz)
                  refine lv_iinc (v := nI (j + 1)) (lv' := [(21, .int (nI (j + 1))), (23, .int (gotP β j)), (22, .int (β (14 + 2 * j) 2)), (19, .int (fatP a (j + 1))), (20, .int (0)), (13, .int (dripP β ns)), (16, .int (fatP β nr)), (17, .int (β 1 6)), (18, .int (v)), (0, .ref b), (1, .ref (ad (0))), (2, .ref (ad (91))), (3, .int (nI (t))), (5, .int (nI (ns))), (6, .int (nI (nr))), (7, .ref (ad (136))), (8, .ref (ad (153))), (9, .ref (ad (154))), (10, .ref (ad (155))), (11, .ref (ad (156))), (12, .ref (ad (157))), (14, .ref (ad (158))), (15, .ref (ad (159)))]) hM.x hM.b dL_law_844 hl (k := 2) rfl (nI_1 (j)) (by decide) rfl (fun ls hl => ?_)
                  refine lv_goto (tgt := 559) hM.x hM.b dL_law_847 (by decide) ?_
                  refine W.widen (k := k1 + 16 * (j + 1)) (n := n1 + 96 * (j + 1)) (by omega) (by omega) ?_
                  exact ih (j + 1) (by omega) H locs ls (lv_sub hl [0, 3, 4, 5, 6, 7, 8, 9, 10, 11, 12, 13, 14, 15, 16, 17, 18, 19, 20, 21, 22] rfl) hw kk
          · skip
            refine lv_aload hM.x hM.b dL_law_746 (lv_at hl 18 rfl) ?_
            refine lv_iload hM.x hM.b dL_law_748 (lv_at hl 2 rfl) ?_
            refine k_ialdN (i := j) (n := nr) hM hw (hT.m 155 (by decide) (by decide)) ((hT.s155)) hjN (by omega) dL_law_750 ?_
            refine lv_if_le (tgt := 764) hM.x hM.b dL_law_751 (by decide) (fun c34 => ?_) (fun c34 => ?_)
            · skip
              refine lv_aload hM.x hM.b dL_law_764 (lv_at hl 18 rfl) ?_
              refine lv_iload hM.x hM.b dL_law_766 (lv_at hl 2 rfl) ?_
              refine k_ialdN (i := j) (n := nr) hM hw (hT.m 155 (by decide) (by decide)) ((hT.s155)) hjN (by omega) dL_law_768 ?_
              refine lv_icmp_ne (tgt := 789) hM.x hM.b dL_law_769 (by decide) (fun cz => absurd (by rw [t5]; exact wet_c0 hI hC hA hjN (Or.inr (by rw [← t5]; exact c34))) cz) (fun _ => ?_)
              refine lv_aload hM.x hM.b dL_law_772 (lv_at hl 19 rfl) ?_
              refine lv_iload hM.x hM.b dL_law_774 (lv_at hl 2 rfl) ?_
              refine k_zald (n := nr) hM hw (hT.m 156 (by decide) (by decide)) hT.s156 (vp_in_nI hjN (by omega)) dL_law_776 ?_
              rw [nI_clamp (by omega)]
              refine lv_if_eq (tgt := 791) hM.x hM.b dL_law_777 (by decide) (fun c35 => ?_) (fun c35 => ?_)
              · skip
                refine lv_iload hM.x hM.b dL_law_791 (lv_at hl 1 rfl) ?_
                refine lv_if_ge (tgt := 810) hM.x hM.b dL_law_793 (by decide) (fun c36 => ?_) (fun c36 => ?_)
                · skip
                  refine lv_aload_n hM.x hM.b dL_law_810 rfl (lv_at hl 10 rfl) ?_
                  refine lv_iload hM.x hM.b dL_law_811 (lv_at hl 2 rfl) ?_
                  refine k_xiK (rd_roast hR hq hjN).2.2.1 hw (k_runXV [.int (nI (j))] [] hM hw (m_X4_sideToFire l ((D, L), cA, ad) θ _ (nI (j)) hlst) (hw.dm kd_0 (by decide)) (sh4 kd_0) rfl (k_gV u_ml_L_146 u_im_X4_sideToFire u_se_X4_sideToFire u_ini_X4 u_co_X4_sideToFire) (q_X4_sideToFire) rfl rfl rfl ⟨(Nat.le_of_ble_eq_true rfl), (Nat.le_of_ble_eq_true rfl)⟩ hl.1 rfl (Nat.le_of_ble_eq_true rfl) dL_law_813 ⟨(by show _ ≤ (817018 : Nat); omega), (by show _ ≤ (6650127 : Nat); omega)⟩) (fun H locs hw => ?_)
                  refine lv_aload hM.x hM.b dL_law_816 (lv_at hl 17 rfl) ?_
                  refine lv_iload hM.x hM.b dL_law_818 (lv_at hl 2 rfl) ?_
                  refine k_ialdN (i := j) (n := nr) hM hw (hT.m 154 (by decide) (by decide)) ((hT.s154)) hjN (by omega) dL_law_820 ?_
                  refine lv_icmp_eq (tgt := 844) hM.x hM.b dL_law_821 (by decide) (fun c37 => ?_) (fun c37 => ?_)
                  · skip
                    refine lv_iinc (v := nI (j + 1)) (lv' := [(21, .int (nI (j + 1))), (23, .int (gotP β j)), (22, .int (β (14 + 2 * j) 2)), (19, .int (fatP a (j + 1))), (20, .int (0)), (13, .int (dripP β ns)), (16, .int (fatP β nr)), (17, .int (β 1 6)), (18, .int (v)), (0, .ref b), (1, .ref (ad (0))), (2, .ref (ad (91))), (3, .int (nI (t))), (5, .int (nI (ns))), (6, .int (nI (nr))), (7, .ref (ad (136))), (8, .ref (ad (153))), (9, .ref (ad (154))), (10, .ref (ad (155))), (11, .ref (ad (156))), (12, .ref (ad (157))), (14, .ref (ad (158))), (15, .ref (ad (159)))]) hM.x hM.b dL_law_844 hl (k := 2) rfl (nI_1 (j)) (by decide) rfl (fun ls hl => ?_)
                    refine lv_goto (tgt := 559) hM.x hM.b dL_law_847 (by decide) ?_
                    refine W.widen (k := k1 + 16 * (j + 1)) (n := n1 + 96 * (j + 1)) (by omega) (by omega) ?_
                    exact ih (j + 1) (by omega) H locs ls (lv_sub hl [0, 3, 4, 5, 6, 7, 8, 9, 10, 11, 12, 13, 14, 15, 16, 17, 18, 19, 20, 21, 22] rfl) hw kk
                  · skip
                    refine lv_aload_n hM.x hM.b dL_law_824 rfl (lv_at hl 10 rfl) ?_
                    refine lv_iload hM.x hM.b dL_law_825 (lv_at hl 2 rfl) ?_
                    refine k_xiK (rd_roast hR hq hjN).2.2.1 hw (k_runXV [.int (nI (j))] [] hM hw (m_X4_sideToFire l ((D, L), cA, ad) θ _ (nI (j)) hlst) (hw.dm kd_0 (by decide)) (sh4 kd_0) rfl (k_gV u_ml_L_146 u_im_X4_sideToFire u_se_X4_sideToFire u_ini_X4 u_co_X4_sideToFire) (q_X4_sideToFire) rfl rfl rfl ⟨(Nat.le_of_ble_eq_true rfl), (Nat.le_of_ble_eq_true rfl)⟩ hl.1 rfl (Nat.le_of_ble_eq_true rfl) dL_law_827 ⟨(by show _ ≤ (817018 : Nat); omega), (by show _ ≤ (6650127 : Nat); omega)⟩) (fun H locs hw => ?_)
                    refine lv_aload hM.x hM.b dL_law_830 (lv_at hl 17 rfl) ?_
                    refine lv_iload hM.x hM.b dL_law_832 (lv_at hl 2 rfl) ?_
                    refine k_ialdN (i := j) (n := nr) hM hw (hT.m 154 (by decide) (by decide)) ((hT.s154)) hjN (by omega) dL_law_834 ?_
                    refine lv_iconst (v := 1) hM.x hM.b dL_law_835 (by decide) ?_
                    refine lv_iadd hM.x hM.b dL_law_836 ?_
                    refine lv_iconst (v := 4) hM.x hM.b dL_law_837 (by decide) ?_
                    refine lv_irem hM.x hM.b dL_law_838 (by decide) ?_
                    refine lv_icmp_eq (tgt := 844) hM.x hM.b dL_law_839 (by decide) (fun _ => ?_) (fun cz => absurd (by rw [t3]; exact (side_c hI hC hA hjN).2.resolve_left (fun z => c37 (by rw [t3]; exact z))) cz)
                    refine lv_iinc (v := nI (j + 1)) (lv' := [(21, .int (nI (j + 1))), (23, .int (gotP β j)), (22, .int (β (14 + 2 * j) 2)), (19, .int (fatP a (j + 1))), (20, .int (0)), (13, .int (dripP β ns)), (16, .int (fatP β nr)), (17, .int (β 1 6)), (18, .int (v)), (0, .ref b), (1, .ref (ad (0))), (2, .ref (ad (91))), (3, .int (nI (t))), (5, .int (nI (ns))), (6, .int (nI (nr))), (7, .ref (ad (136))), (8, .ref (ad (153))), (9, .ref (ad (154))), (10, .ref (ad (155))), (11, .ref (ad (156))), (12, .ref (ad (157))), (14, .ref (ad (158))), (15, .ref (ad (159)))]) hM.x hM.b dL_law_844 hl (k := 2) rfl (nI_1 (j)) (by decide) rfl (fun ls hl => ?_)
                    refine lv_goto (tgt := 559) hM.x hM.b dL_law_847 (by decide) ?_
                    refine W.widen (k := k1 + 16 * (j + 1)) (n := n1 + 96 * (j + 1)) (by omega) (by omega) ?_
                    exact ih (j + 1) (by omega) H locs ls (lv_sub hl [0, 3, 4, 5, 6, 7, 8, 9, 10, 11, 12, 13, 14, 15, 16, 17, 18, 19, 20, 21, 22] rfl) hw kk
                · skip
                  refine lv_aload_n hM.x hM.b dL_law_796 rfl (lv_at hl 10 rfl) ?_
                  refine lv_iload hM.x hM.b dL_law_797 (lv_at hl 2 rfl) ?_
                  refine k_xiK (rd_roast hR hq hjN).2.2.1 hw (k_runXV [.int (nI (j))] [] hM hw (m_X4_sideToFire l ((D, L), cA, ad) θ _ (nI (j)) hlst) (hw.dm kd_0 (by decide)) (sh4 kd_0) rfl (k_gV u_ml_L_146 u_im_X4_sideToFire u_se_X4_sideToFire u_ini_X4 u_co_X4_sideToFire) (q_X4_sideToFire) rfl rfl rfl ⟨(Nat.le_of_ble_eq_true rfl), (Nat.le_of_ble_eq_true rfl)⟩ hl.1 rfl (Nat.le_of_ble_eq_true rfl) dL_law_799 ⟨(by show _ ≤ (817018 : Nat); omega), (by show _ ≤ (6650127 : Nat); omega)⟩) (fun H locs hw => ?_)
                  refine lv_aload hM.x hM.b dL_law_802 (lv_at hl 17 rfl) ?_
                  refine lv_iload hM.x hM.b dL_law_804 (lv_at hl 2 rfl) ?_
                  refine k_ialdN (i := j) (n := nr) hM hw (hT.m 154 (by decide) (by decide)) ((hT.s154)) hjN (by omega) dL_law_806 ?_
                  refine lv_icmp_ne (tgt := 842) hM.x hM.b dL_law_807 (by decide) (fun cz => absurd (by rw [t3]; exact (side_c hI hC hA hjN).1 (Int32.not_le.mp c36)) cz) (fun _ => ?_)
                  refine lv_aload_n hM.x hM.b dL_law_810 rfl (lv_at hl 10 rfl) ?_
                  refine lv_iload hM.x hM.b dL_law_811 (lv_at hl 2 rfl) ?_
                  refine k_xiK (rd_roast hR hq hjN).2.2.1 hw (k_runXV [.int (nI (j))] [] hM hw (m_X4_sideToFire l ((D, L), cA, ad) θ _ (nI (j)) hlst) (hw.dm kd_0 (by decide)) (sh4 kd_0) rfl (k_gV u_ml_L_146 u_im_X4_sideToFire u_se_X4_sideToFire u_ini_X4 u_co_X4_sideToFire) (q_X4_sideToFire) rfl rfl rfl ⟨(Nat.le_of_ble_eq_true rfl), (Nat.le_of_ble_eq_true rfl)⟩ hl.1 rfl (Nat.le_of_ble_eq_true rfl) dL_law_813 ⟨(by show _ ≤ (817018 : Nat); omega), (by show _ ≤ (6650127 : Nat); omega)⟩) (fun H locs hw => ?_)
                  refine lv_aload hM.x hM.b dL_law_816 (lv_at hl 17 rfl) ?_
                  refine lv_iload hM.x hM.b dL_law_818 (lv_at hl 2 rfl) ?_
                  refine k_ialdN (i := j) (n := nr) hM hw (hT.m 154 (by decide) (by decide)) ((hT.s154)) hjN (by omega) dL_law_820 ?_
                  refine lv_icmp_eq (tgt := 844) hM.x hM.b dL_law_821 (by decide) (fun c38 => ?_) (fun c38 => ?_)
                  · skip
                    refine lv_iinc (v := nI (j + 1)) (lv' := [(21, .int (nI (j + 1))), (23, .int (gotP β j)), (22, .int (β (14 + 2 * j) 2)), (19, .int (fatP a (j + 1))), (20, .int (0)), (13, .int (dripP β ns)), (16, .int (fatP β nr)), (17, .int (β 1 6)), (18, .int (v)), (0, .ref b), (1, .ref (ad (0))), (2, .ref (ad (91))), (3, .int (nI (t))), (5, .int (nI (ns))), (6, .int (nI (nr))), (7, .ref (ad (136))), (8, .ref (ad (153))), (9, .ref (ad (154))), (10, .ref (ad (155))), (11, .ref (ad (156))), (12, .ref (ad (157))), (14, .ref (ad (158))), (15, .ref (ad (159)))]) hM.x hM.b dL_law_844 hl (k := 2) rfl (nI_1 (j)) (by decide) rfl (fun ls hl => ?_)
                    refine lv_goto (tgt := 559) hM.x hM.b dL_law_847 (by decide) ?_
                    refine W.widen (k := k1 + 16 * (j + 1)) (n := n1 + 96 * (j + 1)) (by omega) (by omega) ?_
                    exact ih (j + 1) (by omega) H locs ls (lv_sub hl [0, 3, 4, 5, 6, 7, 8, 9, 10, 11, 12, 13, 14, 15, 16, 17, 18, 19, 20, 21, 22] rfl) hw kk
                  · skip
                    refine lv_aload_n hM.x hM.b dL_law_824 rfl (lv_at hl 10 rfl) ?_
                    refine lv_iload hM.x hM.b dL_law_825 (lv_at hl 2 rfl) ?_
                    refine k_xiK (rd_roast hR hq hjN).2.2.1 hw (k_runXV [.int (nI (j))] [] hM hw (m_X4_sideToFire l ((D, L), cA, ad) θ _ (nI (j)) hlst) (hw.dm kd_0 (by decide)) (sh4 kd_0) rfl (k_gV u_ml_L_146 u_im_X4_sideToFire u_se_X4_sideToFire u_ini_X4 u_co_X4_sideToFire) (q_X4_sideToFire) rfl rfl rfl ⟨(Nat.le_of_ble_eq_true rfl), (Nat.le_of_ble_eq_true rfl)⟩ hl.1 rfl (Nat.le_of_ble_eq_true rfl) dL_law_827 ⟨(by show _ ≤ (817018 : Nat); omega), (by show _ ≤ (6650127 : Nat); omega)⟩) (fun H locs hw => ?_)
                    refine lv_aload hM.x hM.b dL_law_830 (lv_at hl 17 rfl) ?_
                    refine lv_iload hM.x hM.b dL_law_832 (lv_at hl 2 rfl) ?_
                    refine k_ialdN (i := j) (n := nr) hM hw (hT.m 154 (by decide) (by decide)) ((hT.s154)) hjN (by omega) dL_law_834 ?_
                    refine lv_iconst (v := 1) hM.x hM.b dL_law_835 (by decide) ?_
                    refine lv_iadd hM.x hM.b dL_law_836 ?_
                    refine lv_iconst (v := 4) hM.x hM.b dL_law_837 (by decide) ?_
                    refine lv_irem hM.x hM.b dL_law_838 (by decide) ?_
                    refine lv_icmp_eq (tgt := 844) hM.x hM.b dL_law_839 (by decide) (fun _ => ?_) (fun cz => absurd (by rw [t3]; exact (side_c hI hC hA hjN).2.resolve_left (fun z => c38 (by rw [t3]; exact z))) cz)
                    refine lv_iinc (v := nI (j + 1)) (lv' := [(21, .int (nI (j + 1))), (23, .int (gotP β j)), (22, .int (β (14 + 2 * j) 2)), (19, .int (fatP a (j + 1))), (20, .int (0)), (13, .int (dripP β ns)), (16, .int (fatP β nr)), (17, .int (β 1 6)), (18, .int (v)), (0, .ref b), (1, .ref (ad (0))), (2, .ref (ad (91))), (3, .int (nI (t))), (5, .int (nI (ns))), (6, .int (nI (nr))), (7, .ref (ad (136))), (8, .ref (ad (153))), (9, .ref (ad (154))), (10, .ref (ad (155))), (11, .ref (ad (156))), (12, .ref (ad (157))), (14, .ref (ad (158))), (15, .ref (ad (159)))]) hM.x hM.b dL_law_844 hl (k := 2) rfl (nI_1 (j)) (by decide) rfl (fun ls hl => ?_)
                    refine lv_goto (tgt := 559) hM.x hM.b dL_law_847 (by decide) ?_
                    refine W.widen (k := k1 + 16 * (j + 1)) (n := n1 + 96 * (j + 1)) (by omega) (by omega) ?_
                    exact ih (j + 1) (by omega) H locs ls (lv_sub hl [0, 3, 4, 5, 6, 7, 8, 9, 10, 11, 12, 13, 14, 15, 16, 17, 18, 19, 20, 21, 22] rfl) hw kk
              · skip
                refine lv_aload_n hM.x hM.b dL_law_780 rfl (lv_at hl 10 rfl) ?_
                refine lv_iload hM.x hM.b dL_law_781 (lv_at hl 2 rfl) ?_
                refine k_xiK (rd_roast hR hq hjN).2.2.2.2.2.2.2 hw (k_runXV [.int (nI (j))] [] hM hw (m_X4_isBurnt l ((D, L), cA, ad) θ _ (nI (j)) hlst) (hw.dm kd_0 (by decide)) (sh4 kd_0) rfl (k_gV u_ml_L_152 u_im_X4_isBurnt u_se_X4_isBurnt u_ini_X4 u_co_X4_isBurnt) (q_X4_isBurnt) rfl rfl rfl ⟨(Nat.le_of_ble_eq_true rfl), (Nat.le_of_ble_eq_true rfl)⟩ hl.1 rfl (Nat.le_of_ble_eq_true rfl) dL_law_783 ⟨(by show _ ≤ (817018 : Nat); omega), (by show _ ≤ (6650127 : Nat); omega)⟩) (fun H locs hw => ?_)
                refine lv_if_ne (tgt := 791) hM.x hM.b dL_law_786 (by decide) (fun _ => ?_) (fun cz => absurd cz (by rw [burnt_c hI hC hA hjN (bi_ne (fun z => c35 (tb.trans z)))]; exact bi_t))
                refine lv_iload hM.x hM.b dL_law_791 (lv_at hl 1 rfl) ?_
                refine lv_if_ge (tgt := 810) hM.x hM.b dL_law_793 (by decide) (fun c39 => ?_) (fun c39 => ?_)
                · skip
                  refine lv_aload_n hM.x hM.b dL_law_810 rfl (lv_at hl 10 rfl) ?_
                  refine lv_iload hM.x hM.b dL_law_811 (lv_at hl 2 rfl) ?_
                  refine k_xiK (rd_roast hR hq hjN).2.2.1 hw (k_runXV [.int (nI (j))] [] hM hw (m_X4_sideToFire l ((D, L), cA, ad) θ _ (nI (j)) hlst) (hw.dm kd_0 (by decide)) (sh4 kd_0) rfl (k_gV u_ml_L_146 u_im_X4_sideToFire u_se_X4_sideToFire u_ini_X4 u_co_X4_sideToFire) (q_X4_sideToFire) rfl rfl rfl ⟨(Nat.le_of_ble_eq_true rfl), (Nat.le_of_ble_eq_true rfl)⟩ hl.1 rfl (Nat.le_of_ble_eq_true rfl) dL_law_813 ⟨(by show _ ≤ (817018 : Nat); omega), (by show _ ≤ (6650127 : Nat); omega)⟩) (fun H locs hw => ?_)
                  refine lv_aload hM.x hM.b dL_law_816 (lv_at hl 17 rfl) ?_
                  refine lv_iload hM.x hM.b dL_law_818 (lv_at hl 2 rfl) ?_
                  refine k_ialdN (i := j) (n := nr) hM hw (hT.m 154 (by decide) (by decide)) ((hT.s154)) hjN (by omega) dL_law_820 ?_
                  refine lv_icmp_eq (tgt := 844) hM.x hM.b dL_law_821 (by decide) (fun c40 => ?_) (fun c40 => ?_)
                  · skip
                    refine lv_iinc (v := nI (j + 1)) (lv' := [(21, .int (nI (j + 1))), (23, .int (gotP β j)), (22, .int (β (14 + 2 * j) 2)), (19, .int (fatP a (j + 1))), (20, .int (0)), (13, .int (dripP β ns)), (16, .int (fatP β nr)), (17, .int (β 1 6)), (18, .int (v)), (0, .ref b), (1, .ref (ad (0))), (2, .ref (ad (91))), (3, .int (nI (t))), (5, .int (nI (ns))), (6, .int (nI (nr))), (7, .ref (ad (136))), (8, .ref (ad (153))), (9, .ref (ad (154))), (10, .ref (ad (155))), (11, .ref (ad (156))), (12, .ref (ad (157))), (14, .ref (ad (158))), (15, .ref (ad (159)))]) hM.x hM.b dL_law_844 hl (k := 2) rfl (nI_1 (j)) (by decide) rfl (fun ls hl => ?_)
                    refine lv_goto (tgt := 559) hM.x hM.b dL_law_847 (by decide) ?_
                    refine W.widen (k := k1 + 16 * (j + 1)) (n := n1 + 96 * (j + 1)) (by omega) (by omega) ?_
                    exact ih (j + 1) (by omega) H locs ls (lv_sub hl [0, 3, 4, 5, 6, 7, 8, 9, 10, 11, 12, 13, 14, 15, 16, 17, 18, 19, 20, 21, 22] rfl) hw kk
                  · skip
                    refine lv_aload_n hM.x hM.b dL_law_824 rfl (lv_at hl 10 rfl) ?_
                    refine lv_iload hM.x hM.b dL_law_825 (lv_at hl 2 rfl) ?_
                    refine k_xiK (rd_roast hR hq hjN).2.2.1 hw (k_runXV [.int (nI (j))] [] hM hw (m_X4_sideToFire l ((D, L), cA, ad) θ _ (nI (j)) hlst) (hw.dm kd_0 (by decide)) (sh4 kd_0) rfl (k_gV u_ml_L_146 u_im_X4_sideToFire u_se_X4_sideToFire u_ini_X4 u_co_X4_sideToFire) (q_X4_sideToFire) rfl rfl rfl ⟨(Nat.le_of_ble_eq_true rfl), (Nat.le_of_ble_eq_true rfl)⟩ hl.1 rfl (Nat.le_of_ble_eq_true rfl) dL_law_827 ⟨(by show _ ≤ (817018 : Nat); omega), (by show _ ≤ (6650127 : Nat); omega)⟩) (fun H locs hw => ?_)
                    refine lv_aload hM.x hM.b dL_law_830 (lv_at hl 17 rfl) ?_
                    refine lv_iload hM.x hM.b dL_law_832 (lv_at hl 2 rfl) ?_
                    refine k_ialdN (i := j) (n := nr) hM hw (hT.m 154 (by decide) (by decide)) ((hT.s154)) hjN (by omega) dL_law_834 ?_
                    refine lv_iconst (v := 1) hM.x hM.b dL_law_835 (by decide) ?_
                    refine lv_iadd hM.x hM.b dL_law_836 ?_
                    refine lv_iconst (v := 4) hM.x hM.b dL_law_837 (by decide) ?_
                    refine lv_irem hM.x hM.b dL_law_838 (by decide) ?_
                    refine lv_icmp_eq (tgt := 844) hM.x hM.b dL_law_839 (by decide) (fun _ => ?_) (fun cz => absurd (by rw [t3]; exact (side_c hI hC hA hjN).2.resolve_left (fun z => c40 (by rw [t3]; exact z))) cz)
                    refine lv_iinc (v := nI (j + 1)) (lv' := [(21, .int (nI (j + 1))), (23, .int (gotP β j)), (22, .int (β (14 + 2 * j) 2)), (19, .int (fatP a (j + 1))), (20, .int (0)), (13, .int (dripP β ns)), (16, .int (fatP β nr)), (17, .int (β 1 6)), (18, .int (v)), (0, .ref b), (1, .ref (ad (0))), (2, .ref (ad (91))), (3, .int (nI (t))), (5, .int (nI (ns))), (6, .int (nI (nr))), (7, .ref (ad (136))), (8, .ref (ad (153))), (9, .ref (ad (154))), (10, .ref (ad (155))), (11, .ref (ad (156))), (12, .ref (ad (157))), (14, .ref (ad (158))), (15, .ref (ad (159)))]) hM.x hM.b dL_law_844 hl (k := 2) rfl (nI_1 (j)) (by decide) rfl (fun ls hl => ?_)
                    refine lv_goto (tgt := 559) hM.x hM.b dL_law_847 (by decide) ?_
                    refine W.widen (k := k1 + 16 * (j + 1)) (n := n1 + 96 * (j + 1)) (by omega) (by omega) ?_
                    exact ih (j + 1) (by omega) H locs ls (lv_sub hl [0, 3, 4, 5, 6, 7, 8, 9, 10, 11, 12, 13, 14, 15, 16, 17, 18, 19, 20, 21, 22] rfl) hw kk
                · skip
                  refine lv_aload_n hM.x hM.b dL_law_796 rfl (lv_at hl 10 rfl) ?_
                  refine lv_iload hM.x hM.b dL_law_797 (lv_at hl 2 rfl) ?_
                  refine k_xiK (rd_roast hR hq hjN).2.2.1 hw (k_runXV [.int (nI (j))] [] hM hw (m_X4_sideToFire l ((D, L), cA, ad) θ _ (nI (j)) hlst) (hw.dm kd_0 (by decide)) (sh4 kd_0) rfl (k_gV u_ml_L_146 u_im_X4_sideToFire u_se_X4_sideToFire u_ini_X4 u_co_X4_sideToFire) (q_X4_sideToFire) rfl rfl rfl ⟨(Nat.le_of_ble_eq_true rfl), (Nat.le_of_ble_eq_true rfl)⟩ hl.1 rfl (Nat.le_of_ble_eq_true rfl) dL_law_799 ⟨(by show _ ≤ (817018 : Nat); omega), (by show _ ≤ (6650127 : Nat); omega)⟩) (fun H locs hw => ?_)
                  refine lv_aload hM.x hM.b dL_law_802 (lv_at hl 17 rfl) ?_
                  refine lv_iload hM.x hM.b dL_law_804 (lv_at hl 2 rfl) ?_
                  refine k_ialdN (i := j) (n := nr) hM hw (hT.m 154 (by decide) (by decide)) ((hT.s154)) hjN (by omega) dL_law_806 ?_
                  refine lv_icmp_ne (tgt := 842) hM.x hM.b dL_law_807 (by decide) (fun cz => absurd (by rw [t3]; exact (side_c hI hC hA hjN).1 (Int32.not_le.mp c39)) cz) (fun _ => ?_)
                  refine lv_aload_n hM.x hM.b dL_law_810 rfl (lv_at hl 10 rfl) ?_
                  refine lv_iload hM.x hM.b dL_law_811 (lv_at hl 2 rfl) ?_
                  refine k_xiK (rd_roast hR hq hjN).2.2.1 hw (k_runXV [.int (nI (j))] [] hM hw (m_X4_sideToFire l ((D, L), cA, ad) θ _ (nI (j)) hlst) (hw.dm kd_0 (by decide)) (sh4 kd_0) rfl (k_gV u_ml_L_146 u_im_X4_sideToFire u_se_X4_sideToFire u_ini_X4 u_co_X4_sideToFire) (q_X4_sideToFire) rfl rfl rfl ⟨(Nat.le_of_ble_eq_true rfl), (Nat.le_of_ble_eq_true rfl)⟩ hl.1 rfl (Nat.le_of_ble_eq_true rfl) dL_law_813 ⟨(by show _ ≤ (817018 : Nat); omega), (by show _ ≤ (6650127 : Nat); omega)⟩) (fun H locs hw => ?_)
                  refine lv_aload hM.x hM.b dL_law_816 (lv_at hl 17 rfl) ?_
                  refine lv_iload hM.x hM.b dL_law_818 (lv_at hl 2 rfl) ?_
                  refine k_ialdN (i := j) (n := nr) hM hw (hT.m 154 (by decide) (by decide)) ((hT.s154)) hjN (by omega) dL_law_820 ?_
                  refine lv_icmp_eq (tgt := 844) hM.x hM.b dL_law_821 (by decide) (fun c41 => ?_) (fun c41 => ?_)
                  · skip
                    refine lv_iinc (v := nI (j + 1)) (lv' := [(21, .int (nI (j + 1))), (23, .int (gotP β j)), (22, .int (β (14 + 2 * j) 2)), (19, .int (fatP a (j + 1))), (20, .int (0)), (13, .int (dripP β ns)), (16, .int (fatP β nr)), (17, .int (β 1 6)), (18, .int (v)), (0, .ref b), (1, .ref (ad (0))), (2, .ref (ad (91))), (3, .int (nI (t))), (5, .int (nI (ns))), (6, .int (nI (nr))), (7, .ref (ad (136))), (8, .ref (ad (153))), (9, .ref (ad (154))), (10, .ref (ad (155))), (11, .ref (ad (156))), (12, .ref (ad (157))), (14, .ref (ad (158))), (15, .ref (ad (159)))]) hM.x hM.b dL_law_844 hl (k := 2) rfl (nI_1 (j)) (by decide) rfl (fun ls hl => ?_)
                    refine lv_goto (tgt := 559) hM.x hM.b dL_law_847 (by decide) ?_
                    refine W.widen (k := k1 + 16 * (j + 1)) (n := n1 + 96 * (j + 1)) (by omega) (by omega) ?_
                    exact ih (j + 1) (by omega) H locs ls (lv_sub hl [0, 3, 4, 5, 6, 7, 8, 9, 10, 11, 12, 13, 14, 15, 16, 17, 18, 19, 20, 21, 22] rfl) hw kk
                  · skip
                    refine lv_aload_n hM.x hM.b dL_law_824 rfl (lv_at hl 10 rfl) ?_
                    refine lv_iload hM.x hM.b dL_law_825 (lv_at hl 2 rfl) ?_
                    refine k_xiK (rd_roast hR hq hjN).2.2.1 hw (k_runXV [.int (nI (j))] [] hM hw (m_X4_sideToFire l ((D, L), cA, ad) θ _ (nI (j)) hlst) (hw.dm kd_0 (by decide)) (sh4 kd_0) rfl (k_gV u_ml_L_146 u_im_X4_sideToFire u_se_X4_sideToFire u_ini_X4 u_co_X4_sideToFire) (q_X4_sideToFire) rfl rfl rfl ⟨(Nat.le_of_ble_eq_true rfl), (Nat.le_of_ble_eq_true rfl)⟩ hl.1 rfl (Nat.le_of_ble_eq_true rfl) dL_law_827 ⟨(by show _ ≤ (817018 : Nat); omega), (by show _ ≤ (6650127 : Nat); omega)⟩) (fun H locs hw => ?_)
                    refine lv_aload hM.x hM.b dL_law_830 (lv_at hl 17 rfl) ?_
                    refine lv_iload hM.x hM.b dL_law_832 (lv_at hl 2 rfl) ?_
                    refine k_ialdN (i := j) (n := nr) hM hw (hT.m 154 (by decide) (by decide)) ((hT.s154)) hjN (by omega) dL_law_834 ?_
                    refine lv_iconst (v := 1) hM.x hM.b dL_law_835 (by decide) ?_
                    refine lv_iadd hM.x hM.b dL_law_836 ?_
                    refine lv_iconst (v := 4) hM.x hM.b dL_law_837 (by decide) ?_
                    refine lv_irem hM.x hM.b dL_law_838 (by decide) ?_
                    refine lv_icmp_eq (tgt := 844) hM.x hM.b dL_law_839 (by decide) (fun _ => ?_) (fun cz => absurd (by rw [t3]; exact (side_c hI hC hA hjN).2.resolve_left (fun z => c41 (by rw [t3]; exact z))) cz)
                    refine lv_iinc (v := nI (j + 1)) (lv' := [(21, .int (nI (j + 1))), (23, .int (gotP β j)), (22, .int (β (14 + 2 * j) 2)), (19, .int (fatP a (j + 1))), (20, .int (0)), (13, .int (dripP β ns)), (16, .int (fatP β nr)), (17, .int (β 1 6)), (18, .int (v)), (0, .ref b), (1, .ref (ad (0))), (2, .ref (ad (91))), (3, .int (nI (t))), (5, .int (nI (ns))), (6, .int (nI (nr))), (7, .ref (ad (136))), (8, .ref (ad (153))), (9, .ref (ad (154))), (10, .ref (ad (155))), (11, .ref (ad (156))), (12, .ref (ad (157))), (14, .ref (ad (158))), (15, .ref (ad (159)))]) hM.x hM.b dL_law_844 hl (k := 2) rfl (nI_1 (j)) (by decide) rfl (fun ls hl => ?_)
                    refine lv_goto (tgt := 559) hM.x hM.b dL_law_847 (by decide) ?_
                    refine W.widen (k := k1 + 16 * (j + 1)) (n := n1 + 96 * (j + 1)) (by omega) (by omega) ?_
                    exact ih (j + 1) (by omega) H locs ls (lv_sub hl [0, 3, 4, 5, 6, 7, 8, 9, 10, 11, 12, 13, 14, 15, 16, 17, 18, 19, 20, 21, 22] rfl) hw kk
            · skip
              refine lv_aload hM.x hM.b dL_law_754 (lv_at hl 18 rfl) ?_
              refine lv_iload hM.x hM.b dL_law_756 (lv_at hl 2 rfl) ?_
              refine k_ialdN (i := j) (n := nr) hM hw (hT.m 155 (by decide) (by decide)) ((hT.s155)) hjN (by omega) dL_law_758 ?_
              refine lv_iconst (v := 1) hM.x hM.b dL_law_759 (by decide) ?_
              refine lv_isub hM.x hM.b dL_law_760 ?_
              refine lv_goto (tgt := 769) hM.x hM.b dL_law_761 (by decide) ?_
              refine lv_icmp_ne (tgt := 789) hM.x hM.b dL_law_769 (by decide) (fun cz => absurd (by rw [t5]; exact wet_c1 hI hC hA hjN c26 (by rw [← t5]; exact c34)) cz) (fun _ => ?_)
              refine lv_aload hM.x hM.b dL_law_772 (lv_at hl 19 rfl) ?_
              refine lv_iload hM.x hM.b dL_law_774 (lv_at hl 2 rfl) ?_
              refine k_zald (n := nr) hM hw (hT.m 156 (by decide) (by decide)) hT.s156 (vp_in_nI hjN (by omega)) dL_law_776 ?_
              rw [nI_clamp (by omega)]
              refine lv_if_eq (tgt := 791) hM.x hM.b dL_law_777 (by decide) (fun c42 => ?_) (fun c42 => ?_)
              · skip
                refine lv_iload hM.x hM.b dL_law_791 (lv_at hl 1 rfl) ?_
                refine lv_if_ge (tgt := 810) hM.x hM.b dL_law_793 (by decide) (fun c43 => ?_) (fun c43 => ?_)
                · skip
                  refine lv_aload_n hM.x hM.b dL_law_810 rfl (lv_at hl 10 rfl) ?_
                  refine lv_iload hM.x hM.b dL_law_811 (lv_at hl 2 rfl) ?_
                  refine k_xiK (rd_roast hR hq hjN).2.2.1 hw (k_runXV [.int (nI (j))] [] hM hw (m_X4_sideToFire l ((D, L), cA, ad) θ _ (nI (j)) hlst) (hw.dm kd_0 (by decide)) (sh4 kd_0) rfl (k_gV u_ml_L_146 u_im_X4_sideToFire u_se_X4_sideToFire u_ini_X4 u_co_X4_sideToFire) (q_X4_sideToFire) rfl rfl rfl ⟨(Nat.le_of_ble_eq_true rfl), (Nat.le_of_ble_eq_true rfl)⟩ hl.1 rfl (Nat.le_of_ble_eq_true rfl) dL_law_813 ⟨(by show _ ≤ (817018 : Nat); omega), (by show _ ≤ (6650127 : Nat); omega)⟩) (fun H locs hw => ?_)
                  refine lv_aload hM.x hM.b dL_law_816 (lv_at hl 17 rfl) ?_
                  refine lv_iload hM.x hM.b dL_law_818 (lv_at hl 2 rfl) ?_
                  refine k_ialdN (i := j) (n := nr) hM hw (hT.m 154 (by decide) (by decide)) ((hT.s154)) hjN (by omega) dL_law_820 ?_
                  refine lv_icmp_eq (tgt := 844) hM.x hM.b dL_law_821 (by decide) (fun c44 => ?_) (fun c44 => ?_)
                  · skip
                    refine lv_iinc (v := nI (j + 1)) (lv' := [(21, .int (nI (j + 1))), (23, .int (gotP β j)), (22, .int (β (14 + 2 * j) 2)), (19, .int (fatP a (j + 1))), (20, .int (0)), (13, .int (dripP β ns)), (16, .int (fatP β nr)), (17, .int (β 1 6)), (18, .int (v)), (0, .ref b), (1, .ref (ad (0))), (2, .ref (ad (91))), (3, .int (nI (t))), (5, .int (nI (ns))), (6, .int (nI (nr))), (7, .ref (ad (136))), (8, .ref (ad (153))), (9, .ref (ad (154))), (10, .ref (ad (155))), (11, .ref (ad (156))), (12, .ref (ad (157))), (14, .ref (ad (158))), (15, .ref (ad (159)))]) hM.x hM.b dL_law_844 hl (k := 2) rfl (nI_1 (j)) (by decide) rfl (fun ls hl => ?_)
                    refine lv_goto (tgt := 559) hM.x hM.b dL_law_847 (by decide) ?_
                    refine W.widen (k := k1 + 16 * (j + 1)) (n := n1 + 96 * (j + 1)) (by omega) (by omega) ?_
                    exact ih (j + 1) (by omega) H locs ls (lv_sub hl [0, 3, 4, 5, 6, 7, 8, 9, 10, 11, 12, 13, 14, 15, 16, 17, 18, 19, 20, 21, 22] rfl) hw kk
                  · skip
                    refine lv_aload_n hM.x hM.b dL_law_824 rfl (lv_at hl 10 rfl) ?_
                    refine lv_iload hM.x hM.b dL_law_825 (lv_at hl 2 rfl) ?_
                    refine k_xiK (rd_roast hR hq hjN).2.2.1 hw (k_runXV [.int (nI (j))] [] hM hw (m_X4_sideToFire l ((D, L), cA, ad) θ _ (nI (j)) hlst) (hw.dm kd_0 (by decide)) (sh4 kd_0) rfl (k_gV u_ml_L_146 u_im_X4_sideToFire u_se_X4_sideToFire u_ini_X4 u_co_X4_sideToFire) (q_X4_sideToFire) rfl rfl rfl ⟨(Nat.le_of_ble_eq_true rfl), (Nat.le_of_ble_eq_true rfl)⟩ hl.1 rfl (Nat.le_of_ble_eq_true rfl) dL_law_827 ⟨(by show _ ≤ (817018 : Nat); omega), (by show _ ≤ (6650127 : Nat); omega)⟩) (fun H locs hw => ?_)
                    refine lv_aload hM.x hM.b dL_law_830 (lv_at hl 17 rfl) ?_
                    refine lv_iload hM.x hM.b dL_law_832 (lv_at hl 2 rfl) ?_
                    refine k_ialdN (i := j) (n := nr) hM hw (hT.m 154 (by decide) (by decide)) ((hT.s154)) hjN (by omega) dL_law_834 ?_
                    refine lv_iconst (v := 1) hM.x hM.b dL_law_835 (by decide) ?_
                    refine lv_iadd hM.x hM.b dL_law_836 ?_
                    refine lv_iconst (v := 4) hM.x hM.b dL_law_837 (by decide) ?_
                    refine lv_irem hM.x hM.b dL_law_838 (by decide) ?_
                    refine lv_icmp_eq (tgt := 844) hM.x hM.b dL_law_839 (by decide) (fun _ => ?_) (fun cz => absurd (by rw [t3]; exact (side_c hI hC hA hjN).2.resolve_left (fun z => c44 (by rw [t3]; exact z))) cz)
                    refine lv_iinc (v := nI (j + 1)) (lv' := [(21, .int (nI (j + 1))), (23, .int (gotP β j)), (22, .int (β (14 + 2 * j) 2)), (19, .int (fatP a (j + 1))), (20, .int (0)), (13, .int (dripP β ns)), (16, .int (fatP β nr)), (17, .int (β 1 6)), (18, .int (v)), (0, .ref b), (1, .ref (ad (0))), (2, .ref (ad (91))), (3, .int (nI (t))), (5, .int (nI (ns))), (6, .int (nI (nr))), (7, .ref (ad (136))), (8, .ref (ad (153))), (9, .ref (ad (154))), (10, .ref (ad (155))), (11, .ref (ad (156))), (12, .ref (ad (157))), (14, .ref (ad (158))), (15, .ref (ad (159)))]) hM.x hM.b dL_law_844 hl (k := 2) rfl (nI_1 (j)) (by decide) rfl (fun ls hl => ?_)
                    refine lv_goto (tgt := 559) hM.x hM.b dL_law_847 (by decide) ?_
                    refine W.widen (k := k1 + 16 * (j + 1)) (n := n1 + 96 * (j + 1)) (by omega) (by omega) ?_
                    exact ih (j + 1) (by omega) H locs ls (lv_sub hl [0, 3, 4, 5, 6, 7, 8, 9, 10, 11, 12, 13, 14, 15, 16, 17, 18, 19, 20, 21, 22] rfl) hw kk
                · skip
                  refine lv_aload_n hM.x hM.b dL_law_796 rfl (lv_at hl 10 rfl) ?_
                  refine lv_iload hM.x hM.b dL_law_797 (lv_at hl 2 rfl) ?_
                  refine k_xiK (rd_roast hR hq hjN).2.2.1 hw (k_runXV [.int (nI (j))] [] hM hw (m_X4_sideToFire l ((D, L), cA, ad) θ _ (nI (j)) hlst) (hw.dm kd_0 (by decide)) (sh4 kd_0) rfl (k_gV u_ml_L_146 u_im_X4_sideToFire u_se_X4_sideToFire u_ini_X4 u_co_X4_sideToFire) (q_X4_sideToFire) rfl rfl rfl ⟨(Nat.le_of_ble_eq_true rfl), (Nat.le_of_ble_eq_true rfl)⟩ hl.1 rfl (Nat.le_of_ble_eq_true rfl) dL_law_799 ⟨(by show _ ≤ (817018 : Nat); omega), (by show _ ≤ (6650127 : Nat); omega)⟩) (fun H locs hw => ?_)
                  refine lv_aload hM.x hM.b dL_law_802 (lv_at hl 17 rfl) ?_
                  refine lv_iload hM.x hM.b dL_law_804 (lv_at hl 2 rfl) ?_
                  refine k_ialdN (i := j) (n := nr) hM hw (hT.m 154 (by decide) (by decide)) ((hT.s154)) hjN (by omega) dL_law_806 ?_
                  refine lv_icmp_ne (tgt := 842) hM.x hM.b dL_law_807 (by decide) (fun cz => absurd (by rw [t3]; exact (side_c hI hC hA hjN).1 (Int32.not_le.mp c43)) cz) (fun _ => ?_)
                  refine lv_aload_n hM.x hM.b dL_law_810 rfl (lv_at hl 10 rfl) ?_
                  refine lv_iload hM.x hM.b dL_law_811 (lv_at hl 2 rfl) ?_
                  refine k_xiK (rd_roast hR hq hjN).2.2.1 hw (k_runXV [.int (nI (j))] [] hM hw (m_X4_sideToFire l ((D, L), cA, ad) θ _ (nI (j)) hlst) (hw.dm kd_0 (by decide)) (sh4 kd_0) rfl (k_gV u_ml_L_146 u_im_X4_sideToFire u_se_X4_sideToFire u_ini_X4 u_co_X4_sideToFire) (q_X4_sideToFire) rfl rfl rfl ⟨(Nat.le_of_ble_eq_true rfl), (Nat.le_of_ble_eq_true rfl)⟩ hl.1 rfl (Nat.le_of_ble_eq_true rfl) dL_law_813 ⟨(by show _ ≤ (817018 : Nat); omega), (by show _ ≤ (6650127 : Nat); omega)⟩) (fun H locs hw => ?_)
                  refine lv_aload hM.x hM.b dL_law_816 (lv_at hl 17 rfl) ?_
                  refine lv_iload hM.x hM.b dL_law_818 (lv_at hl 2 rfl) ?_
                  refine k_ialdN (i := j) (n := nr) hM hw (hT.m 154 (by decide) (by decide)) ((hT.s154)) hjN (by omega) dL_law_820 ?_
                  refine lv_icmp_eq (tgt := 844) hM.x hM.b dL_law_821 (by decide) (fun c45 => ?_) (fun c45 => ?_)
                  · skip
                    refine lv_iinc (v := nI (j + 1)) (lv' := [(21, .int (nI (j + 1))), (23, .int (gotP β j)), (22, .int (β (14 + 2 * j) 2)), (19, .int (fatP a (j + 1))), (20, .int (0)), (13, .int (dripP β ns)), (16, .int (fatP β nr)), (17, .int (β 1 6)), (18, .int (v)), (0, .ref b), (1, .ref (ad (0))), (2, .ref (ad (91))), (3, .int (nI (t))), (5, .int (nI (ns))), (6, .int (nI (nr))), (7, .ref (ad (136))), (8, .ref (ad (153))), (9, .ref (ad (154))), (10, .ref (ad (155))), (11, .ref (ad (156))), (12, .ref (ad (157))), (14, .ref (ad (158))), (15, .ref (ad (159)))]) hM.x hM.b dL_law_844 hl (k := 2) rfl (nI_1 (j)) (by decide) rfl (fun ls hl => ?_)
                    refine lv_goto (tgt := 559) hM.x hM.b dL_law_847 (by decide) ?_
                    refine W.widen (k := k1 + 16 * (j + 1)) (n := n1 + 96 * (j + 1)) (by omega) (by omega) ?_
                    exact ih (j + 1) (by omega) H locs ls (lv_sub hl [0, 3, 4, 5, 6, 7, 8, 9, 10, 11, 12, 13, 14, 15, 16, 17, 18, 19, 20, 21, 22] rfl) hw kk
                  · skip
                    refine lv_aload_n hM.x hM.b dL_law_824 rfl (lv_at hl 10 rfl) ?_
                    refine lv_iload hM.x hM.b dL_law_825 (lv_at hl 2 rfl) ?_
                    refine k_xiK (rd_roast hR hq hjN).2.2.1 hw (k_runXV [.int (nI (j))] [] hM hw (m_X4_sideToFire l ((D, L), cA, ad) θ _ (nI (j)) hlst) (hw.dm kd_0 (by decide)) (sh4 kd_0) rfl (k_gV u_ml_L_146 u_im_X4_sideToFire u_se_X4_sideToFire u_ini_X4 u_co_X4_sideToFire) (q_X4_sideToFire) rfl rfl rfl ⟨(Nat.le_of_ble_eq_true rfl), (Nat.le_of_ble_eq_true rfl)⟩ hl.1 rfl (Nat.le_of_ble_eq_true rfl) dL_law_827 ⟨(by show _ ≤ (817018 : Nat); omega), (by show _ ≤ (6650127 : Nat); omega)⟩) (fun H locs hw => ?_)
                    refine lv_aload hM.x hM.b dL_law_830 (lv_at hl 17 rfl) ?_
                    refine lv_iload hM.x hM.b dL_law_832 (lv_at hl 2 rfl) ?_
                    refine k_ialdN (i := j) (n := nr) hM hw (hT.m 154 (by decide) (by decide)) ((hT.s154)) hjN (by omega) dL_law_834 ?_
                    refine lv_iconst (v := 1) hM.x hM.b dL_law_835 (by decide) ?_
                    refine lv_iadd hM.x hM.b dL_law_836 ?_
                    refine lv_iconst (v := 4) hM.x hM.b dL_law_837 (by decide) ?_
                    refine lv_irem hM.x hM.b dL_law_838 (by decide) ?_
                    refine lv_icmp_eq (tgt := 844) hM.x hM.b dL_law_839 (by decide) (fun _ => ?_) (fun cz => absurd (by rw [t3]; exact (side_c hI hC hA hjN).2.resolve_left (fun z => c45 (by rw [t3]; exact z))) cz)
                    refine lv_iinc (v := nI (j + 1)) (lv' := [(21, .int (nI (j + 1))), (23, .int (gotP β j)), (22, .int (β (14 + 2 * j) 2)), (19, .int (fatP a (j + 1))), (20, .int (0)), (13, .int (dripP β ns)), (16, .int (fatP β nr)), (17, .int (β 1 6)), (18, .int (v)), (0, .ref b), (1, .ref (ad (0))), (2, .ref (ad (91))), (3, .int (nI (t))), (5, .int (nI (ns))), (6, .int (nI (nr))), (7, .ref (ad (136))), (8, .ref (ad (153))), (9, .ref (ad (154))), (10, .ref (ad (155))), (11, .ref (ad (156))), (12, .ref (ad (157))), (14, .ref (ad (158))), (15, .ref (ad (159)))]) hM.x hM.b dL_law_844 hl (k := 2) rfl (nI_1 (j)) (by decide) rfl (fun ls hl => ?_)
                    refine lv_goto (tgt := 559) hM.x hM.b dL_law_847 (by decide) ?_
                    refine W.widen (k := k1 + 16 * (j + 1)) (n := n1 + 96 * (j + 1)) (by omega) (by omega) ?_
                    exact ih (j + 1) (by omega) H locs ls (lv_sub hl [0, 3, 4, 5, 6, 7, 8, 9, 10, 11, 12, 13, 14, 15, 16, 17, 18, 19, 20, 21, 22] rfl) hw kk
              · skip
                refine lv_aload_n hM.x hM.b dL_law_780 rfl (lv_at hl 10 rfl) ?_
                refine lv_iload hM.x hM.b dL_law_781 (lv_at hl 2 rfl) ?_
                refine k_xiK (rd_roast hR hq hjN).2.2.2.2.2.2.2 hw (k_runXV [.int (nI (j))] [] hM hw (m_X4_isBurnt l ((D, L), cA, ad) θ _ (nI (j)) hlst) (hw.dm kd_0 (by decide)) (sh4 kd_0) rfl (k_gV u_ml_L_152 u_im_X4_isBurnt u_se_X4_isBurnt u_ini_X4 u_co_X4_isBurnt) (q_X4_isBurnt) rfl rfl rfl ⟨(Nat.le_of_ble_eq_true rfl), (Nat.le_of_ble_eq_true rfl)⟩ hl.1 rfl (Nat.le_of_ble_eq_true rfl) dL_law_783 ⟨(by show _ ≤ (817018 : Nat); omega), (by show _ ≤ (6650127 : Nat); omega)⟩) (fun H locs hw => ?_)
                refine lv_if_ne (tgt := 791) hM.x hM.b dL_law_786 (by decide) (fun _ => ?_) (fun cz => absurd cz (by rw [burnt_c hI hC hA hjN (bi_ne (fun z => c42 (tb.trans z)))]; exact bi_t))
                refine lv_iload hM.x hM.b dL_law_791 (lv_at hl 1 rfl) ?_
                refine lv_if_ge (tgt := 810) hM.x hM.b dL_law_793 (by decide) (fun c46 => ?_) (fun c46 => ?_)
                · skip
                  refine lv_aload_n hM.x hM.b dL_law_810 rfl (lv_at hl 10 rfl) ?_
                  refine lv_iload hM.x hM.b dL_law_811 (lv_at hl 2 rfl) ?_
                  refine k_xiK (rd_roast hR hq hjN).2.2.1 hw (k_runXV [.int (nI (j))] [] hM hw (m_X4_sideToFire l ((D, L), cA, ad) θ _ (nI (j)) hlst) (hw.dm kd_0 (by decide)) (sh4 kd_0) rfl (k_gV u_ml_L_146 u_im_X4_sideToFire u_se_X4_sideToFire u_ini_X4 u_co_X4_sideToFire) (q_X4_sideToFire) rfl rfl rfl ⟨(Nat.le_of_ble_eq_true rfl), (Nat.le_of_ble_eq_true rfl)⟩ hl.1 rfl (Nat.le_of_ble_eq_true rfl) dL_law_813 ⟨(by show _ ≤ (817018 : Nat); omega), (by show _ ≤ (6650127 : Nat); omega)⟩) (fun H locs hw => ?_)
                  refine lv_aload hM.x hM.b dL_law_816 (lv_at hl 17 rfl) ?_
                  refine lv_iload hM.x hM.b dL_law_818 (lv_at hl 2 rfl) ?_
                  refine k_ialdN (i := j) (n := nr) hM hw (hT.m 154 (by decide) (by decide)) ((hT.s154)) hjN (by omega) dL_law_820 ?_
                  refine lv_icmp_eq (tgt := 844) hM.x hM.b dL_law_821 (by decide) (fun c47 => ?_) (fun c47 => ?_)
                  · skip
                    refine lv_iinc (v := nI (j + 1)) (lv' := [(21, .int (nI (j + 1))), (23, .int (gotP β j)), (22, .int (β (14 + 2 * j) 2)), (19, .int (fatP a (j + 1))), (20, .int (0)), (13, .int (dripP β ns)), (16, .int (fatP β nr)), (17, .int (β 1 6)), (18, .int (v)), (0, .ref b), (1, .ref (ad (0))), (2, .ref (ad (91))), (3, .int (nI (t))), (5, .int (nI (ns))), (6, .int (nI (nr))), (7, .ref (ad (136))), (8, .ref (ad (153))), (9, .ref (ad (154))), (10, .ref (ad (155))), (11, .ref (ad (156))), (12, .ref (ad (157))), (14, .ref (ad (158))), (15, .ref (ad (159)))]) hM.x hM.b dL_law_844 hl (k := 2) rfl (nI_1 (j)) (by decide) rfl (fun ls hl => ?_)
                    refine lv_goto (tgt := 559) hM.x hM.b dL_law_847 (by decide) ?_
                    refine W.widen (k := k1 + 16 * (j + 1)) (n := n1 + 96 * (j + 1)) (by omega) (by omega) ?_
                    exact ih (j + 1) (by omega) H locs ls (lv_sub hl [0, 3, 4, 5, 6, 7, 8, 9, 10, 11, 12, 13, 14, 15, 16, 17, 18, 19, 20, 21, 22] rfl) hw kk
                  · skip
                    refine lv_aload_n hM.x hM.b dL_law_824 rfl (lv_at hl 10 rfl) ?_
                    refine lv_iload hM.x hM.b dL_law_825 (lv_at hl 2 rfl) ?_
                    refine k_xiK (rd_roast hR hq hjN).2.2.1 hw (k_runXV [.int (nI (j))] [] hM hw (m_X4_sideToFire l ((D, L), cA, ad) θ _ (nI (j)) hlst) (hw.dm kd_0 (by decide)) (sh4 kd_0) rfl (k_gV u_ml_L_146 u_im_X4_sideToFire u_se_X4_sideToFire u_ini_X4 u_co_X4_sideToFire) (q_X4_sideToFire) rfl rfl rfl ⟨(Nat.le_of_ble_eq_true rfl), (Nat.le_of_ble_eq_true rfl)⟩ hl.1 rfl (Nat.le_of_ble_eq_true rfl) dL_law_827 ⟨(by show _ ≤ (817018 : Nat); omega), (by show _ ≤ (6650127 : Nat); omega)⟩) (fun H locs hw => ?_)
                    refine lv_aload hM.x hM.b dL_law_830 (lv_at hl 17 rfl) ?_
                    refine lv_iload hM.x hM.b dL_law_832 (lv_at hl 2 rfl) ?_
                    refine k_ialdN (i := j) (n := nr) hM hw (hT.m 154 (by decide) (by decide)) ((hT.s154)) hjN (by omega) dL_law_834 ?_
                    refine lv_iconst (v := 1) hM.x hM.b dL_law_835 (by decide) ?_
                    refine lv_iadd hM.x hM.b dL_law_836 ?_
                    refine lv_iconst (v := 4) hM.x hM.b dL_law_837 (by decide) ?_
                    refine lv_irem hM.x hM.b dL_law_838 (by decide) ?_
                    refine lv_icmp_eq (tgt := 844) hM.x hM.b dL_law_839 (by decide) (fun _ => ?_) (fun cz => absurd (by rw [t3]; exact (side_c hI hC hA hjN).2.resolve_left (fun z => c47 (by rw [t3]; exact z))) cz)
                    refine lv_iinc (v := nI (j + 1)) (lv' := [(21, .int (nI (j + 1))), (23, .int (gotP β j)), (22, .int (β (14 + 2 * j) 2)), (19, .int (fatP a (j + 1))), (20, .int (0)), (13, .int (dripP β ns)), (16, .int (fatP β nr)), (17, .int (β 1 6)), (18, .int (v)), (0, .ref b), (1, .ref (ad (0))), (2, .ref (ad (91))), (3, .int (nI (t))), (5, .int (nI (ns))), (6, .int (nI (nr))), (7, .ref (ad (136))), (8, .ref (ad (153))), (9, .ref (ad (154))), (10, .ref (ad (155))), (11, .ref (ad (156))), (12, .ref (ad (157))), (14, .ref (ad (158))), (15, .ref (ad (159)))]) hM.x hM.b dL_law_844 hl (k := 2) rfl (nI_1 (j)) (by decide) rfl (fun ls hl => ?_)
                    refine lv_goto (tgt := 559) hM.x hM.b dL_law_847 (by decide) ?_
                    refine W.widen (k := k1 + 16 * (j + 1)) (n := n1 + 96 * (j + 1)) (by omega) (by omega) ?_
                    exact ih (j + 1) (by omega) H locs ls (lv_sub hl [0, 3, 4, 5, 6, 7, 8, 9, 10, 11, 12, 13, 14, 15, 16, 17, 18, 19, 20, 21, 22] rfl) hw kk
                · skip
                  refine lv_aload_n hM.x hM.b dL_law_796 rfl (lv_at hl 10 rfl) ?_
                  refine lv_iload hM.x hM.b dL_law_797 (lv_at hl 2 rfl) ?_
                  refine k_xiK (rd_roast hR hq hjN).2.2.1 hw (k_runXV [.int (nI (j))] [] hM hw (m_X4_sideToFire l ((D, L), cA, ad) θ _ (nI (j)) hlst) (hw.dm kd_0 (by decide)) (sh4 kd_0) rfl (k_gV u_ml_L_146 u_im_X4_sideToFire u_se_X4_sideToFire u_ini_X4 u_co_X4_sideToFire) (q_X4_sideToFire) rfl rfl rfl ⟨(Nat.le_of_ble_eq_true rfl), (Nat.le_of_ble_eq_true rfl)⟩ hl.1 rfl (Nat.le_of_ble_eq_true rfl) dL_law_799 ⟨(by show _ ≤ (817018 : Nat); omega), (by show _ ≤ (6650127 : Nat); omega)⟩) (fun H locs hw => ?_)
                  refine lv_aload hM.x hM.b dL_law_802 (lv_at hl 17 rfl) ?_
                  refine lv_iload hM.x hM.b dL_law_804 (lv_at hl 2 rfl) ?_
                  refine k_ialdN (i := j) (n := nr) hM hw (hT.m 154 (by decide) (by decide)) ((hT.s154)) hjN (by omega) dL_law_806 ?_
                  refine lv_icmp_ne (tgt := 842) hM.x hM.b dL_law_807 (by decide) (fun cz => absurd (by rw [t3]; exact (side_c hI hC hA hjN).1 (Int32.not_le.mp c46)) cz) (fun _ => ?_)
                  refine lv_aload_n hM.x hM.b dL_law_810 rfl (lv_at hl 10 rfl) ?_
                  refine lv_iload hM.x hM.b dL_law_811 (lv_at hl 2 rfl) ?_
                  refine k_xiK (rd_roast hR hq hjN).2.2.1 hw (k_runXV [.int (nI (j))] [] hM hw (m_X4_sideToFire l ((D, L), cA, ad) θ _ (nI (j)) hlst) (hw.dm kd_0 (by decide)) (sh4 kd_0) rfl (k_gV u_ml_L_146 u_im_X4_sideToFire u_se_X4_sideToFire u_ini_X4 u_co_X4_sideToFire) (q_X4_sideToFire) rfl rfl rfl ⟨(Nat.le_of_ble_eq_true rfl), (Nat.le_of_ble_eq_true rfl)⟩ hl.1 rfl (Nat.le_of_ble_eq_true rfl) dL_law_813 ⟨(by show _ ≤ (817018 : Nat); omega), (by show _ ≤ (6650127 : Nat); omega)⟩) (fun H locs hw => ?_)
                  refine lv_aload hM.x hM.b dL_law_816 (lv_at hl 17 rfl) ?_
                  refine lv_iload hM.x hM.b dL_law_818 (lv_at hl 2 rfl) ?_
                  refine k_ialdN (i := j) (n := nr) hM hw (hT.m 154 (by decide) (by decide)) ((hT.s154)) hjN (by omega) dL_law_820 ?_
                  refine lv_icmp_eq (tgt := 844) hM.x hM.b dL_law_821 (by decide) (fun c48 => ?_) (fun c48 => ?_)
                  · skip
                    refine lv_iinc (v := nI (j + 1)) (lv' := [(21, .int (nI (j + 1))), (23, .int (gotP β j)), (22, .int (β (14 + 2 * j) 2)), (19, .int (fatP a (j + 1))), (20, .int (0)), (13, .int (dripP β ns)), (16, .int (fatP β nr)), (17, .int (β 1 6)), (18, .int (v)), (0, .ref b), (1, .ref (ad (0))), (2, .ref (ad (91))), (3, .int (nI (t))), (5, .int (nI (ns))), (6, .int (nI (nr))), (7, .ref (ad (136))), (8, .ref (ad (153))), (9, .ref (ad (154))), (10, .ref (ad (155))), (11, .ref (ad (156))), (12, .ref (ad (157))), (14, .ref (ad (158))), (15, .ref (ad (159)))]) hM.x hM.b dL_law_844 hl (k := 2) rfl (nI_1 (j)) (by decide) rfl (fun ls hl => ?_)
                    refine lv_goto (tgt := 559) hM.x hM.b dL_law_847 (by decide) ?_
                    refine W.widen (k := k1 + 16 * (j + 1)) (n := n1 + 96 * (j + 1)) (by omega) (by omega) ?_
                    exact ih (j + 1) (by omega) H locs ls (lv_sub hl [0, 3, 4, 5, 6, 7, 8, 9, 10, 11, 12, 13, 14, 15, 16, 17, 18, 19, 20, 21, 22] rfl) hw kk
                  · skip
                    refine lv_aload_n hM.x hM.b dL_law_824 rfl (lv_at hl 10 rfl) ?_
                    refine lv_iload hM.x hM.b dL_law_825 (lv_at hl 2 rfl) ?_
                    refine k_xiK (rd_roast hR hq hjN).2.2.1 hw (k_runXV [.int (nI (j))] [] hM hw (m_X4_sideToFire l ((D, L), cA, ad) θ _ (nI (j)) hlst) (hw.dm kd_0 (by decide)) (sh4 kd_0) rfl (k_gV u_ml_L_146 u_im_X4_sideToFire u_se_X4_sideToFire u_ini_X4 u_co_X4_sideToFire) (q_X4_sideToFire) rfl rfl rfl ⟨(Nat.le_of_ble_eq_true rfl), (Nat.le_of_ble_eq_true rfl)⟩ hl.1 rfl (Nat.le_of_ble_eq_true rfl) dL_law_827 ⟨(by show _ ≤ (817018 : Nat); omega), (by show _ ≤ (6650127 : Nat); omega)⟩) (fun H locs hw => ?_)
                    refine lv_aload hM.x hM.b dL_law_830 (lv_at hl 17 rfl) ?_
                    refine lv_iload hM.x hM.b dL_law_832 (lv_at hl 2 rfl) ?_
                    refine k_ialdN (i := j) (n := nr) hM hw (hT.m 154 (by decide) (by decide)) ((hT.s154)) hjN (by omega) dL_law_834 ?_
                    refine lv_iconst (v := 1) hM.x hM.b dL_law_835 (by decide) ?_
                    refine lv_iadd hM.x hM.b dL_law_836 ?_
                    refine lv_iconst (v := 4) hM.x hM.b dL_law_837 (by decide) ?_
                    refine lv_irem hM.x hM.b dL_law_838 (by decide) ?_
                    refine lv_icmp_eq (tgt := 844) hM.x hM.b dL_law_839 (by decide) (fun _ => ?_) (fun cz => absurd (by rw [t3]; exact (side_c hI hC hA hjN).2.resolve_left (fun z => c48 (by rw [t3]; exact z))) cz)
                    refine lv_iinc (v := nI (j + 1)) (lv' := [(21, .int (nI (j + 1))), (23, .int (gotP β j)), (22, .int (β (14 + 2 * j) 2)), (19, .int (fatP a (j + 1))), (20, .int (0)), (13, .int (dripP β ns)), (16, .int (fatP β nr)), (17, .int (β 1 6)), (18, .int (v)), (0, .ref b), (1, .ref (ad (0))), (2, .ref (ad (91))), (3, .int (nI (t))), (5, .int (nI (ns))), (6, .int (nI (nr))), (7, .ref (ad (136))), (8, .ref (ad (153))), (9, .ref (ad (154))), (10, .ref (ad (155))), (11, .ref (ad (156))), (12, .ref (ad (157))), (14, .ref (ad (158))), (15, .ref (ad (159)))]) hM.x hM.b dL_law_844 hl (k := 2) rfl (nI_1 (j)) (by decide) rfl (fun ls hl => ?_)
                    refine lv_goto (tgt := 559) hM.x hM.b dL_law_847 (by decide) ?_
                    refine W.widen (k := k1 + 16 * (j + 1)) (n := n1 + 96 * (j + 1)) (by omega) (by omega) ?_
                    exact ih (j + 1) (by omega) H locs ls (lv_sub hl [0, 3, 4, 5, 6, 7, 8, 9, 10, 11, 12, 13, 14, 15, 16, 17, 18, 19, 20, 21, 22] rfl) hw kk
        · skip
          refine lv_iconst (v := 1) hM.x hM.b dL_law_726 (by decide) ?_
          refine lv_goto (tgt := 731) hM.x hM.b dL_law_727 (by decide) ?_
          refine lv_isub hM.x hM.b dL_law_731 ?_
          refine lv_icmp_ne (tgt := 789) hM.x hM.b dL_law_732 (by decide) (fun cz => absurd (by rw [t4]; exact fat_c1 hI hC hA hjN c1 (by rw [← t4]; exact c25)) cz) (fun _ => ?_)
          refine lv_aload_n hM.x hM.b dL_law_735 rfl (lv_at hl 10 rfl) ?_
          refine lv_iload hM.x hM.b dL_law_736 (lv_at hl 2 rfl) ?_
          refine k_xiK (rd_roast hR hq hjN).2.2.2.2.1 hw (k_runXV [.int (nI (j))] [] hM hw (m_X4_wetFor l ((D, L), cA, ad) θ _ (nI (j)) hlst) (hw.dm kd_0 (by decide)) (sh4 kd_0) rfl (k_gV u_ml_L_149 u_im_X4_wetFor u_se_X4_wetFor u_ini_X4 u_co_X4_wetFor) (q_X4_wetFor) rfl rfl rfl ⟨(Nat.le_of_ble_eq_true rfl), (Nat.le_of_ble_eq_true rfl)⟩ hl.1 rfl (Nat.le_of_ble_eq_true rfl) dL_law_738 ⟨(by show _ ≤ (817018 : Nat); omega), (by show _ ≤ (6650127 : Nat); omega)⟩) (fun H locs hw => ?_)
          refine lv_iload hM.x hM.b dL_law_741 (lv_at hl 1 rfl) ?_
          refine lv_if_lt (tgt := 764) hM.x hM.b dL_law_743 (by decide) (fun c49 => ?_) (fun c49 => ?_)
          · skip
            refine lv_aload hM.x hM.b dL_law_764 (lv_at hl 18 rfl) ?_
            refine lv_iload hM.x hM.b dL_law_766 (lv_at hl 2 rfl) ?_
            refine k_ialdN (i := j) (n := nr) hM hw (hT.m 155 (by decide) (by decide)) ((hT.s155)) hjN (by omega) dL_law_768 ?_
            refine lv_icmp_ne (tgt := 789) hM.x hM.b dL_law_769 (by decide) (fun cz => absurd (by rw [t5]; exact wet_c0 hI hC hA hjN (Or.inl c49)) cz) (fun _ => ?_)
            refine lv_aload hM.x hM.b dL_law_772 (lv_at hl 19 rfl) ?_
            refine lv_iload hM.x hM.b dL_law_774 (lv_at hl 2 rfl) ?_
            refine k_zald (n := nr) hM hw (hT.m 156 (by decide) (by decide)) hT.s156 (vp_in_nI hjN (by omega)) dL_law_776 ?_
            rw [nI_clamp (by omega)]
            refine lv_if_eq (tgt := 791) hM.x hM.b dL_law_777 (by decide) (fun c50 => ?_) (fun c50 => ?_)
            · skip
              refine lv_iload hM.x hM.b dL_law_791 (lv_at hl 1 rfl) ?_
              refine lv_if_ge (tgt := 810) hM.x hM.b dL_law_793 (by decide) (fun c51 => ?_) (fun c51 => ?_)
              · skip
                refine lv_aload_n hM.x hM.b dL_law_810 rfl (lv_at hl 10 rfl) ?_
                refine lv_iload hM.x hM.b dL_law_811 (lv_at hl 2 rfl) ?_
                refine k_xiK (rd_roast hR hq hjN).2.2.1 hw (k_runXV [.int (nI (j))] [] hM hw (m_X4_sideToFire l ((D, L), cA, ad) θ _ (nI (j)) hlst) (hw.dm kd_0 (by decide)) (sh4 kd_0) rfl (k_gV u_ml_L_146 u_im_X4_sideToFire u_se_X4_sideToFire u_ini_X4 u_co_X4_sideToFire) (q_X4_sideToFire) rfl rfl rfl ⟨(Nat.le_of_ble_eq_true rfl), (Nat.le_of_ble_eq_true rfl)⟩ hl.1 rfl (Nat.le_of_ble_eq_true rfl) dL_law_813 ⟨(by show _ ≤ (817018 : Nat); omega), (by show _ ≤ (6650127 : Nat); omega)⟩) (fun H locs hw => ?_)
                refine lv_aload hM.x hM.b dL_law_816 (lv_at hl 17 rfl) ?_
                refine lv_iload hM.x hM.b dL_law_818 (lv_at hl 2 rfl) ?_
                refine k_ialdN (i := j) (n := nr) hM hw (hT.m 154 (by decide) (by decide)) ((hT.s154)) hjN (by omega) dL_law_820 ?_
                refine lv_icmp_eq (tgt := 844) hM.x hM.b dL_law_821 (by decide) (fun c52 => ?_) (fun c52 => ?_)
                · skip
                  refine lv_iinc (v := nI (j + 1)) (lv' := [(21, .int (nI (j + 1))), (23, .int (gotP β j)), (22, .int (β (14 + 2 * j) 2)), (19, .int (fatP a (j + 1))), (20, .int (0)), (13, .int (dripP β ns)), (16, .int (fatP β nr)), (17, .int (β 1 6)), (18, .int (v)), (0, .ref b), (1, .ref (ad (0))), (2, .ref (ad (91))), (3, .int (nI (t))), (5, .int (nI (ns))), (6, .int (nI (nr))), (7, .ref (ad (136))), (8, .ref (ad (153))), (9, .ref (ad (154))), (10, .ref (ad (155))), (11, .ref (ad (156))), (12, .ref (ad (157))), (14, .ref (ad (158))), (15, .ref (ad (159)))]) hM.x hM.b dL_law_844 hl (k := 2) rfl (nI_1 (j)) (by decide) rfl (fun ls hl => ?_)
                  refine lv_goto (tgt := 559) hM.x hM.b dL_law_847 (by decide) ?_
                  refine W.widen (k := k1 + 16 * (j + 1)) (n := n1 + 96 * (j + 1)) (by omega) (by omega) ?_
                  exact ih (j + 1) (by omega) H locs ls (lv_sub hl [0, 3, 4, 5, 6, 7, 8, 9, 10, 11, 12, 13, 14, 15, 16, 17, 18, 19, 20, 21, 22] rfl) hw kk
                · skip
                  refine lv_aload_n hM.x hM.b dL_law_824 rfl (lv_at hl 10 rfl) ?_
                  refine lv_iload hM.x hM.b dL_law_825 (lv_at hl 2 rfl) ?_
                  refine k_xiK (rd_roast hR hq hjN).2.2.1 hw (k_runXV [.int (nI (j))] [] hM hw (m_X4_sideToFire l ((D, L), cA, ad) θ _ (nI (j)) hlst) (hw.dm kd_0 (by decide)) (sh4 kd_0) rfl (k_gV u_ml_L_146 u_im_X4_sideToFire u_se_X4_sideToFire u_ini_X4 u_co_X4_sideToFire) (q_X4_sideToFire) rfl rfl rfl ⟨(Nat.le_of_ble_eq_true rfl), (Nat.le_of_ble_eq_true rfl)⟩ hl.1 rfl (Nat.le_of_ble_eq_true rfl) dL_law_827 ⟨(by show _ ≤ (817018 : Nat); omega), (by show _ ≤ (6650127 : Nat); omega)⟩) (fun H locs hw => ?_)
                  refine lv_aload hM.x hM.b dL_law_830 (lv_at hl 17 rfl) ?_
                  refine lv_iload hM.x hM.b dL_law_832 (lv_at hl 2 rfl) ?_
                  refine k_ialdN (i := j) (n := nr) hM hw (hT.m 154 (by decide) (by decide)) ((hT.s154)) hjN (by omega) dL_law_834 ?_
                  refine lv_iconst (v := 1) hM.x hM.b dL_law_835 (by decide) ?_
                  refine lv_iadd hM.x hM.b dL_law_836 ?_
                  refine lv_iconst (v := 4) hM.x hM.b dL_law_837 (by decide) ?_
                  refine lv_irem hM.x hM.b dL_law_838 (by decide) ?_
                  refine lv_icmp_eq (tgt := 844) hM.x hM.b dL_law_839 (by decide) (fun _ => ?_) (fun cz => absurd (by rw [t3]; exact (side_c hI hC hA hjN).2.resolve_left (fun z => c52 (by rw [t3]; exact z))) cz)
                  refine lv_iinc (v := nI (j + 1)) (lv' := [(21, .int (nI (j + 1))), (23, .int (gotP β j)), (22, .int (β (14 + 2 * j) 2)), (19, .int (fatP a (j + 1))), (20, .int (0)), (13, .int (dripP β ns)), (16, .int (fatP β nr)), (17, .int (β 1 6)), (18, .int (v)), (0, .ref b), (1, .ref (ad (0))), (2, .ref (ad (91))), (3, .int (nI (t))), (5, .int (nI (ns))), (6, .int (nI (nr))), (7, .ref (ad (136))), (8, .ref (ad (153))), (9, .ref (ad (154))), (10, .ref (ad (155))), (11, .ref (ad (156))), (12, .ref (ad (157))), (14, .ref (ad (158))), (15, .ref (ad (159)))]) hM.x hM.b dL_law_844 hl (k := 2) rfl (nI_1 (j)) (by decide) rfl (fun ls hl => ?_)
                  refine lv_goto (tgt := 559) hM.x hM.b dL_law_847 (by decide) ?_
                  refine W.widen (k := k1 + 16 * (j + 1)) (n := n1 + 96 * (j + 1)) (by omega) (by omega) ?_
                  exact ih (j + 1) (by omega) H locs ls (lv_sub hl [0, 3, 4, 5, 6, 7, 8, 9, 10, 11, 12, 13, 14, 15, 16, 17, 18, 19, 20, 21, 22] rfl) hw kk
              · skip
                refine lv_aload_n hM.x hM.b dL_law_796 rfl (lv_at hl 10 rfl) ?_
                refine lv_iload hM.x hM.b dL_law_797 (lv_at hl 2 rfl) ?_
                refine k_xiK (rd_roast hR hq hjN).2.2.1 hw (k_runXV [.int (nI (j))] [] hM hw (m_X4_sideToFire l ((D, L), cA, ad) θ _ (nI (j)) hlst) (hw.dm kd_0 (by decide)) (sh4 kd_0) rfl (k_gV u_ml_L_146 u_im_X4_sideToFire u_se_X4_sideToFire u_ini_X4 u_co_X4_sideToFire) (q_X4_sideToFire) rfl rfl rfl ⟨(Nat.le_of_ble_eq_true rfl), (Nat.le_of_ble_eq_true rfl)⟩ hl.1 rfl (Nat.le_of_ble_eq_true rfl) dL_law_799 ⟨(by show _ ≤ (817018 : Nat); omega), (by show _ ≤ (6650127 : Nat); omega)⟩) (fun H locs hw => ?_)
                refine lv_aload hM.x hM.b dL_law_802 (lv_at hl 17 rfl) ?_
                refine lv_iload hM.x hM.b dL_law_804 (lv_at hl 2 rfl) ?_
                refine k_ialdN (i := j) (n := nr) hM hw (hT.m 154 (by decide) (by decide)) ((hT.s154)) hjN (by omega) dL_law_806 ?_
                refine lv_icmp_ne (tgt := 842) hM.x hM.b dL_law_807 (by decide) (fun cz => absurd (by rw [t3]; exact (side_c hI hC hA hjN).1 (Int32.not_le.mp c51)) cz) (fun _ => ?_)
                refine lv_aload_n hM.x hM.b dL_law_810 rfl (lv_at hl 10 rfl) ?_
                refine lv_iload hM.x hM.b dL_law_811 (lv_at hl 2 rfl) ?_
                refine k_xiK (rd_roast hR hq hjN).2.2.1 hw (k_runXV [.int (nI (j))] [] hM hw (m_X4_sideToFire l ((D, L), cA, ad) θ _ (nI (j)) hlst) (hw.dm kd_0 (by decide)) (sh4 kd_0) rfl (k_gV u_ml_L_146 u_im_X4_sideToFire u_se_X4_sideToFire u_ini_X4 u_co_X4_sideToFire) (q_X4_sideToFire) rfl rfl rfl ⟨(Nat.le_of_ble_eq_true rfl), (Nat.le_of_ble_eq_true rfl)⟩ hl.1 rfl (Nat.le_of_ble_eq_true rfl) dL_law_813 ⟨(by show _ ≤ (817018 : Nat); omega), (by show _ ≤ (6650127 : Nat); omega)⟩) (fun H locs hw => ?_)
                refine lv_aload hM.x hM.b dL_law_816 (lv_at hl 17 rfl) ?_
                refine lv_iload hM.x hM.b dL_law_818 (lv_at hl 2 rfl) ?_
                refine k_ialdN (i := j) (n := nr) hM hw (hT.m 154 (by decide) (by decide)) ((hT.s154)) hjN (by omega) dL_law_820 ?_
                refine lv_icmp_eq (tgt := 844) hM.x hM.b dL_law_821 (by decide) (fun c53 => ?_) (fun c53 => ?_)
                · skip
                  refine lv_iinc (v := nI (j + 1)) (lv' := [(21, .int (nI (j + 1))), (23, .int (gotP β j)), (22, .int (β (14 + 2 * j) 2)), (19, .int (fatP a (j + 1))), (20, .int (0)), (13, .int (dripP β ns)), (16, .int (fatP β nr)), (17, .int (β 1 6)), (18, .int (v)), (0, .ref b), (1, .ref (ad (0))), (2, .ref (ad (91))), (3, .int (nI (t))), (5, .int (nI (ns))), (6, .int (nI (nr))), (7, .ref (ad (136))), (8, .ref (ad (153))), (9, .ref (ad (154))), (10, .ref (ad (155))), (11, .ref (ad (156))), (12, .ref (ad (157))), (14, .ref (ad (158))), (15, .ref (ad (159)))]) hM.x hM.b dL_law_844 hl (k := 2) rfl (nI_1 (j)) (by decide) rfl (fun ls hl => ?_)
                  refine lv_goto (tgt := 559) hM.x hM.b dL_law_847 (by decide) ?_
                  refine W.widen (k := k1 + 16 * (j + 1)) (n := n1 + 96 * (j + 1)) (by omega) (by omega) ?_
                  exact ih (j + 1) (by omega) H locs ls (lv_sub hl [0, 3, 4, 5, 6, 7, 8, 9, 10, 11, 12, 13, 14, 15, 16, 17, 18, 19, 20, 21, 22] rfl) hw kk
                · skip
                  refine lv_aload_n hM.x hM.b dL_law_824 rfl (lv_at hl 10 rfl) ?_
                  refine lv_iload hM.x hM.b dL_law_825 (lv_at hl 2 rfl) ?_
                  refine k_xiK (rd_roast hR hq hjN).2.2.1 hw (k_runXV [.int (nI (j))] [] hM hw (m_X4_sideToFire l ((D, L), cA, ad) θ _ (nI (j)) hlst) (hw.dm kd_0 (by decide)) (sh4 kd_0) rfl (k_gV u_ml_L_146 u_im_X4_sideToFire u_se_X4_sideToFire u_ini_X4 u_co_X4_sideToFire) (q_X4_sideToFire) rfl rfl rfl ⟨(Nat.le_of_ble_eq_true rfl), (Nat.le_of_ble_eq_true rfl)⟩ hl.1 rfl (Nat.le_of_ble_eq_true rfl) dL_law_827 ⟨(by show _ ≤ (817018 : Nat); omega), (by show _ ≤ (6650127 : Nat); omega)⟩) (fun H locs hw => ?_)
                  refine lv_aload hM.x hM.b dL_law_830 (lv_at hl 17 rfl) ?_
                  refine lv_iload hM.x hM.b dL_law_832 (lv_at hl 2 rfl) ?_
                  refine k_ialdN (i := j) (n := nr) hM hw (hT.m 154 (by decide) (by decide)) ((hT.s154)) hjN (by omega) dL_law_834 ?_
                  refine lv_iconst (v := 1) hM.x hM.b dL_law_835 (by decide) ?_
                  refine lv_iadd hM.x hM.b dL_law_836 ?_
                  refine lv_iconst (v := 4) hM.x hM.b dL_law_837 (by decide) ?_
                  refine lv_irem hM.x hM.b dL_law_838 (by decide) ?_
                  refine lv_icmp_eq (tgt := 844) hM.x hM.b dL_law_839 (by decide) (fun _ => ?_) (fun cz => absurd (by rw [t3]; exact (side_c hI hC hA hjN).2.resolve_left (fun z => c53 (by rw [t3]; exact z))) cz)
                  refine lv_iinc (v := nI (j + 1)) (lv' := [(21, .int (nI (j + 1))), (23, .int (gotP β j)), (22, .int (β (14 + 2 * j) 2)), (19, .int (fatP a (j + 1))), (20, .int (0)), (13, .int (dripP β ns)), (16, .int (fatP β nr)), (17, .int (β 1 6)), (18, .int (v)), (0, .ref b), (1, .ref (ad (0))), (2, .ref (ad (91))), (3, .int (nI (t))), (5, .int (nI (ns))), (6, .int (nI (nr))), (7, .ref (ad (136))), (8, .ref (ad (153))), (9, .ref (ad (154))), (10, .ref (ad (155))), (11, .ref (ad (156))), (12, .ref (ad (157))), (14, .ref (ad (158))), (15, .ref (ad (159)))]) hM.x hM.b dL_law_844 hl (k := 2) rfl (nI_1 (j)) (by decide) rfl (fun ls hl => ?_)
                  refine lv_goto (tgt := 559) hM.x hM.b dL_law_847 (by decide) ?_
                  refine W.widen (k := k1 + 16 * (j + 1)) (n := n1 + 96 * (j + 1)) (by omega) (by omega) ?_
                  exact ih (j + 1) (by omega) H locs ls (lv_sub hl [0, 3, 4, 5, 6, 7, 8, 9, 10, 11, 12, 13, 14, 15, 16, 17, 18, 19, 20, 21, 22] rfl) hw kk
            · skip
              refine lv_aload_n hM.x hM.b dL_law_780 rfl (lv_at hl 10 rfl) ?_
              refine lv_iload hM.x hM.b dL_law_781 (lv_at hl 2 rfl) ?_
              refine k_xiK (rd_roast hR hq hjN).2.2.2.2.2.2.2 hw (k_runXV [.int (nI (j))] [] hM hw (m_X4_isBurnt l ((D, L), cA, ad) θ _ (nI (j)) hlst) (hw.dm kd_0 (by decide)) (sh4 kd_0) rfl (k_gV u_ml_L_152 u_im_X4_isBurnt u_se_X4_isBurnt u_ini_X4 u_co_X4_isBurnt) (q_X4_isBurnt) rfl rfl rfl ⟨(Nat.le_of_ble_eq_true rfl), (Nat.le_of_ble_eq_true rfl)⟩ hl.1 rfl (Nat.le_of_ble_eq_true rfl) dL_law_783 ⟨(by show _ ≤ (817018 : Nat); omega), (by show _ ≤ (6650127 : Nat); omega)⟩) (fun H locs hw => ?_)
              refine lv_if_ne (tgt := 791) hM.x hM.b dL_law_786 (by decide) (fun _ => ?_) (fun cz => absurd cz (by rw [burnt_c hI hC hA hjN (bi_ne (fun z => c50 (tb.trans z)))]; exact bi_t))
              refine lv_iload hM.x hM.b dL_law_791 (lv_at hl 1 rfl) ?_
              refine lv_if_ge (tgt := 810) hM.x hM.b dL_law_793 (by decide) (fun c54 => ?_) (fun c54 => ?_)
              · skip
                refine lv_aload_n hM.x hM.b dL_law_810 rfl (lv_at hl 10 rfl) ?_
                refine lv_iload hM.x hM.b dL_law_811 (lv_at hl 2 rfl) ?_
                refine k_xiK (rd_roast hR hq hjN).2.2.1 hw (k_runXV [.int (nI (j))] [] hM hw (m_X4_sideToFire l ((D, L), cA, ad) θ _ (nI (j)) hlst) (hw.dm kd_0 (by decide)) (sh4 kd_0) rfl (k_gV u_ml_L_146 u_im_X4_sideToFire u_se_X4_sideToFire u_ini_X4 u_co_X4_sideToFire) (q_X4_sideToFire) rfl rfl rfl ⟨(Nat.le_of_ble_eq_true rfl), (Nat.le_of_ble_eq_true rfl)⟩ hl.1 rfl (Nat.le_of_ble_eq_true rfl) dL_law_813 ⟨(by show _ ≤ (817018 : Nat); omega), (by show _ ≤ (6650127 : Nat); omega)⟩) (fun H locs hw => ?_)
                refine lv_aload hM.x hM.b dL_law_816 (lv_at hl 17 rfl) ?_
                refine lv_iload hM.x hM.b dL_law_818 (lv_at hl 2 rfl) ?_
                refine k_ialdN (i := j) (n := nr) hM hw (hT.m 154 (by decide) (by decide)) ((hT.s154)) hjN (by omega) dL_law_820 ?_
                refine lv_icmp_eq (tgt := 844) hM.x hM.b dL_law_821 (by decide) (fun c55 => ?_) (fun c55 => ?_)
                · skip
                  refine lv_iinc (v := nI (j + 1)) (lv' := [(21, .int (nI (j + 1))), (23, .int (gotP β j)), (22, .int (β (14 + 2 * j) 2)), (19, .int (fatP a (j + 1))), (20, .int (0)), (13, .int (dripP β ns)), (16, .int (fatP β nr)), (17, .int (β 1 6)), (18, .int (v)), (0, .ref b), (1, .ref (ad (0))), (2, .ref (ad (91))), (3, .int (nI (t))), (5, .int (nI (ns))), (6, .int (nI (nr))), (7, .ref (ad (136))), (8, .ref (ad (153))), (9, .ref (ad (154))), (10, .ref (ad (155))), (11, .ref (ad (156))), (12, .ref (ad (157))), (14, .ref (ad (158))), (15, .ref (ad (159)))]) hM.x hM.b dL_law_844 hl (k := 2) rfl (nI_1 (j)) (by decide) rfl (fun ls hl => ?_)
                  refine lv_goto (tgt := 559) hM.x hM.b dL_law_847 (by decide) ?_
                  refine W.widen (k := k1 + 16 * (j + 1)) (n := n1 + 96 * (j + 1)) (by omega) (by omega) ?_
                  exact ih (j + 1) (by omega) H locs ls (lv_sub hl [0, 3, 4, 5, 6, 7, 8, 9, 10, 11, 12, 13, 14, 15, 16, 17, 18, 19, 20, 21, 22] rfl) hw kk
                · skip
                  refine lv_aload_n hM.x hM.b dL_law_824 rfl (lv_at hl 10 rfl) ?_
                  refine lv_iload hM.x hM.b dL_law_825 (lv_at hl 2 rfl) ?_
                  refine k_xiK (rd_roast hR hq hjN).2.2.1 hw (k_runXV [.int (nI (j))] [] hM hw (m_X4_sideToFire l ((D, L), cA, ad) θ _ (nI (j)) hlst) (hw.dm kd_0 (by decide)) (sh4 kd_0) rfl (k_gV u_ml_L_146 u_im_X4_sideToFire u_se_X4_sideToFire u_ini_X4 u_co_X4_sideToFire) (q_X4_sideToFire) rfl rfl rfl ⟨(Nat.le_of_ble_eq_true rfl), (Nat.le_of_ble_eq_true rfl)⟩ hl.1 rfl (Nat.le_of_ble_eq_true rfl) dL_law_827 ⟨(by show _ ≤ (817018 : Nat); omega), (by show _ ≤ (6650127 : Nat); omega)⟩) (fun H locs hw => ?_)
                  refine lv_aload hM.x hM.b dL_law_830 (lv_at hl 17 rfl) ?_
                  refine lv_iload hM.x hM.b dL_law_832 (lv_at hl 2 rfl) ?_
                  refine k_ialdN (i := j) (n := nr) hM hw (hT.m 154 (by decide) (by decide)) ((hT.s154)) hjN (by omega) dL_law_834 ?_
                  refine lv_iconst (v := 1) hM.x hM.b dL_law_835 (by decide) ?_
                  refine lv_iadd hM.x hM.b dL_law_836 ?_
                  refine lv_iconst (v := 4) hM.x hM.b dL_law_837 (by decide) ?_
                  refine lv_irem hM.x hM.b dL_law_838 (by decide) ?_
                  refine lv_icmp_eq (tgt := 844) hM.x hM.b dL_law_839 (by decide) (fun _ => ?_) (fun cz => absurd (by rw [t3]; exact (side_c hI hC hA hjN).2.resolve_left (fun z => c55 (by rw [t3]; exact z))) cz)
                  refine lv_iinc (v := nI (j + 1)) (lv' := [(21, .int (nI (j + 1))), (23, .int (gotP β j)), (22, .int (β (14 + 2 * j) 2)), (19, .int (fatP a (j + 1))), (20, .int (0)), (13, .int (dripP β ns)), (16, .int (fatP β nr)), (17, .int (β 1 6)), (18, .int (v)), (0, .ref b), (1, .ref (ad (0))), (2, .ref (ad (91))), (3, .int (nI (t))), (5, .int (nI (ns))), (6, .int (nI (nr))), (7, .ref (ad (136))), (8, .ref (ad (153))), (9, .ref (ad (154))), (10, .ref (ad (155))), (11, .ref (ad (156))), (12, .ref (ad (157))), (14, .ref (ad (158))), (15, .ref (ad (159)))]) hM.x hM.b dL_law_844 hl (k := 2) rfl (nI_1 (j)) (by decide) rfl (fun ls hl => ?_)
                  refine lv_goto (tgt := 559) hM.x hM.b dL_law_847 (by decide) ?_
                  refine W.widen (k := k1 + 16 * (j + 1)) (n := n1 + 96 * (j + 1)) (by omega) (by omega) ?_
                  exact ih (j + 1) (by omega) H locs ls (lv_sub hl [0, 3, 4, 5, 6, 7, 8, 9, 10, 11, 12, 13, 14, 15, 16, 17, 18, 19, 20, 21, 22] rfl) hw kk
              · skip
                refine lv_aload_n hM.x hM.b dL_law_796 rfl (lv_at hl 10 rfl) ?_
                refine lv_iload hM.x hM.b dL_law_797 (lv_at hl 2 rfl) ?_
                refine k_xiK (rd_roast hR hq hjN).2.2.1 hw (k_runXV [.int (nI (j))] [] hM hw (m_X4_sideToFire l ((D, L), cA, ad) θ _ (nI (j)) hlst) (hw.dm kd_0 (by decide)) (sh4 kd_0) rfl (k_gV u_ml_L_146 u_im_X4_sideToFire u_se_X4_sideToFire u_ini_X4 u_co_X4_sideToFire) (q_X4_sideToFire) rfl rfl rfl ⟨(Nat.le_of_ble_eq_true rfl), (Nat.le_of_ble_eq_true rfl)⟩ hl.1 rfl (Nat.le_of_ble_eq_true rfl) dL_law_799 ⟨(by show _ ≤ (817018 : Nat); omega), (by show _ ≤ (6650127 : Nat); omega)⟩) (fun H locs hw => ?_)
                refine lv_aload hM.x hM.b dL_law_802 (lv_at hl 17 rfl) ?_
                refine lv_iload hM.x hM.b dL_law_804 (lv_at hl 2 rfl) ?_
                refine k_ialdN (i := j) (n := nr) hM hw (hT.m 154 (by decide) (by decide)) ((hT.s154)) hjN (by omega) dL_law_806 ?_
                refine lv_icmp_ne (tgt := 842) hM.x hM.b dL_law_807 (by decide) (fun cz => absurd (by rw [t3]; exact (side_c hI hC hA hjN).1 (Int32.not_le.mp c54)) cz) (fun _ => ?_)
                refine lv_aload_n hM.x hM.b dL_law_810 rfl (lv_at hl 10 rfl) ?_
                refine lv_iload hM.x hM.b dL_law_811 (lv_at hl 2 rfl) ?_
                refine k_xiK (rd_roast hR hq hjN).2.2.1 hw (k_runXV [.int (nI (j))] [] hM hw (m_X4_sideToFire l ((D, L), cA, ad) θ _ (nI (j)) hlst) (hw.dm kd_0 (by decide)) (sh4 kd_0) rfl (k_gV u_ml_L_146 u_im_X4_sideToFire u_se_X4_sideToFire u_ini_X4 u_co_X4_sideToFire) (q_X4_sideToFire) rfl rfl rfl ⟨(Nat.le_of_ble_eq_true rfl), (Nat.le_of_ble_eq_true rfl)⟩ hl.1 rfl (Nat.le_of_ble_eq_true rfl) dL_law_813 ⟨(by show _ ≤ (817018 : Nat); omega), (by show _ ≤ (6650127 : Nat); omega)⟩) (fun H locs hw => ?_)
                refine lv_aload hM.x hM.b dL_law_816 (lv_at hl 17 rfl) ?_
                refine lv_iload hM.x hM.b dL_law_818 (lv_at hl 2 rfl) ?_
                refine k_ialdN (i := j) (n := nr) hM hw (hT.m 154 (by decide) (by decide)) ((hT.s154)) hjN (by omega) dL_law_820 ?_
                refine lv_icmp_eq (tgt := 844) hM.x hM.b dL_law_821 (by decide) (fun c56 => ?_) (fun c56 => ?_)
                · skip
                  refine lv_iinc (v := nI (j + 1)) (lv' := [(21, .int (nI (j + 1))), (23, .int (gotP β j)), (22, .int (β (14 + 2 * j) 2)), (19, .int (fatP a (j + 1))), (20, .int (0)), (13, .int (dripP β ns)), (16, .int (fatP β nr)), (17, .int (β 1 6)), (18, .int (v)), (0, .ref b), (1, .ref (ad (0))), (2, .ref (ad (91))), (3, .int (nI (t))), (5, .int (nI (ns))), (6, .int (nI (nr))), (7, .ref (ad (136))), (8, .ref (ad (153))), (9, .ref (ad (154))), (10, .ref (ad (155))), (11, .ref (ad (156))), (12, .ref (ad (157))), (14, .ref (ad (158))), (15, .ref (ad (159)))]) hM.x hM.b dL_law_844 hl (k := 2) rfl (nI_1 (j)) (by decide) rfl (fun ls hl => ?_)
                  refine lv_goto (tgt := 559) hM.x hM.b dL_law_847 (by decide) ?_
                  refine W.widen (k := k1 + 16 * (j + 1)) (n := n1 + 96 * (j + 1)) (by omega) (by omega) ?_
                  exact ih (j + 1) (by omega) H locs ls (lv_sub hl [0, 3, 4, 5, 6, 7, 8, 9, 10, 11, 12, 13, 14, 15, 16, 17, 18, 19, 20, 21, 22] rfl) hw kk
                · skip
                  refine lv_aload_n hM.x hM.b dL_law_824 rfl (lv_at hl 10 rfl) ?_
                  refine lv_iload hM.x hM.b dL_law_825 (lv_at hl 2 rfl) ?_
                  refine k_xiK (rd_roast hR hq hjN).2.2.1 hw (k_runXV [.int (nI (j))] [] hM hw (m_X4_sideToFire l ((D, L), cA, ad) θ _ (nI (j)) hlst) (hw.dm kd_0 (by decide)) (sh4 kd_0) rfl (k_gV u_ml_L_146 u_im_X4_sideToFire u_se_X4_sideToFire u_ini_X4 u_co_X4_sideToFire) (q_X4_sideToFire) rfl rfl rfl ⟨(Nat.le_of_ble_eq_true rfl), (Nat.le_of_ble_eq_true rfl)⟩ hl.1 rfl (Nat.le_of_ble_eq_true rfl) dL_law_827 ⟨(by show _ ≤ (817018 : Nat); omega), (by show _ ≤ (6650127 : Nat); omega)⟩) (fun H locs hw => ?_)
                  refine lv_aload hM.x hM.b dL_law_830 (lv_at hl 17 rfl) ?_
                  refine lv_iload hM.x hM.b dL_law_832 (lv_at hl 2 rfl) ?_
                  refine k_ialdN (i := j) (n := nr) hM hw (hT.m 154 (by decide) (by decide)) ((hT.s154)) hjN (by omega) dL_law_834 ?_
                  refine lv_iconst (v := 1) hM.x hM.b dL_law_835 (by decide) ?_
                  refine lv_iadd hM.x hM.b dL_law_836 ?_
                  refine lv_iconst (v := 4) hM.x hM.b dL_law_837 (by decide) ?_
                  refine lv_irem hM.x hM.b dL_law_838 (by decide) ?_
                  refine lv_icmp_eq (tgt := 844) hM.x hM.b dL_law_839 (by decide) (fun _ => ?_) (fun cz => absurd (by rw [t3]; exact (side_c hI hC hA hjN).2.resolve_left (fun z => c56 (by rw [t3]; exact z))) cz)
                  refine lv_iinc (v := nI (j + 1)) (lv' := [(21, .int (nI (j + 1))), (23, .int (gotP β j)), (22, .int (β (14 + 2 * j) 2)), (19, .int (fatP a (j + 1))), (20, .int (0)), (13, .int (dripP β ns)), (16, .int (fatP β nr)), (17, .int (β 1 6)), (18, .int (v)), (0, .ref b), (1, .ref (ad (0))), (2, .ref (ad (91))), (3, .int (nI (t))), (5, .int (nI (ns))), (6, .int (nI (nr))), (7, .ref (ad (136))), (8, .ref (ad (153))), (9, .ref (ad (154))), (10, .ref (ad (155))), (11, .ref (ad (156))), (12, .ref (ad (157))), (14, .ref (ad (158))), (15, .ref (ad (159)))]) hM.x hM.b dL_law_844 hl (k := 2) rfl (nI_1 (j)) (by decide) rfl (fun ls hl => ?_)
                  refine lv_goto (tgt := 559) hM.x hM.b dL_law_847 (by decide) ?_
                  refine W.widen (k := k1 + 16 * (j + 1)) (n := n1 + 96 * (j + 1)) (by omega) (by omega) ?_
                  exact ih (j + 1) (by omega) H locs ls (lv_sub hl [0, 3, 4, 5, 6, 7, 8, 9, 10, 11, 12, 13, 14, 15, 16, 17, 18, 19, 20, 21, 22] rfl) hw kk
          · skip
            refine lv_aload hM.x hM.b dL_law_746 (lv_at hl 18 rfl) ?_
            refine lv_iload hM.x hM.b dL_law_748 (lv_at hl 2 rfl) ?_
            refine k_ialdN (i := j) (n := nr) hM hw (hT.m 155 (by decide) (by decide)) ((hT.s155)) hjN (by omega) dL_law_750 ?_
            refine lv_if_le (tgt := 764) hM.x hM.b dL_law_751 (by decide) (fun c57 => ?_) (fun c57 => ?_)
            · skip
              refine lv_aload hM.x hM.b dL_law_764 (lv_at hl 18 rfl) ?_
              refine lv_iload hM.x hM.b dL_law_766 (lv_at hl 2 rfl) ?_
              refine k_ialdN (i := j) (n := nr) hM hw (hT.m 155 (by decide) (by decide)) ((hT.s155)) hjN (by omega) dL_law_768 ?_
              refine lv_icmp_ne (tgt := 789) hM.x hM.b dL_law_769 (by decide) (fun cz => absurd (by rw [t5]; exact wet_c0 hI hC hA hjN (Or.inr (by rw [← t5]; exact c57))) cz) (fun _ => ?_)
              refine lv_aload hM.x hM.b dL_law_772 (lv_at hl 19 rfl) ?_
              refine lv_iload hM.x hM.b dL_law_774 (lv_at hl 2 rfl) ?_
              refine k_zald (n := nr) hM hw (hT.m 156 (by decide) (by decide)) hT.s156 (vp_in_nI hjN (by omega)) dL_law_776 ?_
              rw [nI_clamp (by omega)]
              refine lv_if_eq (tgt := 791) hM.x hM.b dL_law_777 (by decide) (fun c58 => ?_) (fun c58 => ?_)
              · skip
                refine lv_iload hM.x hM.b dL_law_791 (lv_at hl 1 rfl) ?_
                refine lv_if_ge (tgt := 810) hM.x hM.b dL_law_793 (by decide) (fun c59 => ?_) (fun c59 => ?_)
                · skip
                  refine lv_aload_n hM.x hM.b dL_law_810 rfl (lv_at hl 10 rfl) ?_
                  refine lv_iload hM.x hM.b dL_law_811 (lv_at hl 2 rfl) ?_
                  refine k_xiK (rd_roast hR hq hjN).2.2.1 hw (k_runXV [.int (nI (j))] [] hM hw (m_X4_sideToFire l ((D, L), cA, ad) θ _ (nI (j)) hlst) (hw.dm kd_0 (by decide)) (sh4 kd_0) rfl (k_gV u_ml_L_146 u_im_X4_sideToFire u_se_X4_sideToFire u_ini_X4 u_co_X4_sideToFire) (q_X4_sideToFire) rfl rfl rfl ⟨(Nat.le_of_ble_eq_true rfl), (Nat.le_of_ble_eq_true rfl)⟩ hl.1 rfl (Nat.le_of_ble_eq_true rfl) dL_law_813 ⟨(by show _ ≤ (817018 : Nat); omega), (by show _ ≤ (6650127 : Nat); omega)⟩) (fun H locs hw => ?_)
                  refine lv_aload hM.x hM.b dL_law_816 (lv_at hl 17 rfl) ?_
                  refine lv_iload hM.x hM.b dL_law_818 (lv_at hl 2 rfl) ?_
                  refine k_ialdN (i := j) (n := nr) hM hw (hT.m 154 (by decide) (by decide)) ((hT.s154)) hjN (by omega) dL_law_820 ?_
                  refine lv_icmp_eq (tgt := 844) hM.x hM.b dL_law_821 (by decide) (fun c60 => ?_) (fun c60 => ?_)
                  · skip
                    refine lv_iinc (v := nI (j + 1)) (lv' := [(21, .int (nI (j + 1))), (23, .int (gotP β j)), (22, .int (β (14 + 2 * j) 2)), (19, .int (fatP a (j + 1))), (20, .int (0)), (13, .int (dripP β ns)), (16, .int (fatP β nr)), (17, .int (β 1 6)), (18, .int (v)), (0, .ref b), (1, .ref (ad (0))), (2, .ref (ad (91))), (3, .int (nI (t))), (5, .int (nI (ns))), (6, .int (nI (nr))), (7, .ref (ad (136))), (8, .ref (ad (153))), (9, .ref (ad (154))), (10, .ref (ad (155))), (11, .ref (ad (156))), (12, .ref (ad (157))), (14, .ref (ad (158))), (15, .ref (ad (159)))]) hM.x hM.b dL_law_844 hl (k := 2) rfl (nI_1 (j)) (by decide) rfl (fun ls hl => ?_)
                    refine lv_goto (tgt := 559) hM.x hM.b dL_law_847 (by decide) ?_
                    refine W.widen (k := k1 + 16 * (j + 1)) (n := n1 + 96 * (j + 1)) (by omega) (by omega) ?_
                    exact ih (j + 1) (by omega) H locs ls (lv_sub hl [0, 3, 4, 5, 6, 7, 8, 9, 10, 11, 12, 13, 14, 15, 16, 17, 18, 19, 20, 21, 22] rfl) hw kk
                  · skip
                    refine lv_aload_n hM.x hM.b dL_law_824 rfl (lv_at hl 10 rfl) ?_
                    refine lv_iload hM.x hM.b dL_law_825 (lv_at hl 2 rfl) ?_
                    refine k_xiK (rd_roast hR hq hjN).2.2.1 hw (k_runXV [.int (nI (j))] [] hM hw (m_X4_sideToFire l ((D, L), cA, ad) θ _ (nI (j)) hlst) (hw.dm kd_0 (by decide)) (sh4 kd_0) rfl (k_gV u_ml_L_146 u_im_X4_sideToFire u_se_X4_sideToFire u_ini_X4 u_co_X4_sideToFire) (q_X4_sideToFire) rfl rfl rfl ⟨(Nat.le_of_ble_eq_true rfl), (Nat.le_of_ble_eq_true rfl)⟩ hl.1 rfl (Nat.le_of_ble_eq_true rfl) dL_law_827 ⟨(by show _ ≤ (817018 : Nat); omega), (by show _ ≤ (6650127 : Nat); omega)⟩) (fun H locs hw => ?_)
                    refine lv_aload hM.x hM.b dL_law_830 (lv_at hl 17 rfl) ?_
                    refine lv_iload hM.x hM.b dL_law_832 (lv_at hl 2 rfl) ?_
                    refine k_ialdN (i := j) (n := nr) hM hw (hT.m 154 (by decide) (by decide)) ((hT.s154)) hjN (by omega) dL_law_834 ?_
                    refine lv_iconst (v := 1) hM.x hM.b dL_law_835 (by decide) ?_
                    refine lv_iadd hM.x hM.b dL_law_836 ?_
                    refine lv_iconst (v := 4) hM.x hM.b dL_law_837 (by decide) ?_
                    refine lv_irem hM.x hM.b dL_law_838 (by decide) ?_
                    refine lv_icmp_eq (tgt := 844) hM.x hM.b dL_law_839 (by decide) (fun _ => ?_) (fun cz => absurd (by rw [t3]; exact (side_c hI hC hA hjN).2.resolve_left (fun z => c60 (by rw [t3]; exact z))) cz)
                    refine lv_iinc (v := nI (j + 1)) (lv' := [(21, .int (nI (j + 1))), (23, .int (gotP β j)), (22, .int (β (14 + 2 * j) 2)), (19, .int (fatP a (j + 1))), (20, .int (0)), (13, .int (dripP β ns)), (16, .int (fatP β nr)), (17, .int (β 1 6)), (18, .int (v)), (0, .ref b), (1, .ref (ad (0))), (2, .ref (ad (91))), (3, .int (nI (t))), (5, .int (nI (ns))), (6, .int (nI (nr))), (7, .ref (ad (136))), (8, .ref (ad (153))), (9, .ref (ad (154))), (10, .ref (ad (155))), (11, .ref (ad (156))), (12, .ref (ad (157))), (14, .ref (ad (158))), (15, .ref (ad (159)))]) hM.x hM.b dL_law_844 hl (k := 2) rfl (nI_1 (j)) (by decide) rfl (fun ls hl => ?_)
                    refine lv_goto (tgt := 559) hM.x hM.b dL_law_847 (by decide) ?_
                    refine W.widen (k := k1 + 16 * (j + 1)) (n := n1 + 96 * (j + 1)) (by omega) (by omega) ?_
                    exact ih (j + 1) (by omega) H locs ls (lv_sub hl [0, 3, 4, 5, 6, 7, 8, 9, 10, 11, 12, 13, 14, 15, 16, 17, 18, 19, 20, 21, 22] rfl) hw kk
                · skip
                  refine lv_aload_n hM.x hM.b dL_law_796 rfl (lv_at hl 10 rfl) ?_
                  refine lv_iload hM.x hM.b dL_law_797 (lv_at hl 2 rfl) ?_
                  refine k_xiK (rd_roast hR hq hjN).2.2.1 hw (k_runXV [.int (nI (j))] [] hM hw (m_X4_sideToFire l ((D, L), cA, ad) θ _ (nI (j)) hlst) (hw.dm kd_0 (by decide)) (sh4 kd_0) rfl (k_gV u_ml_L_146 u_im_X4_sideToFire u_se_X4_sideToFire u_ini_X4 u_co_X4_sideToFire) (q_X4_sideToFire) rfl rfl rfl ⟨(Nat.le_of_ble_eq_true rfl), (Nat.le_of_ble_eq_true rfl)⟩ hl.1 rfl (Nat.le_of_ble_eq_true rfl) dL_law_799 ⟨(by show _ ≤ (817018 : Nat); omega), (by show _ ≤ (6650127 : Nat); omega)⟩) (fun H locs hw => ?_)
                  refine lv_aload hM.x hM.b dL_law_802 (lv_at hl 17 rfl) ?_
                  refine lv_iload hM.x hM.b dL_law_804 (lv_at hl 2 rfl) ?_
                  refine k_ialdN (i := j) (n := nr) hM hw (hT.m 154 (by decide) (by decide)) ((hT.s154)) hjN (by omega) dL_law_806 ?_
                  refine lv_icmp_ne (tgt := 842) hM.x hM.b dL_law_807 (by decide) (fun cz => absurd (by rw [t3]; exact (side_c hI hC hA hjN).1 (Int32.not_le.mp c59)) cz) (fun _ => ?_)
                  refine lv_aload_n hM.x hM.b dL_law_810 rfl (lv_at hl 10 rfl) ?_
                  refine lv_iload hM.x hM.b dL_law_811 (lv_at hl 2 rfl) ?_
                  refine k_xiK (rd_roast hR hq hjN).2.2.1 hw (k_runXV [.int (nI (j))] [] hM hw (m_X4_sideToFire l ((D, L), cA, ad) θ _ (nI (j)) hlst) (hw.dm kd_0 (by decide)) (sh4 kd_0) rfl (k_gV u_ml_L_146 u_im_X4_sideToFire u_se_X4_sideToFire u_ini_X4 u_co_X4_sideToFire) (q_X4_sideToFire) rfl rfl rfl ⟨(Nat.le_of_ble_eq_true rfl), (Nat.le_of_ble_eq_true rfl)⟩ hl.1 rfl (Nat.le_of_ble_eq_true rfl) dL_law_813 ⟨(by show _ ≤ (817018 : Nat); omega), (by show _ ≤ (6650127 : Nat); omega)⟩) (fun H locs hw => ?_)
                  refine lv_aload hM.x hM.b dL_law_816 (lv_at hl 17 rfl) ?_
                  refine lv_iload hM.x hM.b dL_law_818 (lv_at hl 2 rfl) ?_
                  refine k_ialdN (i := j) (n := nr) hM hw (hT.m 154 (by decide) (by decide)) ((hT.s154)) hjN (by omega) dL_law_820 ?_
                  refine lv_icmp_eq (tgt := 844) hM.x hM.b dL_law_821 (by decide) (fun c61 => ?_) (fun c61 => ?_)
                  · skip
                    refine lv_iinc (v := nI (j + 1)) (lv' := [(21, .int (nI (j + 1))), (23, .int (gotP β j)), (22, .int (β (14 + 2 * j) 2)), (19, .int (fatP a (j + 1))), (20, .int (0)), (13, .int (dripP β ns)), (16, .int (fatP β nr)), (17, .int (β 1 6)), (18, .int (v)), (0, .ref b), (1, .ref (ad (0))), (2, .ref (ad (91))), (3, .int (nI (t))), (5, .int (nI (ns))), (6, .int (nI (nr))), (7, .ref (ad (136))), (8, .ref (ad (153))), (9, .ref (ad (154))), (10, .ref (ad (155))), (11, .ref (ad (156))), (12, .ref (ad (157))), (14, .ref (ad (158))), (15, .ref (ad (159)))]) hM.x hM.b dL_law_844 hl (k := 2) rfl (nI_1 (j)) (by decide) rfl (fun ls hl => ?_)
                    refine lv_goto (tgt := 559) hM.x hM.b dL_law_847 (by decide) ?_
                    refine W.widen (k := k1 + 16 * (j + 1)) (n := n1 + 96 * (j + 1)) (by omega) (by omega) ?_
                    exact ih (j + 1) (by omega) H locs ls (lv_sub hl [0, 3, 4, 5, 6, 7, 8, 9, 10, 11, 12, 13, 14, 15, 16, 17, 18, 19, 20, 21, 22] rfl) hw kk
                  · skip
                    refine lv_aload_n hM.x hM.b dL_law_824 rfl (lv_at hl 10 rfl) ?_
                    refine lv_iload hM.x hM.b dL_law_825 (lv_at hl 2 rfl) ?_
                    refine k_xiK (rd_roast hR hq hjN).2.2.1 hw (k_runXV [.int (nI (j))] [] hM hw (m_X4_sideToFire l ((D, L), cA, ad) θ _ (nI (j)) hlst) (hw.dm kd_0 (by decide)) (sh4 kd_0) rfl (k_gV u_ml_L_146 u_im_X4_sideToFire u_se_X4_sideToFire u_ini_X4 u_co_X4_sideToFire) (q_X4_sideToFire) rfl rfl rfl ⟨(Nat.le_of_ble_eq_true rfl), (Nat.le_of_ble_eq_true rfl)⟩ hl.1 rfl (Nat.le_of_ble_eq_true rfl) dL_law_827 ⟨(by show _ ≤ (817018 : Nat); omega), (by show _ ≤ (6650127 : Nat); omega)⟩) (fun H locs hw => ?_)
                    refine lv_aload hM.x hM.b dL_law_830 (lv_at hl 17 rfl) ?_
                    refine lv_iload hM.x hM.b dL_law_832 (lv_at hl 2 rfl) ?_
                    refine k_ialdN (i := j) (n := nr) hM hw (hT.m 154 (by decide) (by decide)) ((hT.s154)) hjN (by omega) dL_law_834 ?_
                    refine lv_iconst (v := 1) hM.x hM.b dL_law_835 (by decide) ?_
                    refine lv_iadd hM.x hM.b dL_law_836 ?_
                    refine lv_iconst (v := 4) hM.x hM.b dL_law_837 (by decide) ?_
                    refine lv_irem hM.x hM.b dL_law_838 (by decide) ?_
                    refine lv_icmp_eq (tgt := 844) hM.x hM.b dL_law_839 (by decide) (fun _ => ?_) (fun cz => absurd (by rw [t3]; exact (side_c hI hC hA hjN).2.resolve_left (fun z => c61 (by rw [t3]; exact z))) cz)
                    refine lv_iinc (v := nI (j + 1)) (lv' := [(21, .int (nI (j + 1))), (23, .int (gotP β j)), (22, .int (β (14 + 2 * j) 2)), (19, .int (fatP a (j + 1))), (20, .int (0)), (13, .int (dripP β ns)), (16, .int (fatP β nr)), (17, .int (β 1 6)), (18, .int (v)), (0, .ref b), (1, .ref (ad (0))), (2, .ref (ad (91))), (3, .int (nI (t))), (5, .int (nI (ns))), (6, .int (nI (nr))), (7, .ref (ad (136))), (8, .ref (ad (153))), (9, .ref (ad (154))), (10, .ref (ad (155))), (11, .ref (ad (156))), (12, .ref (ad (157))), (14, .ref (ad (158))), (15, .ref (ad (159)))]) hM.x hM.b dL_law_844 hl (k := 2) rfl (nI_1 (j)) (by decide) rfl (fun ls hl => ?_)
                    refine lv_goto (tgt := 559) hM.x hM.b dL_law_847 (by decide) ?_
                    refine W.widen (k := k1 + 16 * (j + 1)) (n := n1 + 96 * (j + 1)) (by omega) (by omega) ?_
                    exact ih (j + 1) (by omega) H locs ls (lv_sub hl [0, 3, 4, 5, 6, 7, 8, 9, 10, 11, 12, 13, 14, 15, 16, 17, 18, 19, 20, 21, 22] rfl) hw kk
              · skip
                refine lv_aload_n hM.x hM.b dL_law_780 rfl (lv_at hl 10 rfl) ?_
                refine lv_iload hM.x hM.b dL_law_781 (lv_at hl 2 rfl) ?_
                refine k_xiK (rd_roast hR hq hjN).2.2.2.2.2.2.2 hw (k_runXV [.int (nI (j))] [] hM hw (m_X4_isBurnt l ((D, L), cA, ad) θ _ (nI (j)) hlst) (hw.dm kd_0 (by decide)) (sh4 kd_0) rfl (k_gV u_ml_L_152 u_im_X4_isBurnt u_se_X4_isBurnt u_ini_X4 u_co_X4_isBurnt) (q_X4_isBurnt) rfl rfl rfl ⟨(Nat.le_of_ble_eq_true rfl), (Nat.le_of_ble_eq_true rfl)⟩ hl.1 rfl (Nat.le_of_ble_eq_true rfl) dL_law_783 ⟨(by show _ ≤ (817018 : Nat); omega), (by show _ ≤ (6650127 : Nat); omega)⟩) (fun H locs hw => ?_)
                refine lv_if_ne (tgt := 791) hM.x hM.b dL_law_786 (by decide) (fun _ => ?_) (fun cz => absurd cz (by rw [burnt_c hI hC hA hjN (bi_ne (fun z => c58 (tb.trans z)))]; exact bi_t))
                refine lv_iload hM.x hM.b dL_law_791 (lv_at hl 1 rfl) ?_
                refine lv_if_ge (tgt := 810) hM.x hM.b dL_law_793 (by decide) (fun c62 => ?_) (fun c62 => ?_)
                · skip
                  refine lv_aload_n hM.x hM.b dL_law_810 rfl (lv_at hl 10 rfl) ?_
                  refine lv_iload hM.x hM.b dL_law_811 (lv_at hl 2 rfl) ?_
                  refine k_xiK (rd_roast hR hq hjN).2.2.1 hw (k_runXV [.int (nI (j))] [] hM hw (m_X4_sideToFire l ((D, L), cA, ad) θ _ (nI (j)) hlst) (hw.dm kd_0 (by decide)) (sh4 kd_0) rfl (k_gV u_ml_L_146 u_im_X4_sideToFire u_se_X4_sideToFire u_ini_X4 u_co_X4_sideToFire) (q_X4_sideToFire) rfl rfl rfl ⟨(Nat.le_of_ble_eq_true rfl), (Nat.le_of_ble_eq_true rfl)⟩ hl.1 rfl (Nat.le_of_ble_eq_true rfl) dL_law_813 ⟨(by show _ ≤ (817018 : Nat); omega), (by show _ ≤ (6650127 : Nat); omega)⟩) (fun H locs hw => ?_)
                  refine lv_aload hM.x hM.b dL_law_816 (lv_at hl 17 rfl) ?_
                  refine lv_iload hM.x hM.b dL_law_818 (lv_at hl 2 rfl) ?_
                  refine k_ialdN (i := j) (n := nr) hM hw (hT.m 154 (by decide) (by decide)) ((hT.s154)) hjN (by omega) dL_law_820 ?_
                  refine lv_icmp_eq (tgt := 844) hM.x hM.b dL_law_821 (by decide) (fun c63 => ?_) (fun c63 => ?_)
                  · skip
                    refine lv_iinc (v := nI (j + 1)) (lv' := [(21, .int (nI (j + 1))), (23, .int (gotP β j)), (22, .int (β (14 + 2 * j) 2)), (19, .int (fatP a (j + 1))), (20, .int (0)), (13, .int (dripP β ns)), (16, .int (fatP β nr)), (17, .int (β 1 6)), (18, .int (v)), (0, .ref b), (1, .ref (ad (0))), (2, .ref (ad (91))), (3, .int (nI (t))), (5, .int (nI (ns))), (6, .int (nI (nr))), (7, .ref (ad (136))), (8, .ref (ad (153))), (9, .ref (ad (154))), (10, .ref (ad (155))), (11, .ref (ad (156))), (12, .ref (ad (157))), (14, .ref (ad (158))), (15, .ref (ad (159)))]) hM.x hM.b dL_law_844 hl (k := 2) rfl (nI_1 (j)) (by decide) rfl (fun ls hl => ?_)
                    refine lv_goto (tgt := 559) hM.x hM.b dL_law_847 (by decide) ?_
                    refine W.widen (k := k1 + 16 * (j + 1)) (n := n1 + 96 * (j + 1)) (by omega) (by omega) ?_
                    exact ih (j + 1) (by omega) H locs ls (lv_sub hl [0, 3, 4, 5, 6, 7, 8, 9, 10, 11, 12, 13, 14, 15, 16, 17, 18, 19, 20, 21, 22] rfl) hw kk
                  · skip
                    refine lv_aload_n hM.x hM.b dL_law_824 rfl (lv_at hl 10 rfl) ?_
                    refine lv_iload hM.x hM.b dL_law_825 (lv_at hl 2 rfl) ?_
                    refine k_xiK (rd_roast hR hq hjN).2.2.1 hw (k_runXV [.int (nI (j))] [] hM hw (m_X4_sideToFire l ((D, L), cA, ad) θ _ (nI (j)) hlst) (hw.dm kd_0 (by decide)) (sh4 kd_0) rfl (k_gV u_ml_L_146 u_im_X4_sideToFire u_se_X4_sideToFire u_ini_X4 u_co_X4_sideToFire) (q_X4_sideToFire) rfl rfl rfl ⟨(Nat.le_of_ble_eq_true rfl), (Nat.le_of_ble_eq_true rfl)⟩ hl.1 rfl (Nat.le_of_ble_eq_true rfl) dL_law_827 ⟨(by show _ ≤ (817018 : Nat); omega), (by show _ ≤ (6650127 : Nat); omega)⟩) (fun H locs hw => ?_)
                    refine lv_aload hM.x hM.b dL_law_830 (lv_at hl 17 rfl) ?_
                    refine lv_iload hM.x hM.b dL_law_832 (lv_at hl 2 rfl) ?_
                    refine k_ialdN (i := j) (n := nr) hM hw (hT.m 154 (by decide) (by decide)) ((hT.s154)) hjN (by omega) dL_law_834 ?_
                    refine lv_iconst (v := 1) hM.x hM.b dL_law_835 (by decide) ?_
                    refine lv_iadd hM.x hM.b dL_law_836 ?_
                    refine lv_iconst (v := 4) hM.x hM.b dL_law_837 (by decide) ?_
                    refine lv_irem hM.x hM.b dL_law_838 (by decide) ?_
                    refine lv_icmp_eq (tgt := 844) hM.x hM.b dL_law_839 (by decide) (fun _ => ?_) (fun cz => absurd (by rw [t3]; exact (side_c hI hC hA hjN).2.resolve_left (fun z => c63 (by rw [t3]; exact z))) cz)
                    refine lv_iinc (v := nI (j + 1)) (lv' := [(21, .int (nI (j + 1))), (23, .int (gotP β j)), (22, .int (β (14 + 2 * j) 2)), (19, .int (fatP a (j + 1))), (20, .int (0)), (13, .int (dripP β ns)), (16, .int (fatP β nr)), (17, .int (β 1 6)), (18, .int (v)), (0, .ref b), (1, .ref (ad (0))), (2, .ref (ad (91))), (3, .int (nI (t))), (5, .int (nI (ns))), (6, .int (nI (nr))), (7, .ref (ad (136))), (8, .ref (ad (153))), (9, .ref (ad (154))), (10, .ref (ad (155))), (11, .ref (ad (156))), (12, .ref (ad (157))), (14, .ref (ad (158))), (15, .ref (ad (159)))]) hM.x hM.b dL_law_844 hl (k := 2) rfl (nI_1 (j)) (by decide) rfl (fun ls hl => ?_)
                    refine lv_goto (tgt := 559) hM.x hM.b dL_law_847 (by decide) ?_
                    refine W.widen (k := k1 + 16 * (j + 1)) (n := n1 + 96 * (j + 1)) (by omega) (by omega) ?_
                    exact ih (j + 1) (by omega) H locs ls (lv_sub hl [0, 3, 4, 5, 6, 7, 8, 9, 10, 11, 12, 13, 14, 15, 16, 17, 18, 19, 20, 21, 22] rfl) hw kk
                · skip
                  refine lv_aload_n hM.x hM.b dL_law_796 rfl (lv_at hl 10 rfl) ?_
                  refine lv_iload hM.x hM.b dL_law_797 (lv_at hl 2 rfl) ?_
                  refine k_xiK (rd_roast hR hq hjN).2.2.1 hw (k_runXV [.int (nI (j))] [] hM hw (m_X4_sideToFire l ((D, L), cA, ad) θ _ (nI (j)) hlst) (hw.dm kd_0 (by decide)) (sh4 kd_0) rfl (k_gV u_ml_L_146 u_im_X4_sideToFire u_se_X4_sideToFire u_ini_X4 u_co_X4_sideToFire) (q_X4_sideToFire) rfl rfl rfl ⟨(Nat.le_of_ble_eq_true rfl), (Nat.le_of_ble_eq_true rfl)⟩ hl.1 rfl (Nat.le_of_ble_eq_true rfl) dL_law_799 ⟨(by show _ ≤ (817018 : Nat); omega), (by show _ ≤ (6650127 : Nat); omega)⟩) (fun H locs hw => ?_)
                  refine lv_aload hM.x hM.b dL_law_802 (lv_at hl 17 rfl) ?_
                  refine lv_iload hM.x hM.b dL_law_804 (lv_at hl 2 rfl) ?_
                  refine k_ialdN (i := j) (n := nr) hM hw (hT.m 154 (by decide) (by decide)) ((hT.s154)) hjN (by omega) dL_law_806 ?_
                  refine lv_icmp_ne (tgt := 842) hM.x hM.b dL_law_807 (by decide) (fun cz => absurd (by rw [t3]; exact (side_c hI hC hA hjN).1 (Int32.not_le.mp c62)) cz) (fun _ => ?_)
                  refine lv_aload_n hM.x hM.b dL_law_810 rfl (lv_at hl 10 rfl) ?_
                  refine lv_iload hM.x hM.b dL_law_811 (lv_at hl 2 rfl) ?_
                  refine k_xiK (rd_roast hR hq hjN).2.2.1 hw (k_runXV [.int (nI (j))] [] hM hw (m_X4_sideToFire l ((D, L), cA, ad) θ _ (nI (j)) hlst) (hw.dm kd_0 (by decide)) (sh4 kd_0) rfl (k_gV u_ml_L_146 u_im_X4_sideToFire u_se_X4_sideToFire u_ini_X4 u_co_X4_sideToFire) (q_X4_sideToFire) rfl rfl rfl ⟨(Nat.le_of_ble_eq_true rfl), (Nat.le_of_ble_eq_true rfl)⟩ hl.1 rfl (Nat.le_of_ble_eq_true rfl) dL_law_813 ⟨(by show _ ≤ (817018 : Nat); omega), (by show _ ≤ (6650127 : Nat); omega)⟩) (fun H locs hw => ?_)
                  refine lv_aload hM.x hM.b dL_law_816 (lv_at hl 17 rfl) ?_
                  refine lv_iload hM.x hM.b dL_law_818 (lv_at hl 2 rfl) ?_
                  refine k_ialdN (i := j) (n := nr) hM hw (hT.m 154 (by decide) (by decide)) ((hT.s154)) hjN (by omega) dL_law_820 ?_
                  refine lv_icmp_eq (tgt := 844) hM.x hM.b dL_law_821 (by decide) (fun c64 => ?_) (fun c64 => ?_)
                  · skip
                    refine lv_iinc (v := nI (j + 1)) (lv' := [(21, .int (nI (j + 1))), (23, .int (gotP β j)), (22, .int (β (14 + 2 * j) 2)), (19, .int (fatP a (j + 1))), (20, .int (0)), (13, .int (dripP β ns)), (16, .int (fatP β nr)), (17, .int (β 1 6)), (18, .int (v)), (0, .ref b), (1, .ref (ad (0))), (2, .ref (ad (91))), (3, .int (nI (t))), (5, .int (nI (ns))), (6, .int (nI (nr))), (7, .ref (ad (136))), (8, .ref (ad (153))), (9, .ref (ad (154))), (10, .ref (ad (155))), (11, .ref (ad (156))), (12, .ref (ad (157))), (14, .ref (ad (158))), (15, .ref (ad (159)))]) hM.x hM.b dL_law_844 hl (k := 2) rfl (nI_1 (j)) (by decide) rfl (fun ls hl => ?_)
                    refine lv_goto (tgt := 559) hM.x hM.b dL_law_847 (by decide) ?_
                    refine W.widen (k := k1 + 16 * (j + 1)) (n := n1 + 96 * (j + 1)) (by omega) (by omega) ?_
                    exact ih (j + 1) (by omega) H locs ls (lv_sub hl [0, 3, 4, 5, 6, 7, 8, 9, 10, 11, 12, 13, 14, 15, 16, 17, 18, 19, 20, 21, 22] rfl) hw kk
                  · skip
                    refine lv_aload_n hM.x hM.b dL_law_824 rfl (lv_at hl 10 rfl) ?_
                    refine lv_iload hM.x hM.b dL_law_825 (lv_at hl 2 rfl) ?_
                    refine k_xiK (rd_roast hR hq hjN).2.2.1 hw (k_runXV [.int (nI (j))] [] hM hw (m_X4_sideToFire l ((D, L), cA, ad) θ _ (nI (j)) hlst) (hw.dm kd_0 (by decide)) (sh4 kd_0) rfl (k_gV u_ml_L_146 u_im_X4_sideToFire u_se_X4_sideToFire u_ini_X4 u_co_X4_sideToFire) (q_X4_sideToFire) rfl rfl rfl ⟨(Nat.le_of_ble_eq_true rfl), (Nat.le_of_ble_eq_true rfl)⟩ hl.1 rfl (Nat.le_of_ble_eq_true rfl) dL_law_827 ⟨(by show _ ≤ (817018 : Nat); omega), (by show _ ≤ (6650127 : Nat); omega)⟩) (fun H locs hw => ?_)
                    refine lv_aload hM.x hM.b dL_law_830 (lv_at hl 17 rfl) ?_
                    refine lv_iload hM.x hM.b dL_law_832 (lv_at hl 2 rfl) ?_
                    refine k_ialdN (i := j) (n := nr) hM hw (hT.m 154 (by decide) (by decide)) ((hT.s154)) hjN (by omega) dL_law_834 ?_
                    refine lv_iconst (v := 1) hM.x hM.b dL_law_835 (by decide) ?_
                    refine lv_iadd hM.x hM.b dL_law_836 ?_
                    refine lv_iconst (v := 4) hM.x hM.b dL_law_837 (by decide) ?_
                    refine lv_irem hM.x hM.b dL_law_838 (by decide) ?_
                    refine lv_icmp_eq (tgt := 844) hM.x hM.b dL_law_839 (by decide) (fun _ => ?_) (fun cz => absurd (by rw [t3]; exact (side_c hI hC hA hjN).2.resolve_left (fun z => c64 (by rw [t3]; exact z))) cz)
                    refine lv_iinc (v := nI (j + 1)) (lv' := [(21, .int (nI (j + 1))), (23, .int (gotP β j)), (22, .int (β (14 + 2 * j) 2)), (19, .int (fatP a (j + 1))), (20, .int (0)), (13, .int (dripP β ns)), (16, .int (fatP β nr)), (17, .int (β 1 6)), (18, .int (v)), (0, .ref b), (1, .ref (ad (0))), (2, .ref (ad (91))), (3, .int (nI (t))), (5, .int (nI (ns))), (6, .int (nI (nr))), (7, .ref (ad (136))), (8, .ref (ad (153))), (9, .ref (ad (154))), (10, .ref (ad (155))), (11, .ref (ad (156))), (12, .ref (ad (157))), (14, .ref (ad (158))), (15, .ref (ad (159)))]) hM.x hM.b dL_law_844 hl (k := 2) rfl (nI_1 (j)) (by decide) rfl (fun ls hl => ?_)
                    refine lv_goto (tgt := 559) hM.x hM.b dL_law_847 (by decide) ?_
                    refine W.widen (k := k1 + 16 * (j + 1)) (n := n1 + 96 * (j + 1)) (by omega) (by omega) ?_
                    exact ih (j + 1) (by omega) H locs ls (lv_sub hl [0, 3, 4, 5, 6, 7, 8, 9, 10, 11, 12, 13, 14, 15, 16, 17, 18, 19, 20, 21, 22] rfl) hw kk
            · skip
              refine lv_aload hM.x hM.b dL_law_754 (lv_at hl 18 rfl) ?_
              refine lv_iload hM.x hM.b dL_law_756 (lv_at hl 2 rfl) ?_
              refine k_ialdN (i := j) (n := nr) hM hw (hT.m 155 (by decide) (by decide)) ((hT.s155)) hjN (by omega) dL_law_758 ?_
              refine lv_iconst (v := 1) hM.x hM.b dL_law_759 (by decide) ?_
              refine lv_isub hM.x hM.b dL_law_760 ?_
              refine lv_goto (tgt := 769) hM.x hM.b dL_law_761 (by decide) ?_
              refine lv_icmp_ne (tgt := 789) hM.x hM.b dL_law_769 (by decide) (fun cz => absurd (by rw [t5]; exact wet_c1 hI hC hA hjN c49 (by rw [← t5]; exact c57)) cz) (fun _ => ?_)
              refine lv_aload hM.x hM.b dL_law_772 (lv_at hl 19 rfl) ?_
              refine lv_iload hM.x hM.b dL_law_774 (lv_at hl 2 rfl) ?_
              refine k_zald (n := nr) hM hw (hT.m 156 (by decide) (by decide)) hT.s156 (vp_in_nI hjN (by omega)) dL_law_776 ?_
              rw [nI_clamp (by omega)]
              refine lv_if_eq (tgt := 791) hM.x hM.b dL_law_777 (by decide) (fun c65 => ?_) (fun c65 => ?_)
              · skip
                refine lv_iload hM.x hM.b dL_law_791 (lv_at hl 1 rfl) ?_
                refine lv_if_ge (tgt := 810) hM.x hM.b dL_law_793 (by decide) (fun c66 => ?_) (fun c66 => ?_)
                · skip
                  refine lv_aload_n hM.x hM.b dL_law_810 rfl (lv_at hl 10 rfl) ?_
                  refine lv_iload hM.x hM.b dL_law_811 (lv_at hl 2 rfl) ?_
                  refine k_xiK (rd_roast hR hq hjN).2.2.1 hw (k_runXV [.int (nI (j))] [] hM hw (m_X4_sideToFire l ((D, L), cA, ad) θ _ (nI (j)) hlst) (hw.dm kd_0 (by decide)) (sh4 kd_0) rfl (k_gV u_ml_L_146 u_im_X4_sideToFire u_se_X4_sideToFire u_ini_X4 u_co_X4_sideToFire) (q_X4_sideToFire) rfl rfl rfl ⟨(Nat.le_of_ble_eq_true rfl), (Nat.le_of_ble_eq_true rfl)⟩ hl.1 rfl (Nat.le_of_ble_eq_true rfl) dL_law_813 ⟨(by show _ ≤ (817018 : Nat); omega), (by show _ ≤ (6650127 : Nat); omega)⟩) (fun H locs hw => ?_)
                  refine lv_aload hM.x hM.b dL_law_816 (lv_at hl 17 rfl) ?_
                  refine lv_iload hM.x hM.b dL_law_818 (lv_at hl 2 rfl) ?_
                  refine k_ialdN (i := j) (n := nr) hM hw (hT.m 154 (by decide) (by decide)) ((hT.s154)) hjN (by omega) dL_law_820 ?_
                  refine lv_icmp_eq (tgt := 844) hM.x hM.b dL_law_821 (by decide) (fun c67 => ?_) (fun c67 => ?_)
                  · skip
                    refine lv_iinc (v := nI (j + 1)) (lv' := [(21, .int (nI (j + 1))), (23, .int (gotP β j)), (22, .int (β (14 + 2 * j) 2)), (19, .int (fatP a (j + 1))), (20, .int (0)), (13, .int (dripP β ns)), (16, .int (fatP β nr)), (17, .int (β 1 6)), (18, .int (v)), (0, .ref b), (1, .ref (ad (0))), (2, .ref (ad (91))), (3, .int (nI (t))), (5, .int (nI (ns))), (6, .int (nI (nr))), (7, .ref (ad (136))), (8, .ref (ad (153))), (9, .ref (ad (154))), (10, .ref (ad (155))), (11, .ref (ad (156))), (12, .ref (ad (157))), (14, .ref (ad (158))), (15, .ref (ad (159)))]) hM.x hM.b dL_law_844 hl (k := 2) rfl (nI_1 (j)) (by decide) rfl (fun ls hl => ?_)
                    refine lv_goto (tgt := 559) hM.x hM.b dL_law_847 (by decide) ?_
                    refine W.widen (k := k1 + 16 * (j + 1)) (n := n1 + 96 * (j + 1)) (by omega) (by omega) ?_
                    exact ih (j + 1) (by omega) H locs ls (lv_sub hl [0, 3, 4, 5, 6, 7, 8, 9, 10, 11, 12, 13, 14, 15, 16, 17, 18, 19, 20, 21, 22] rfl) hw kk
                  · skip
                    refine lv_aload_n hM.x hM.b dL_law_824 rfl (lv_at hl 10 rfl) ?_
                    refine lv_iload hM.x hM.b dL_law_825 (lv_at hl 2 rfl) ?_
                    refine k_xiK (rd_roast hR hq hjN).2.2.1 hw (k_runXV [.int (nI (j))] [] hM hw (m_X4_sideToFire l ((D, L), cA, ad) θ _ (nI (j)) hlst) (hw.dm kd_0 (by decide)) (sh4 kd_0) rfl (k_gV u_ml_L_146 u_im_X4_sideToFire u_se_X4_sideToFire u_ini_X4 u_co_X4_sideToFire) (q_X4_sideToFire) rfl rfl rfl ⟨(Nat.le_of_ble_eq_true rfl), (Nat.le_of_ble_eq_true rfl)⟩ hl.1 rfl (Nat.le_of_ble_eq_true rfl) dL_law_827 ⟨(by show _ ≤ (817018 : Nat); omega), (by show _ ≤ (6650127 : Nat); omega)⟩) (fun H locs hw => ?_)
                    refine lv_aload hM.x hM.b dL_law_830 (lv_at hl 17 rfl) ?_
                    refine lv_iload hM.x hM.b dL_law_832 (lv_at hl 2 rfl) ?_
                    refine k_ialdN (i := j) (n := nr) hM hw (hT.m 154 (by decide) (by decide)) ((hT.s154)) hjN (by omega) dL_law_834 ?_
                    refine lv_iconst (v := 1) hM.x hM.b dL_law_835 (by decide) ?_
                    refine lv_iadd hM.x hM.b dL_law_836 ?_
                    refine lv_iconst (v := 4) hM.x hM.b dL_law_837 (by decide) ?_
                    refine lv_irem hM.x hM.b dL_law_838 (by decide) ?_
                    refine lv_icmp_eq (tgt := 844) hM.x hM.b dL_law_839 (by decide) (fun _ => ?_) (fun cz => absurd (by rw [t3]; exact (side_c hI hC hA hjN).2.resolve_left (fun z => c67 (by rw [t3]; exact z))) cz)
                    refine lv_iinc (v := nI (j + 1)) (lv' := [(21, .int (nI (j + 1))), (23, .int (gotP β j)), (22, .int (β (14 + 2 * j) 2)), (19, .int (fatP a (j + 1))), (20, .int (0)), (13, .int (dripP β ns)), (16, .int (fatP β nr)), (17, .int (β 1 6)), (18, .int (v)), (0, .ref b), (1, .ref (ad (0))), (2, .ref (ad (91))), (3, .int (nI (t))), (5, .int (nI (ns))), (6, .int (nI (nr))), (7, .ref (ad (136))), (8, .ref (ad (153))), (9, .ref (ad (154))), (10, .ref (ad (155))), (11, .ref (ad (156))), (12, .ref (ad (157))), (14, .ref (ad (158))), (15, .ref (ad (159)))]) hM.x hM.b dL_law_844 hl (k := 2) rfl (nI_1 (j)) (by decide) rfl (fun ls hl => ?_)
                    refine lv_goto (tgt := 559) hM.x hM.b dL_law_847 (by decide) ?_
                    refine W.widen (k := k1 + 16 * (j + 1)) (n := n1 + 96 * (j + 1)) (by omega) (by omega) ?_
                    exact ih (j + 1) (by omega) H locs ls (lv_sub hl [0, 3, 4, 5, 6, 7, 8, 9, 10, 11, 12, 13, 14, 15, 16, 17, 18, 19, 20, 21, 22] rfl) hw kk
                · skip
                  refine lv_aload_n hM.x hM.b dL_law_796 rfl (lv_at hl 10 rfl) ?_
                  refine lv_iload hM.x hM.b dL_law_797 (lv_at hl 2 rfl) ?_
                  refine k_xiK (rd_roast hR hq hjN).2.2.1 hw (k_runXV [.int (nI (j))] [] hM hw (m_X4_sideToFire l ((D, L), cA, ad) θ _ (nI (j)) hlst) (hw.dm kd_0 (by decide)) (sh4 kd_0) rfl (k_gV u_ml_L_146 u_im_X4_sideToFire u_se_X4_sideToFire u_ini_X4 u_co_X4_sideToFire) (q_X4_sideToFire) rfl rfl rfl ⟨(Nat.le_of_ble_eq_true rfl), (Nat.le_of_ble_eq_true rfl)⟩ hl.1 rfl (Nat.le_of_ble_eq_true rfl) dL_law_799 ⟨(by show _ ≤ (817018 : Nat); omega), (by show _ ≤ (6650127 : Nat); omega)⟩) (fun H locs hw => ?_)
                  refine lv_aload hM.x hM.b dL_law_802 (lv_at hl 17 rfl) ?_
                  refine lv_iload hM.x hM.b dL_law_804 (lv_at hl 2 rfl) ?_
                  refine k_ialdN (i := j) (n := nr) hM hw (hT.m 154 (by decide) (by decide)) ((hT.s154)) hjN (by omega) dL_law_806 ?_
                  refine lv_icmp_ne (tgt := 842) hM.x hM.b dL_law_807 (by decide) (fun cz => absurd (by rw [t3]; exact (side_c hI hC hA hjN).1 (Int32.not_le.mp c66)) cz) (fun _ => ?_)
                  refine lv_aload_n hM.x hM.b dL_law_810 rfl (lv_at hl 10 rfl) ?_
                  refine lv_iload hM.x hM.b dL_law_811 (lv_at hl 2 rfl) ?_
                  refine k_xiK (rd_roast hR hq hjN).2.2.1 hw (k_runXV [.int (nI (j))] [] hM hw (m_X4_sideToFire l ((D, L), cA, ad) θ _ (nI (j)) hlst) (hw.dm kd_0 (by decide)) (sh4 kd_0) rfl (k_gV u_ml_L_146 u_im_X4_sideToFire u_se_X4_sideToFire u_ini_X4 u_co_X4_sideToFire) (q_X4_sideToFire) rfl rfl rfl ⟨(Nat.le_of_ble_eq_true rfl), (Nat.le_of_ble_eq_true rfl)⟩ hl.1 rfl (Nat.le_of_ble_eq_true rfl) dL_law_813 ⟨(by show _ ≤ (817018 : Nat); omega), (by show _ ≤ (6650127 : Nat); omega)⟩) (fun H locs hw => ?_)
                  refine lv_aload hM.x hM.b dL_law_816 (lv_at hl 17 rfl) ?_
                  refine lv_iload hM.x hM.b dL_law_818 (lv_at hl 2 rfl) ?_
                  refine k_ialdN (i := j) (n := nr) hM hw (hT.m 154 (by decide) (by decide)) ((hT.s154)) hjN (by omega) dL_law_820 ?_
                  refine lv_icmp_eq (tgt := 844) hM.x hM.b dL_law_821 (by decide) (fun c68 => ?_) (fun c68 => ?_)
                  · skip
                    refine lv_iinc (v := nI (j + 1)) (lv' := [(21, .int (nI (j + 1))), (23, .int (gotP β j)), (22, .int (β (14 + 2 * j) 2)), (19, .int (fatP a (j + 1))), (20, .int (0)), (13, .int (dripP β ns)), (16, .int (fatP β nr)), (17, .int (β 1 6)), (18, .int (v)), (0, .ref b), (1, .ref (ad (0))), (2, .ref (ad (91))), (3, .int (nI (t))), (5, .int (nI (ns))), (6, .int (nI (nr))), (7, .ref (ad (136))), (8, .ref (ad (153))), (9, .ref (ad (154))), (10, .ref (ad (155))), (11, .ref (ad (156))), (12, .ref (ad (157))), (14, .ref (ad (158))), (15, .ref (ad (159)))]) hM.x hM.b dL_law_844 hl (k := 2) rfl (nI_1 (j)) (by decide) rfl (fun ls hl => ?_)
                    refine lv_goto (tgt := 559) hM.x hM.b dL_law_847 (by decide) ?_
                    refine W.widen (k := k1 + 16 * (j + 1)) (n := n1 + 96 * (j + 1)) (by omega) (by omega) ?_
                    exact ih (j + 1) (by omega) H locs ls (lv_sub hl [0, 3, 4, 5, 6, 7, 8, 9, 10, 11, 12, 13, 14, 15, 16, 17, 18, 19, 20, 21, 22] rfl) hw kk
                  · skip
                    refine lv_aload_n hM.x hM.b dL_law_824 rfl (lv_at hl 10 rfl) ?_
                    refine lv_iload hM.x hM.b dL_law_825 (lv_at hl 2 rfl) ?_
                    refine k_xiK (rd_roast hR hq hjN).2.2.1 hw (k_runXV [.int (nI (j))] [] hM hw (m_X4_sideToFire l ((D, L), cA, ad) θ _ (nI (j)) hlst) (hw.dm kd_0 (by decide)) (sh4 kd_0) rfl (k_gV u_ml_L_146 u_im_X4_sideToFire u_se_X4_sideToFire u_ini_X4 u_co_X4_sideToFire) (q_X4_sideToFire) rfl rfl rfl ⟨(Nat.le_of_ble_eq_true rfl), (Nat.le_of_ble_eq_true rfl)⟩ hl.1 rfl (Nat.le_of_ble_eq_true rfl) dL_law_827 ⟨(by show _ ≤ (817018 : Nat); omega), (by show _ ≤ (6650127 : Nat); omega)⟩) (fun H locs hw => ?_)
                    refine lv_aload hM.x hM.b dL_law_830 (lv_at hl 17 rfl) ?_
                    refine lv_iload hM.x hM.b dL_law_832 (lv_at hl 2 rfl) ?_
                    refine k_ialdN (i := j) (n := nr) hM hw (hT.m 154 (by decide) (by decide)) ((hT.s154)) hjN (by omega) dL_law_834 ?_
                    refine lv_iconst (v := 1) hM.x hM.b dL_law_835 (by decide) ?_
                    refine lv_iadd hM.x hM.b dL_law_836 ?_
                    refine lv_iconst (v := 4) hM.x hM.b dL_law_837 (by decide) ?_
                    refine lv_irem hM.x hM.b dL_law_838 (by decide) ?_
                    refine lv_icmp_eq (tgt := 844) hM.x hM.b dL_law_839 (by decide) (fun _ => ?_) (fun cz => absurd (by rw [t3]; exact (side_c hI hC hA hjN).2.resolve_left (fun z => c68 (by rw [t3]; exact z))) cz)
                    refine lv_iinc (v := nI (j + 1)) (lv' := [(21, .int (nI (j + 1))), (23, .int (gotP β j)), (22, .int (β (14 + 2 * j) 2)), (19, .int (fatP a (j + 1))), (20, .int (0)), (13, .int (dripP β ns)), (16, .int (fatP β nr)), (17, .int (β 1 6)), (18, .int (v)), (0, .ref b), (1, .ref (ad (0))), (2, .ref (ad (91))), (3, .int (nI (t))), (5, .int (nI (ns))), (6, .int (nI (nr))), (7, .ref (ad (136))), (8, .ref (ad (153))), (9, .ref (ad (154))), (10, .ref (ad (155))), (11, .ref (ad (156))), (12, .ref (ad (157))), (14, .ref (ad (158))), (15, .ref (ad (159)))]) hM.x hM.b dL_law_844 hl (k := 2) rfl (nI_1 (j)) (by decide) rfl (fun ls hl => ?_)
                    refine lv_goto (tgt := 559) hM.x hM.b dL_law_847 (by decide) ?_
                    refine W.widen (k := k1 + 16 * (j + 1)) (n := n1 + 96 * (j + 1)) (by omega) (by omega) ?_
                    exact ih (j + 1) (by omega) H locs ls (lv_sub hl [0, 3, 4, 5, 6, 7, 8, 9, 10, 11, 12, 13, 14, 15, 16, 17, 18, 19, 20, 21, 22] rfl) hw kk
              · skip
                refine lv_aload_n hM.x hM.b dL_law_780 rfl (lv_at hl 10 rfl) ?_
                refine lv_iload hM.x hM.b dL_law_781 (lv_at hl 2 rfl) ?_
                refine k_xiK (rd_roast hR hq hjN).2.2.2.2.2.2.2 hw (k_runXV [.int (nI (j))] [] hM hw (m_X4_isBurnt l ((D, L), cA, ad) θ _ (nI (j)) hlst) (hw.dm kd_0 (by decide)) (sh4 kd_0) rfl (k_gV u_ml_L_152 u_im_X4_isBurnt u_se_X4_isBurnt u_ini_X4 u_co_X4_isBurnt) (q_X4_isBurnt) rfl rfl rfl ⟨(Nat.le_of_ble_eq_true rfl), (Nat.le_of_ble_eq_true rfl)⟩ hl.1 rfl (Nat.le_of_ble_eq_true rfl) dL_law_783 ⟨(by show _ ≤ (817018 : Nat); omega), (by show _ ≤ (6650127 : Nat); omega)⟩) (fun H locs hw => ?_)
                refine lv_if_ne (tgt := 791) hM.x hM.b dL_law_786 (by decide) (fun _ => ?_) (fun cz => absurd cz (by rw [burnt_c hI hC hA hjN (bi_ne (fun z => c65 (tb.trans z)))]; exact bi_t))
                refine lv_iload hM.x hM.b dL_law_791 (lv_at hl 1 rfl) ?_
                refine lv_if_ge (tgt := 810) hM.x hM.b dL_law_793 (by decide) (fun c69 => ?_) (fun c69 => ?_)
                · skip
                  refine lv_aload_n hM.x hM.b dL_law_810 rfl (lv_at hl 10 rfl) ?_
                  refine lv_iload hM.x hM.b dL_law_811 (lv_at hl 2 rfl) ?_
                  refine k_xiK (rd_roast hR hq hjN).2.2.1 hw (k_runXV [.int (nI (j))] [] hM hw (m_X4_sideToFire l ((D, L), cA, ad) θ _ (nI (j)) hlst) (hw.dm kd_0 (by decide)) (sh4 kd_0) rfl (k_gV u_ml_L_146 u_im_X4_sideToFire u_se_X4_sideToFire u_ini_X4 u_co_X4_sideToFire) (q_X4_sideToFire) rfl rfl rfl ⟨(Nat.le_of_ble_eq_true rfl), (Nat.le_of_ble_eq_true rfl)⟩ hl.1 rfl (Nat.le_of_ble_eq_true rfl) dL_law_813 ⟨(by show _ ≤ (817018 : Nat); omega), (by show _ ≤ (6650127 : Nat); omega)⟩) (fun H locs hw => ?_)
                  refine lv_aload hM.x hM.b dL_law_816 (lv_at hl 17 rfl) ?_
                  refine lv_iload hM.x hM.b dL_law_818 (lv_at hl 2 rfl) ?_
                  refine k_ialdN (i := j) (n := nr) hM hw (hT.m 154 (by decide) (by decide)) ((hT.s154)) hjN (by omega) dL_law_820 ?_
                  refine lv_icmp_eq (tgt := 844) hM.x hM.b dL_law_821 (by decide) (fun c70 => ?_) (fun c70 => ?_)
                  · skip
                    refine lv_iinc (v := nI (j + 1)) (lv' := [(21, .int (nI (j + 1))), (23, .int (gotP β j)), (22, .int (β (14 + 2 * j) 2)), (19, .int (fatP a (j + 1))), (20, .int (0)), (13, .int (dripP β ns)), (16, .int (fatP β nr)), (17, .int (β 1 6)), (18, .int (v)), (0, .ref b), (1, .ref (ad (0))), (2, .ref (ad (91))), (3, .int (nI (t))), (5, .int (nI (ns))), (6, .int (nI (nr))), (7, .ref (ad (136))), (8, .ref (ad (153))), (9, .ref (ad (154))), (10, .ref (ad (155))), (11, .ref (ad (156))), (12, .ref (ad (157))), (14, .ref (ad (158))), (15, .ref (ad (159)))]) hM.x hM.b dL_law_844 hl (k := 2) rfl (nI_1 (j)) (by decide) rfl (fun ls hl => ?_)
                    refine lv_goto (tgt := 559) hM.x hM.b dL_law_847 (by decide) ?_
                    refine W.widen (k := k1 + 16 * (j + 1)) (n := n1 + 96 * (j + 1)) (by omega) (by omega) ?_
                    exact ih (j + 1) (by omega) H locs ls (lv_sub hl [0, 3, 4, 5, 6, 7, 8, 9, 10, 11, 12, 13, 14, 15, 16, 17, 18, 19, 20, 21, 22] rfl) hw kk
                  · skip
                    refine lv_aload_n hM.x hM.b dL_law_824 rfl (lv_at hl 10 rfl) ?_
                    refine lv_iload hM.x hM.b dL_law_825 (lv_at hl 2 rfl) ?_
                    refine k_xiK (rd_roast hR hq hjN).2.2.1 hw (k_runXV [.int (nI (j))] [] hM hw (m_X4_sideToFire l ((D, L), cA, ad) θ _ (nI (j)) hlst) (hw.dm kd_0 (by decide)) (sh4 kd_0) rfl (k_gV u_ml_L_146 u_im_X4_sideToFire u_se_X4_sideToFire u_ini_X4 u_co_X4_sideToFire) (q_X4_sideToFire) rfl rfl rfl ⟨(Nat.le_of_ble_eq_true rfl), (Nat.le_of_ble_eq_true rfl)⟩ hl.1 rfl (Nat.le_of_ble_eq_true rfl) dL_law_827 ⟨(by show _ ≤ (817018 : Nat); omega), (by show _ ≤ (6650127 : Nat); omega)⟩) (fun H locs hw => ?_)
                    refine lv_aload hM.x hM.b dL_law_830 (lv_at hl 17 rfl) ?_
                    refine lv_iload hM.x hM.b dL_law_832 (lv_at hl 2 rfl) ?_
                    refine k_ialdN (i := j) (n := nr) hM hw (hT.m 154 (by decide) (by decide)) ((hT.s154)) hjN (by omega) dL_law_834 ?_
                    refine lv_iconst (v := 1) hM.x hM.b dL_law_835 (by decide) ?_
                    refine lv_iadd hM.x hM.b dL_law_836 ?_
                    refine lv_iconst (v := 4) hM.x hM.b dL_law_837 (by decide) ?_
                    refine lv_irem hM.x hM.b dL_law_838 (by decide) ?_
                    refine lv_icmp_eq (tgt := 844) hM.x hM.b dL_law_839 (by decide) (fun _ => ?_) (fun cz => absurd (by rw [t3]; exact (side_c hI hC hA hjN).2.resolve_left (fun z => c70 (by rw [t3]; exact z))) cz)
                    refine lv_iinc (v := nI (j + 1)) (lv' := [(21, .int (nI (j + 1))), (23, .int (gotP β j)), (22, .int (β (14 + 2 * j) 2)), (19, .int (fatP a (j + 1))), (20, .int (0)), (13, .int (dripP β ns)), (16, .int (fatP β nr)), (17, .int (β 1 6)), (18, .int (v)), (0, .ref b), (1, .ref (ad (0))), (2, .ref (ad (91))), (3, .int (nI (t))), (5, .int (nI (ns))), (6, .int (nI (nr))), (7, .ref (ad (136))), (8, .ref (ad (153))), (9, .ref (ad (154))), (10, .ref (ad (155))), (11, .ref (ad (156))), (12, .ref (ad (157))), (14, .ref (ad (158))), (15, .ref (ad (159)))]) hM.x hM.b dL_law_844 hl (k := 2) rfl (nI_1 (j)) (by decide) rfl (fun ls hl => ?_)
                    refine lv_goto (tgt := 559) hM.x hM.b dL_law_847 (by decide) ?_
                    refine W.widen (k := k1 + 16 * (j + 1)) (n := n1 + 96 * (j + 1)) (by omega) (by omega) ?_
                    exact ih (j + 1) (by omega) H locs ls (lv_sub hl [0, 3, 4, 5, 6, 7, 8, 9, 10, 11, 12, 13, 14, 15, 16, 17, 18, 19, 20, 21, 22] rfl) hw kk
                · skip
                  refine lv_aload_n hM.x hM.b dL_law_796 rfl (lv_at hl 10 rfl) ?_
                  refine lv_iload hM.x hM.b dL_law_797 (lv_at hl 2 rfl) ?_
                  refine k_xiK (rd_roast hR hq hjN).2.2.1 hw (k_runXV [.int (nI (j))] [] hM hw (m_X4_sideToFire l ((D, L), cA, ad) θ _ (nI (j)) hlst) (hw.dm kd_0 (by decide)) (sh4 kd_0) rfl (k_gV u_ml_L_146 u_im_X4_sideToFire u_se_X4_sideToFire u_ini_X4 u_co_X4_sideToFire) (q_X4_sideToFire) rfl rfl rfl ⟨(Nat.le_of_ble_eq_true rfl), (Nat.le_of_ble_eq_true rfl)⟩ hl.1 rfl (Nat.le_of_ble_eq_true rfl) dL_law_799 ⟨(by show _ ≤ (817018 : Nat); omega), (by show _ ≤ (6650127 : Nat); omega)⟩) (fun H locs hw => ?_)
                  refine lv_aload hM.x hM.b dL_law_802 (lv_at hl 17 rfl) ?_
                  refine lv_iload hM.x hM.b dL_law_804 (lv_at hl 2 rfl) ?_
                  refine k_ialdN (i := j) (n := nr) hM hw (hT.m 154 (by decide) (by decide)) ((hT.s154)) hjN (by omega) dL_law_806 ?_
                  refine lv_icmp_ne (tgt := 842) hM.x hM.b dL_law_807 (by decide) (fun cz => absurd (by rw [t3]; exact (side_c hI hC hA hjN).1 (Int32.not_le.mp c69)) cz) (fun _ => ?_)
                  refine lv_aload_n hM.x hM.b dL_law_810 rfl (lv_at hl 10 rfl) ?_
                  refine lv_iload hM.x hM.b dL_law_811 (lv_at hl 2 rfl) ?_
                  refine k_xiK (rd_roast hR hq hjN).2.2.1 hw (k_runXV [.int (nI (j))] [] hM hw (m_X4_sideToFire l ((D, L), cA, ad) θ _ (nI (j)) hlst) (hw.dm kd_0 (by decide)) (sh4 kd_0) rfl (k_gV u_ml_L_146 u_im_X4_sideToFire u_se_X4_sideToFire u_ini_X4 u_co_X4_sideToFire) (q_X4_sideToFire) rfl rfl rfl ⟨(Nat.le_of_ble_eq_true rfl), (Nat.le_of_ble_eq_true rfl)⟩ hl.1 rfl (Nat.le_of_ble_eq_true rfl) dL_law_813 ⟨(by show _ ≤ (817018 : Nat); omega), (by show _ ≤ (6650127 : Nat); omega)⟩) (fun H locs hw => ?_)
                  refine lv_aload hM.x hM.b dL_law_816 (lv_at hl 17 rfl) ?_
                  refine lv_iload hM.x hM.b dL_law_818 (lv_at hl 2 rfl) ?_
                  refine k_ialdN (i := j) (n := nr) hM hw (hT.m 154 (by decide) (by decide)) ((hT.s154)) hjN (by omega) dL_law_820 ?_
                  refine lv_icmp_eq (tgt := 844) hM.x hM.b dL_law_821 (by decide) (fun c71 => ?_) (fun c71 => ?_)
                  · skip
                    refine lv_iinc (v := nI (j + 1)) (lv' := [(21, .int (nI (j + 1))), (23, .int (gotP β j)), (22, .int (β (14 + 2 * j) 2)), (19, .int (fatP a (j + 1))), (20, .int (0)), (13, .int (dripP β ns)), (16, .int (fatP β nr)), (17, .int (β 1 6)), (18, .int (v)), (0, .ref b), (1, .ref (ad (0))), (2, .ref (ad (91))), (3, .int (nI (t))), (5, .int (nI (ns))), (6, .int (nI (nr))), (7, .ref (ad (136))), (8, .ref (ad (153))), (9, .ref (ad (154))), (10, .ref (ad (155))), (11, .ref (ad (156))), (12, .ref (ad (157))), (14, .ref (ad (158))), (15, .ref (ad (159)))]) hM.x hM.b dL_law_844 hl (k := 2) rfl (nI_1 (j)) (by decide) rfl (fun ls hl => ?_)
                    refine lv_goto (tgt := 559) hM.x hM.b dL_law_847 (by decide) ?_
                    refine W.widen (k := k1 + 16 * (j + 1)) (n := n1 + 96 * (j + 1)) (by omega) (by omega) ?_
                    exact ih (j + 1) (by omega) H locs ls (lv_sub hl [0, 3, 4, 5, 6, 7, 8, 9, 10, 11, 12, 13, 14, 15, 16, 17, 18, 19, 20, 21, 22] rfl) hw kk
                  · skip
                    refine lv_aload_n hM.x hM.b dL_law_824 rfl (lv_at hl 10 rfl) ?_
                    refine lv_iload hM.x hM.b dL_law_825 (lv_at hl 2 rfl) ?_
                    refine k_xiK (rd_roast hR hq hjN).2.2.1 hw (k_runXV [.int (nI (j))] [] hM hw (m_X4_sideToFire l ((D, L), cA, ad) θ _ (nI (j)) hlst) (hw.dm kd_0 (by decide)) (sh4 kd_0) rfl (k_gV u_ml_L_146 u_im_X4_sideToFire u_se_X4_sideToFire u_ini_X4 u_co_X4_sideToFire) (q_X4_sideToFire) rfl rfl rfl ⟨(Nat.le_of_ble_eq_true rfl), (Nat.le_of_ble_eq_true rfl)⟩ hl.1 rfl (Nat.le_of_ble_eq_true rfl) dL_law_827 ⟨(by show _ ≤ (817018 : Nat); omega), (by show _ ≤ (6650127 : Nat); omega)⟩) (fun H locs hw => ?_)
                    refine lv_aload hM.x hM.b dL_law_830 (lv_at hl 17 rfl) ?_
                    refine lv_iload hM.x hM.b dL_law_832 (lv_at hl 2 rfl) ?_
                    refine k_ialdN (i := j) (n := nr) hM hw (hT.m 154 (by decide) (by decide)) ((hT.s154)) hjN (by omega) dL_law_834 ?_
                    refine lv_iconst (v := 1) hM.x hM.b dL_law_835 (by decide) ?_
                    refine lv_iadd hM.x hM.b dL_law_836 ?_
                    refine lv_iconst (v := 4) hM.x hM.b dL_law_837 (by decide) ?_
                    refine lv_irem hM.x hM.b dL_law_838 (by decide) ?_
                    refine lv_icmp_eq (tgt := 844) hM.x hM.b dL_law_839 (by decide) (fun _ => ?_) (fun cz => absurd (by rw [t3]; exact (side_c hI hC hA hjN).2.resolve_left (fun z => c71 (by rw [t3]; exact z))) cz)
                    refine lv_iinc (v := nI (j + 1)) (lv' := [(21, .int (nI (j + 1))), (23, .int (gotP β j)), (22, .int (β (14 + 2 * j) 2)), (19, .int (fatP a (j + 1))), (20, .int (0)), (13, .int (dripP β ns)), (16, .int (fatP β nr)), (17, .int (β 1 6)), (18, .int (v)), (0, .ref b), (1, .ref (ad (0))), (2, .ref (ad (91))), (3, .int (nI (t))), (5, .int (nI (ns))), (6, .int (nI (nr))), (7, .ref (ad (136))), (8, .ref (ad (153))), (9, .ref (ad (154))), (10, .ref (ad (155))), (11, .ref (ad (156))), (12, .ref (ad (157))), (14, .ref (ad (158))), (15, .ref (ad (159)))]) hM.x hM.b dL_law_844 hl (k := 2) rfl (nI_1 (j)) (by decide) rfl (fun ls hl => ?_)
                    refine lv_goto (tgt := 559) hM.x hM.b dL_law_847 (by decide) ?_
                    refine W.widen (k := k1 + 16 * (j + 1)) (n := n1 + 96 * (j + 1)) (by omega) (by omega) ?_
                    exact ih (j + 1) (by omega) H locs ls (lv_sub hl [0, 3, 4, 5, 6, 7, 8, 9, 10, 11, 12, 13, 14, 15, 16, 17, 18, 19, 20, 21, 22] rfl) hw kk
    refine lv_iload hM.x hM.b dL_law_559 (lv_at hl 0 rfl) ?_
    refine lv_iload hM.x hM.b dL_law_561 (lv_at hl 12 rfl) ?_
    refine lv_icmp_ge (tgt := 850) hM.x hM.b dL_law_563 (by decide) (fun cz => absurd cz (nI_ge (by omega) (by omega))) (fun _ => ?_)
    refine lv_aload_n hM.x hM.b dL_law_566 rfl (lv_at hl 8 rfl) ?_
    refine lv_iload hM.x hM.b dL_law_567 (lv_at hl 0 rfl) ?_
    refine k_xiK (rd_roast hR hq hjN).2.1 hw (k_runXV [.int (nI (j))] [] hM hw (m_X4_spitOf l ((D, L), cA, ad) θ _ (nI (j)) hlst) (hw.dm kd_0 (by decide)) (sh4 kd_0) rfl (k_gV u_ml_L_137 u_im_X4_spitOf u_se_X4_spitOf u_ini_X4 u_co_X4_spitOf) (q_X4_spitOf) rfl rfl rfl ⟨(Nat.le_of_ble_eq_true rfl), (Nat.le_of_ble_eq_true rfl)⟩ hl.1 rfl (Nat.le_of_ble_eq_true rfl) dL_law_569 ⟨(by show _ ≤ (817018 : Nat); omega), (by show _ ≤ (6650127 : Nat); omega)⟩) (fun H locs hw => ?_)
    rw [hsp]
    refine lv_istore (lv' := [(22, .int (β (14 + 2 * j) 2)), (21, .int (nI (j))), (19, .int (fatP a j)), (20, .int (0)), (13, .int (dripP β ns)), (16, .int (fatP β nr)), (17, .int (β 1 6)), (18, .int (v)), (0, .ref b), (1, .ref (ad (0))), (2, .ref (ad (91))), (3, .int (nI (t))), (5, .int (nI (ns))), (6, .int (nI (nr))), (7, .ref (ad (136))), (8, .ref (ad (153))), (9, .ref (ad (154))), (10, .ref (ad (155))), (11, .ref (ad (156))), (12, .ref (ad (157))), (14, .ref (ad (158))), (15, .ref (ad (159)))]) hM.x hM.b dL_law_572 hl (by decide) rfl (fun ls hl => ?_)
    refine lv_iload hM.x hM.b dL_law_574 (lv_at hl 2 rfl) ?_
    refine lv_aload_n hM.x hM.b dL_law_576 rfl (lv_at hl 9 rfl) ?_
    refine lv_iload hM.x hM.b dL_law_577 (lv_at hl 1 rfl) ?_
    refine k_xiK (rd_roast hR hq hjN).2.2.2.1 hw (k_runXV [.int (nI (j))] [.int (fatP a j)] hM hw (m_X4_fatOf l ((D, L), cA, ad) θ _ (nI (j)) hlst) (hw.dm kd_0 (by decide)) (sh4 kd_0) rfl (k_gV u_ml_L_143 u_im_X4_fatOf u_se_X4_fatOf u_ini_X4 u_co_X4_fatOf) (q_X4_fatOf) rfl rfl rfl ⟨(Nat.le_of_ble_eq_true rfl), (Nat.le_of_ble_eq_true rfl)⟩ hl.1 rfl (Nat.le_of_ble_eq_true rfl) dL_law_579 ⟨(by show _ ≤ (817018 : Nat); omega), (by show _ ≤ (6650127 : Nat); omega)⟩) (fun H locs hw => ?_)
    refine lv_iadd hM.x hM.b dL_law_582 ?_
    refine lv_istore (lv' := [(19, .int (((fatP a j) + (a (14 + 2 * j) 4)))), (22, .int (β (14 + 2 * j) 2)), (21, .int (nI (j))), (20, .int (0)), (13, .int (dripP β ns)), (16, .int (fatP β nr)), (17, .int (β 1 6)), (18, .int (v)), (0, .ref b), (1, .ref (ad (0))), (2, .ref (ad (91))), (3, .int (nI (t))), (5, .int (nI (ns))), (6, .int (nI (nr))), (7, .ref (ad (136))), (8, .ref (ad (153))), (9, .ref (ad (154))), (10, .ref (ad (155))), (11, .ref (ad (156))), (12, .ref (ad (157))), (14, .ref (ad (158))), (15, .ref (ad (159)))]) hM.x hM.b dL_law_583 hl (by decide) rfl (fun ls hl => ?_)
    refine lv_iload hM.x hM.b dL_law_585 (lv_at hl 1 rfl) ?_
    refine lv_if_ge (tgt := 594) hM.x hM.b dL_law_587 (by decide) (fun c1 => ?_) (fun c1 => ?_)
    · skip
      obtain ⟨i0, hi0, ei0, ec0, -⟩ := on_gt hI hjN (Int32.not_lt.mpr c1)
      have egl : θ 157 (β (14 + 2 * j) 2).toNatClampNeg = gl β (β (14 + 2 * j) 2).toNatClampNeg := hS _ (by rw [ec0]; exact hi0)
      refine lv_iconst (v := 0) hM.x hM.b dL_law_594 (by decide) ?_
      refine lv_aload hM.x hM.b dL_law_595 (lv_at hl 19 rfl) ?_
      refine lv_iload hM.x hM.b dL_law_597 (lv_at hl 1 rfl) ?_
      refine k_iald (n := ns) hM hw (hT.m 157 (by decide) (by decide)) ((hT.s157)) (by rw [ei0]; exact vp_in_nI hi0 (by omega)) dL_law_599 ?_
      refine lv_aload hM.x hM.b dL_law_600 (lv_at hl 17 rfl) ?_
      refine lv_iload hM.x hM.b dL_law_602 (lv_at hl 2 rfl) ?_
      refine k_ialdN (i := j) (n := nr) hM hw (hT.m 155 (by decide) (by decide)) ((hT.s155)) hjN (by omega) dL_law_604 ?_
      refine lv_if_le (tgt := 612) hM.x hM.b dL_law_605 (by decide) (fun c2 => ?_) (fun c2 => ?_)
      · skip
        refine lv_iconst (v := 0) hM.x hM.b dL_law_612 (by decide) ?_
        refine lv_isub hM.x hM.b dL_law_613 ?_
        refine va_mmax hM.x hM.b (hM.ml.trans hl.1.symm) hM.ow (hM.ts _ u_ml_L_165) (hM.ts _ u_st_JM_max) (hM.ts _ u_ini_JM) (hM.ts _ u_co_JM_max) (Nat.le_of_ble_eq_true rfl) (Nat.le_of_ble_eq_true rfl) (by show _ ≤ (817018 : Nat); omega) (by show _ ≤ (6650127 : Nat); omega) dL_law_614 ?_
        have hgg : ((if (0) < (((θ (157) (β (14 + 2 * j) 2).toNatClampNeg) - (0))) then (((θ (157) (β (14 + 2 * j) 2).toNatClampNeg) - (0))) else (0)) : Int32) = gotP β j := by rw [egl]; exact got_dry hI hjN (Int32.not_lt.mpr c1) (by rw [← t5]; exact c2)
        refine W.eq (g2 := F0 m 617 ls [.int (gotP β j)]) (by rw [← hgg]) ?_
        refine lv_istore (lv' := [(23, .int (gotP β j)), (19, .int (((fatP a j) + (a (14 + 2 * j) 4)))), (22, .int (β (14 + 2 * j) 2)), (21, .int (nI (j))), (20, .int (0)), (13, .int (dripP β ns)), (16, .int (fatP β nr)), (17, .int (β 1 6)), (18, .int (v)), (0, .ref b), (1, .ref (ad (0))), (2, .ref (ad (91))), (3, .int (nI (t))), (5, .int (nI (ns))), (6, .int (nI (nr))), (7, .ref (ad (136))), (8, .ref (ad (153))), (9, .ref (ad (154))), (10, .ref (ad (155))), (11, .ref (ad (156))), (12, .ref (ad (157))), (14, .ref (ad (158))), (15, .ref (ad (159)))]) hM.x hM.b dL_law_617 hl (by decide) rfl (fun ls hl => ?_)
        refine lv_iconst (v := nI 0) hM.x hM.b dL_law_619 (by decide) ?_
        refine lv_istore (lv' := [(24, .int (nI (0))), (23, .int (gotP β j)), (19, .int (((fatP a j) + (a (14 + 2 * j) 4)))), (22, .int (β (14 + 2 * j) 2)), (21, .int (nI (j))), (20, .int (0)), (13, .int (dripP β ns)), (16, .int (fatP β nr)), (17, .int (β 1 6)), (18, .int (v)), (0, .ref b), (1, .ref (ad (0))), (2, .ref (ad (91))), (3, .int (nI (t))), (5, .int (nI (ns))), (6, .int (nI (nr))), (7, .ref (ad (136))), (8, .ref (ad (153))), (9, .ref (ad (154))), (10, .ref (ad (155))), (11, .ref (ad (156))), (12, .ref (ad (157))), (14, .ref (ad (158))), (15, .ref (ad (159)))]) hM.x hM.b dL_law_620 hl (by decide) rfl (fun ls hl => ?_)
        refine W.widen (k := k1 + 16 * j + 2 + 2 * 0) (n := n1 + 96 * j + 12 + 12 * 0) (by omega) (by omega) ?_
        refine law_C l hlst hM hT (k1 := k1 + 16 * j + 2) (n1 := n1 + 96 * j + 12) (by omega) (by omega) hI hC hA hR hq hF hS hTr hjN 4 0 rfl H locs ls (lv_sub hl [0, 1, 3, 4, 2, 5, 6, 7, 8, 9, 10, 11, 12, 13, 14, 15, 16, 17, 18, 19, 20, 21, 22, 23] rfl) hw (fun H locs ls hl hw => ?_)
        exact tail H locs ls hl hw
      · skip
        refine lv_iconst (v := 1) hM.x hM.b dL_law_608 (by decide) ?_
        refine lv_goto (tgt := 613) hM.x hM.b dL_law_609 (by decide) ?_
        refine lv_isub hM.x hM.b dL_law_613 ?_
        refine va_mmax hM.x hM.b (hM.ml.trans hl.1.symm) hM.ow (hM.ts _ u_ml_L_165) (hM.ts _ u_st_JM_max) (hM.ts _ u_ini_JM) (hM.ts _ u_co_JM_max) (Nat.le_of_ble_eq_true rfl) (Nat.le_of_ble_eq_true rfl) (by show _ ≤ (817018 : Nat); omega) (by show _ ≤ (6650127 : Nat); omega) dL_law_614 ?_
        have hgg : ((if (0) < (((θ (157) (β (14 + 2 * j) 2).toNatClampNeg) - (1))) then (((θ (157) (β (14 + 2 * j) 2).toNatClampNeg) - (1))) else (0)) : Int32) = gotP β j := by rw [egl]; exact got_wet hI hjN (Int32.not_lt.mpr c1) (by rw [← t5]; exact c2)
        refine W.eq (g2 := F0 m 617 ls [.int (gotP β j)]) (by rw [← hgg]) ?_
        refine lv_istore (lv' := [(23, .int (gotP β j)), (19, .int (((fatP a j) + (a (14 + 2 * j) 4)))), (22, .int (β (14 + 2 * j) 2)), (21, .int (nI (j))), (20, .int (0)), (13, .int (dripP β ns)), (16, .int (fatP β nr)), (17, .int (β 1 6)), (18, .int (v)), (0, .ref b), (1, .ref (ad (0))), (2, .ref (ad (91))), (3, .int (nI (t))), (5, .int (nI (ns))), (6, .int (nI (nr))), (7, .ref (ad (136))), (8, .ref (ad (153))), (9, .ref (ad (154))), (10, .ref (ad (155))), (11, .ref (ad (156))), (12, .ref (ad (157))), (14, .ref (ad (158))), (15, .ref (ad (159)))]) hM.x hM.b dL_law_617 hl (by decide) rfl (fun ls hl => ?_)
        refine lv_iconst (v := nI 0) hM.x hM.b dL_law_619 (by decide) ?_
        refine lv_istore (lv' := [(24, .int (nI (0))), (23, .int (gotP β j)), (19, .int (((fatP a j) + (a (14 + 2 * j) 4)))), (22, .int (β (14 + 2 * j) 2)), (21, .int (nI (j))), (20, .int (0)), (13, .int (dripP β ns)), (16, .int (fatP β nr)), (17, .int (β 1 6)), (18, .int (v)), (0, .ref b), (1, .ref (ad (0))), (2, .ref (ad (91))), (3, .int (nI (t))), (5, .int (nI (ns))), (6, .int (nI (nr))), (7, .ref (ad (136))), (8, .ref (ad (153))), (9, .ref (ad (154))), (10, .ref (ad (155))), (11, .ref (ad (156))), (12, .ref (ad (157))), (14, .ref (ad (158))), (15, .ref (ad (159)))]) hM.x hM.b dL_law_620 hl (by decide) rfl (fun ls hl => ?_)
        refine W.widen (k := k1 + 16 * j + 2 + 2 * 0) (n := n1 + 96 * j + 12 + 12 * 0) (by omega) (by omega) ?_
        refine law_C l hlst hM hT (k1 := k1 + 16 * j + 2) (n1 := n1 + 96 * j + 12) (by omega) (by omega) hI hC hA hR hq hF hS hTr hjN 4 0 rfl H locs ls (lv_sub hl [0, 1, 3, 4, 2, 5, 6, 7, 8, 9, 10, 11, 12, 13, 14, 15, 16, 17, 18, 19, 20, 21, 22, 23] rfl) hw (fun H locs ls hl hw => ?_)
        exact tail H locs ls hl hw
    · skip
      refine lv_iconst (v := 0) hM.x hM.b dL_law_590 (by decide) ?_
      refine lv_goto (tgt := 617) hM.x hM.b dL_law_591 (by decide) ?_
      have hgg : (0 : Int32) = gotP β j := by unfold gotP; rw [if_pos (Int32.not_le.mp c1)]
      refine W.eq (g2 := F0 m 617 ls [.int (gotP β j)]) (by rw [← hgg]) ?_
      refine lv_istore (lv' := [(23, .int (gotP β j)), (19, .int (((fatP a j) + (a (14 + 2 * j) 4)))), (22, .int (β (14 + 2 * j) 2)), (21, .int (nI (j))), (20, .int (0)), (13, .int (dripP β ns)), (16, .int (fatP β nr)), (17, .int (β 1 6)), (18, .int (v)), (0, .ref b), (1, .ref (ad (0))), (2, .ref (ad (91))), (3, .int (nI (t))), (5, .int (nI (ns))), (6, .int (nI (nr))), (7, .ref (ad (136))), (8, .ref (ad (153))), (9, .ref (ad (154))), (10, .ref (ad (155))), (11, .ref (ad (156))), (12, .ref (ad (157))), (14, .ref (ad (158))), (15, .ref (ad (159)))]) hM.x hM.b dL_law_617 hl (by decide) rfl (fun ls hl => ?_)
      refine lv_iconst (v := nI 0) hM.x hM.b dL_law_619 (by decide) ?_
      refine lv_istore (lv' := [(24, .int (nI (0))), (23, .int (gotP β j)), (19, .int (((fatP a j) + (a (14 + 2 * j) 4)))), (22, .int (β (14 + 2 * j) 2)), (21, .int (nI (j))), (20, .int (0)), (13, .int (dripP β ns)), (16, .int (fatP β nr)), (17, .int (β 1 6)), (18, .int (v)), (0, .ref b), (1, .ref (ad (0))), (2, .ref (ad (91))), (3, .int (nI (t))), (5, .int (nI (ns))), (6, .int (nI (nr))), (7, .ref (ad (136))), (8, .ref (ad (153))), (9, .ref (ad (154))), (10, .ref (ad (155))), (11, .ref (ad (156))), (12, .ref (ad (157))), (14, .ref (ad (158))), (15, .ref (ad (159)))]) hM.x hM.b dL_law_620 hl (by decide) rfl (fun ls hl => ?_)
      refine W.widen (k := k1 + 16 * j + 2 + 2 * 0) (n := n1 + 96 * j + 12 + 12 * 0) (by omega) (by omega) ?_
      refine law_C l hlst hM hT (k1 := k1 + 16 * j + 2) (n1 := n1 + 96 * j + 12) (by omega) (by omega) hI hC hA hR hq hF hS hTr hjN 4 0 rfl H locs ls (lv_sub hl [0, 1, 3, 4, 2, 5, 6, 7, 8, 9, 10, 11, 12, 13, 14, 15, 16, 17, 18, 19, 20, 21, 22, 23] rfl) hw (fun H locs ls hl hw => ?_)
      exact tail H locs ls hl hw
set_option maxRecDepth 100000 in
set_option maxHeartbeats 4000000 in
theorem law_P {p : Program} {e : Env} {s : State} {m : MethodId} {args : Array Value} {below : List Frame} {meth : Method} {c : Code} {Q : State → Prop} {A : Nat → Prop} {D : va_G} {cA : Nat → ClassId} {L : List Nat} {ad : Nat → Nat} {nf ns nr : Nat} {b t k1 n1 : Nat} (l : Launch) (hlst : l.stackTraces = false) (hM : Ma A D cA p s m args meth c cL_law 27 RL) (hT : TW L ad nf ns nr) (hk1 : k1 ≤ 800000) (hn1 : n1 ≤ 6000000) {β a a1 θ : Kp} {v : Int32} (hI : Iv nf ns nr β) (hC : CM β v a1) (hA : ∀ q, q < 46 → a q = a1 q) (hR : RR nf ns nr a) (hq : LoQ a θ) (hF : TF β θ nf) (hS : TS β θ ns) (hTr : TR β θ nr) : ∀ (n j : Nat), j + n = ns → ∀ (H : Heap) (locs : List Loc) (ls : Array Slot), lv_has ls 27 [(21, .int (nI (j))), (20, .int (dripP a j)), (19, .int (fatP a nr)), (13, .int (dripP β ns)), (16, .int (fatP β nr)), (17, .int (β 1 6)), (18, .int (v)), (0, .ref b), (1, .ref (ad (0))), (2, .ref (ad (91))), (3, .int (nI (t))), (5, .int (nI (ns))), (6, .int (nI (nr))), (7, .ref (ad (136))), (8, .ref (ad (153))), (9, .ref (ad (154))), (10, .ref (ad (155))), (11, .ref (ad (156))), (12, .ref (ad (157))), (14, .ref (ad (158))), (15, .ref (ad (159)))] → Wa A D cA L ad s θ H locs → (∀ (H : Heap) (locs : List Loc) (ls : Array Slot), lv_has ls 27 [(20, .int (dripP a ns)), (19, .int (fatP a nr)), (13, .int (dripP β ns)), (16, .int (fatP β nr)), (17, .int (β 1 6)), (18, .int (v)), (0, .ref b), (1, .ref (ad (0))), (2, .ref (ad (91))), (3, .int (nI (t))), (5, .int (nI (ns))), (6, .int (nI (nr))), (7, .ref (ad (136))), (8, .ref (ad (153))), (9, .ref (ad (154))), (10, .ref (ad (155))), (11, .ref (ad (156))), (12, .ref (ad (157))), (14, .ref (ad (158))), (15, .ref (ad (159)))] → Wa A D cA L ad s θ H locs → W p l e room_1 s m args below meth c H locs (k1 + 6) (n1 + 36) Q (F0 m 877 ls [])) → W p l e room_1 s m args below meth c H locs (k1 + j) (n1 + 6 * j) Q (F0 m 853 ls []) := by
  have hb := hR.b
  intro n
  induction n with
  | zero =>
    intro j hj H locs ls hl hw kk
    obtain rfl : j = ns := by omega
    refine lv_iload hM.x hM.b dL_law_853 (lv_at hl 0 rfl) ?_
    refine lv_iload hM.x hM.b dL_law_855 (lv_at hl 11 rfl) ?_
    refine lv_icmp_ge (tgt := 877) hM.x hM.b dL_law_857 (by decide) (fun _ => ?_) (fun cz => absurd (nI_le (by omega) (by omega)) cz)
    exact W.widen (by omega) (by omega) (kk H locs ls (lv_sub hl [1, 2, 3, 4, 5, 6, 7, 8, 9, 10, 11, 12, 13, 14, 15, 16, 17, 18, 19, 20] rfl) hw)
  | succ n ih =>
    intro j hj H locs ls hl hw kk
    have hjN : j < ns := by omega
    refine lv_iload hM.x hM.b dL_law_853 (lv_at hl 0 rfl) ?_
    refine lv_iload hM.x hM.b dL_law_855 (lv_at hl 11 rfl) ?_
    refine lv_icmp_ge (tgt := 877) hM.x hM.b dL_law_857 (by decide) (fun cz => absurd cz (nI_ge (by omega) (by omega))) (fun _ => ?_)
    refine lv_iload hM.x hM.b dL_law_860 (lv_at hl 1 rfl) ?_
    refine lv_aload_n hM.x hM.b dL_law_862 rfl (lv_at hl 8 rfl) ?_
    refine lv_iload hM.x hM.b dL_law_863 (lv_at hl 0 rfl) ?_
    refine k_xiK (rd_spit hR hq hjN).2.2.2.1 hw (k_runXV [.int (nI (j))] [.int (dripP a j)] hM hw (m_X4_drippingsOf l ((D, L), cA, ad) θ _ (nI (j)) hlst) (hw.dm kd_0 (by decide)) (sh4 kd_0) rfl (k_gV u_ml_L_125 u_im_X4_drippingsOf u_se_X4_drippingsOf u_ini_X4 u_co_X4_drippingsOf) (q_X4_drippingsOf) rfl rfl rfl ⟨(Nat.le_of_ble_eq_true rfl), (Nat.le_of_ble_eq_true rfl)⟩ hl.1 rfl (Nat.le_of_ble_eq_true rfl) dL_law_865 ⟨(by show _ ≤ (817018 : Nat); omega), (by show _ ≤ (6650127 : Nat); omega)⟩) (fun H locs hw => ?_)
    refine lv_iadd hM.x hM.b dL_law_868 ?_
    refine lv_istore (lv' := [(20, .int (((dripP a j) + (a (8 + j) 4)))), (21, .int (nI (j))), (19, .int (fatP a nr)), (13, .int (dripP β ns)), (16, .int (fatP β nr)), (17, .int (β 1 6)), (18, .int (v)), (0, .ref b), (1, .ref (ad (0))), (2, .ref (ad (91))), (3, .int (nI (t))), (5, .int (nI (ns))), (6, .int (nI (nr))), (7, .ref (ad (136))), (8, .ref (ad (153))), (9, .ref (ad (154))), (10, .ref (ad (155))), (11, .ref (ad (156))), (12, .ref (ad (157))), (14, .ref (ad (158))), (15, .ref (ad (159)))]) hM.x hM.b dL_law_869 hl (by decide) rfl (fun ls hl => ?_)
    refine lv_iinc (v := nI (j + 1)) (lv' := [(21, .int (nI (j + 1))), (20, .int (((dripP a j) + (a (8 + j) 4)))), (19, .int (fatP a nr)), (13, .int (dripP β ns)), (16, .int (fatP β nr)), (17, .int (β 1 6)), (18, .int (v)), (0, .ref b), (1, .ref (ad (0))), (2, .ref (ad (91))), (3, .int (nI (t))), (5, .int (nI (ns))), (6, .int (nI (nr))), (7, .ref (ad (136))), (8, .ref (ad (153))), (9, .ref (ad (154))), (10, .ref (ad (155))), (11, .ref (ad (156))), (12, .ref (ad (157))), (14, .ref (ad (158))), (15, .ref (ad (159)))]) hM.x hM.b dL_law_871 hl (k := 1) rfl (nI_1 (j)) (by decide) rfl (fun ls hl => ?_)
    refine lv_goto (tgt := 853) hM.x hM.b dL_law_874 (by decide) ?_
    refine W.widen (k := k1 + (j + 1)) (n := n1 + 6 * (j + 1)) (by omega) (by omega) ?_
    exact ih (j + 1) (by omega) H locs ls (lv_sub hl [0, 1, 2, 3, 4, 5, 6, 7, 8, 9, 10, 11, 12, 13, 14, 15, 16, 17, 18, 19, 20] rfl) hw kk
set_option maxRecDepth 100000 in
set_option maxHeartbeats 4000000 in
theorem law_G {p : Program} {e : Env} {s : State} {m : MethodId} {args : Array Value} {below : List Frame} {meth : Method} {c : Code} {Q : State → Prop} {A : Nat → Prop} {D : va_G} {cA : Nat → ClassId} {L : List Nat} {ad : Nat → Nat} {nf ns nr : Nat} {b t k1 n1 : Nat} (l : Launch) (hlst : l.stackTraces = false) (hM : Ma A D cA p s m args meth c cL_law 27 RL) (hT : TW L ad nf ns nr) (hk1 : k1 ≤ 800000) (hn1 : n1 ≤ 6000000) {β a a1 θ : Kp} {v : Int32} (hI : Iv nf ns nr β) (hC : CM β v a1) (hA : ∀ q, q < 46 → a q = a1 q) (hR : RR nf ns nr a) (hq : LoQ a θ) (hF : TF β θ nf) (hS : TS β θ ns) (hTr : TR β θ nr) : ∀ (n j : Nat), j + n = nf → ∀ (H : Heap) (locs : List Loc) (ls : Array Slot), lv_has ls 27 [(21, .int (nI (j))), (17, .int (β 1 6)), (18, .int (v)), (0, .ref b), (1, .ref (ad (0))), (2, .ref (ad (91))), (3, .int (nI (t))), (5, .int (nI (ns))), (6, .int (nI (nr))), (7, .ref (ad (136))), (8, .ref (ad (153))), (9, .ref (ad (154))), (10, .ref (ad (155))), (11, .ref (ad (156))), (12, .ref (ad (157))), (14, .ref (ad (158))), (15, .ref (ad (159)))] → Wa A D cA L ad s θ H locs → (∀ (H : Heap) (locs : List Loc) (ls : Array Slot), lv_has ls 27 [(17, .int (β 1 6)), (18, .int (v)), (0, .ref b), (1, .ref (ad (0))), (2, .ref (ad (91))), (3, .int (nI (t))), (5, .int (nI (ns))), (6, .int (nI (nr))), (7, .ref (ad (136))), (8, .ref (ad (153))), (9, .ref (ad (154))), (10, .ref (ad (155))), (11, .ref (ad (156))), (12, .ref (ad (157))), (14, .ref (ad (158))), (15, .ref (ad (159)))] → Wa A D cA L ad s θ H locs → W p l e room_1 s m args below meth c H locs (k1 + 12) (n1 + 72) Q (F0 m 1035 ls [])) → W p l e room_1 s m args below meth c H locs (k1 + 4 * j) (n1 + 24 * j) Q (F0 m 898 ls []) := by
  have hb := hR.b
  intro n
  induction n with
  | zero =>
    intro j hj H locs ls hl hw kk
    obtain rfl : j = nf := by omega
    refine lv_iload hM.x hM.b dL_law_898 (lv_at hl 0 rfl) ?_
    refine lv_aload_n hM.x hM.b dL_law_900 rfl (lv_at hl 4 rfl) ?_
    refine k_cip hw (k_runV [] [.int (nI (j))] hM hw (m_X4_fires l ((D, L), cA, ad) θ _) (hw.dm kd_0 (by decide)) (sh4 kd_0) rfl (k_gV u_ml_L_114 u_im_X4_fires u_se_X4_fires u_ini_X4 u_co_X4_fires) (q_X4_fires) rfl rfl rfl ⟨Nat.le_of_ble_eq_true rfl, Nat.le_of_ble_eq_true rfl⟩ hl.1 rfl (Nat.le_of_ble_eq_true rfl) dL_law_901 ⟨(by show _ ≤ (817018 : Nat); omega), (by show _ ≤ (6650127 : Nat); omega)⟩) (fun H locs hw => ?_)
    rw [show f_X4_fires θ = nI j from (congrFun (hq 1 (by decide)) 3).trans hR.1.2.1.1]
    refine lv_icmp_ge (tgt := 1035) hM.x hM.b dL_law_904 (by decide) (fun _ => ?_) (fun cz => absurd (nI_le (by omega) (by omega)) cz)
    exact W.widen (by omega) (by omega) (kk H locs ls (lv_sub hl [1, 2, 3, 4, 5, 6, 7, 8, 9, 10, 11, 12, 13, 14, 15, 16] rfl) hw)
  | succ n ih =>
    intro j hj H locs ls hl hw kk
    have hjN : j < nf := by omega
    obtain ⟨t1, t0⟩ := hF j hjN
    have hlc := logs_c hI hC hA hjN
    obtain ⟨hh1, hh2, hh3⟩ := heat_c hI hC hA hjN
    refine lv_iload hM.x hM.b dL_law_898 (lv_at hl 0 rfl) ?_
    refine lv_aload_n hM.x hM.b dL_law_900 rfl (lv_at hl 4 rfl) ?_
    refine k_cip hw (k_runV [] [.int (nI (j))] hM hw (m_X4_fires l ((D, L), cA, ad) θ _) (hw.dm kd_0 (by decide)) (sh4 kd_0) rfl (k_gV u_ml_L_114 u_im_X4_fires u_se_X4_fires u_ini_X4 u_co_X4_fires) (q_X4_fires) rfl rfl rfl ⟨Nat.le_of_ble_eq_true rfl, Nat.le_of_ble_eq_true rfl⟩ hl.1 rfl (Nat.le_of_ble_eq_true rfl) dL_law_901 ⟨(by show _ ≤ (817018 : Nat); omega), (by show _ ≤ (6650127 : Nat); omega)⟩) (fun H locs hw => ?_)
    rw [show f_X4_fires θ = nI nf from (congrFun (hq 1 (by decide)) 3).trans hR.1.2.1.1]
    refine lv_icmp_ge (tgt := 1035) hM.x hM.b dL_law_904 (by decide) (fun cz => absurd cz (nI_ge (by omega) (by omega))) (fun _ => ?_)
    refine lv_aload hM.x hM.b dL_law_907 (lv_at hl 16 rfl) ?_
    refine lv_iload hM.x hM.b dL_law_909 (lv_at hl 0 rfl) ?_
    refine k_ialdN (i := j) (n := nf) hM hw (hT.m 159 (by decide) (by decide)) ((hT.s159)) hjN (by omega) dL_law_911 ?_
    refine lv_if_le (tgt := 926) hM.x hM.b dL_law_912 (by decide) (fun c1 => ?_) (fun c1 => ?_)
    · skip
      refine lv_iconst (v := 0) hM.x hM.b dL_law_926 (by decide) ?_
      refine lv_istore (lv' := [(22, .int (0)), (21, .int (nI (j))), (17, .int (β 1 6)), (18, .int (v)), (0, .ref b), (1, .ref (ad (0))), (2, .ref (ad (91))), (3, .int (nI (t))), (5, .int (nI (ns))), (6, .int (nI (nr))), (7, .ref (ad (136))), (8, .ref (ad (153))), (9, .ref (ad (154))), (10, .ref (ad (155))), (11, .ref (ad (156))), (12, .ref (ad (157))), (14, .ref (ad (158))), (15, .ref (ad (159)))]) hM.x hM.b dL_law_927 hl (by decide) rfl (fun ls hl => ?_)
      refine lv_iconst (v := 0) hM.x hM.b dL_law_929 (by decide) ?_
      refine lv_bipush (v := 9) hM.x hM.b dL_law_930 (by decide) ?_
      refine lv_aload hM.x hM.b dL_law_932 (lv_at hl 16 rfl) ?_
      refine lv_iload hM.x hM.b dL_law_934 (lv_at hl 1 rfl) ?_
      refine k_ialdN (i := j) (n := nf) hM hw (hT.m 158 (by decide) (by decide)) ((hT.s158)) hjN (by omega) dL_law_936 ?_
      refine lv_aload hM.x hM.b dL_law_937 (lv_at hl 17 rfl) ?_
      refine lv_iload hM.x hM.b dL_law_939 (lv_at hl 1 rfl) ?_
      refine k_ialdN (i := j) (n := nf) hM hw (hT.m 159 (by decide) (by decide)) ((hT.s159)) hjN (by omega) dL_law_941 ?_
      refine lv_if_le (tgt := 949) hM.x hM.b dL_law_942 (by decide) (fun _ => ?_) (fun cz => absurd c1 cz)
      refine lv_iconst (v := -1) hM.x hM.b dL_law_949 (by decide) ?_
      refine lv_iadd hM.x hM.b dL_law_950 ?_
      refine va_mmin hM.x hM.b (hM.ml.trans hl.1.symm) hM.ow (hM.ts _ u_ml_L_37) (hM.ts _ u_st_JM_min) (hM.ts _ u_ini_JM) (hM.ts _ u_co_JM_min) (Nat.le_of_ble_eq_true rfl) (Nat.le_of_ble_eq_true rfl) (by show _ ≤ (817018 : Nat); omega) (by show _ ≤ (6650127 : Nat); omega) dL_law_951 ?_
      refine va_mmax hM.x hM.b (hM.ml.trans hl.1.symm) hM.ow (hM.ts _ u_ml_L_165) (hM.ts _ u_st_JM_max) (hM.ts _ u_ini_JM) (hM.ts _ u_co_JM_max) (Nat.le_of_ble_eq_true rfl) (Nat.le_of_ble_eq_true rfl) (by show _ ≤ (817018 : Nat); omega) (by show _ ≤ (6650127 : Nat); omega) dL_law_954 ?_
      rw [if_pos (show β (5 + j) 0 ≤ 0 by rw [← t0]; exact c1)] at hh1 hh2
      have hle : ((if (0) < ((if (((θ (158) (j)) + ((-1)))) < (9) then (((θ (158) (j)) + ((-1)))) else (9))) then ((if (((θ (158) (j)) + ((-1)))) < (9) then (((θ (158) (j)) + ((-1)))) else (9))) else (0)) : Int32) = mx (β (5 + j) 1 + (-1)) := by rw [t1]; rfl
      refine W.eq (g2 := F0 m 957 ls [.int (mx (β (5 + j) 1 + (-1)))]) (by rw [← hle]) ?_
      refine lv_istore (lv' := [(23, .int (mx (β (5 + j) 1 + (-1)))), (22, .int (0)), (21, .int (nI (j))), (17, .int (β 1 6)), (18, .int (v)), (0, .ref b), (1, .ref (ad (0))), (2, .ref (ad (91))), (3, .int (nI (t))), (5, .int (nI (ns))), (6, .int (nI (nr))), (7, .ref (ad (136))), (8, .ref (ad (153))), (9, .ref (ad (154))), (10, .ref (ad (155))), (11, .ref (ad (156))), (12, .ref (ad (157))), (14, .ref (ad (158))), (15, .ref (ad (159)))]) hM.x hM.b dL_law_957 hl (by decide) rfl (fun ls hl => ?_)
      refine lv_aload_n hM.x hM.b dL_law_959 rfl (lv_at hl 6 rfl) ?_
      refine lv_iload hM.x hM.b dL_law_960 (lv_at hl 2 rfl) ?_
      refine k_xiK (rd_fire hR hq hjN).1 hw (k_runXV [.int (nI (j))] [] hM hw (m_X4_logsOf l ((D, L), cA, ad) θ _ (nI (j)) hlst) (hw.dm kd_0 (by decide)) (sh4 kd_0) rfl (k_gV u_ml_L_119 u_im_X4_logsOf u_se_X4_logsOf u_ini_X4 u_co_X4_logsOf) (q_X4_logsOf) rfl rfl rfl ⟨(Nat.le_of_ble_eq_true rfl), (Nat.le_of_ble_eq_true rfl)⟩ hl.1 rfl (Nat.le_of_ble_eq_true rfl) dL_law_962 ⟨(by show _ ≤ (817018 : Nat); omega), (by show _ ≤ (6650127 : Nat); omega)⟩) (fun H locs hw => ?_)
      refine lv_aload hM.x hM.b dL_law_965 (lv_at hl 18 rfl) ?_
      refine lv_iload hM.x hM.b dL_law_967 (lv_at hl 2 rfl) ?_
      refine k_ialdN (i := j) (n := nf) hM hw (hT.m 159 (by decide) (by decide)) ((hT.s159)) hjN (by omega) dL_law_969 ?_
      refine lv_iload hM.x hM.b dL_law_970 (lv_at hl 1 rfl) ?_
      refine lv_isub hM.x hM.b dL_law_972 ?_
      refine lv_icmp_ne (tgt := 1027) hM.x hM.b dL_law_973 (by decide) (fun cz => absurd (by rw [hlc, t0, Int32.sub_zero]; unfold nL; rw [if_pos (by rw [← t0]; exact c1)]) cz) (fun _ => ?_)
      refine lv_aload_n hM.x hM.b dL_law_976 rfl (lv_at hl 6 rfl) ?_
      refine lv_iload hM.x hM.b dL_law_977 (lv_at hl 2 rfl) ?_
      refine k_xiK (rd_fire hR hq hjN).2 hw (k_runXV [.int (nI (j))] [] hM hw (m_X4_heatOf l ((D, L), cA, ad) θ _ (nI (j)) hlst) (hw.dm kd_0 (by decide)) (sh4 kd_0) rfl (k_gV u_ml_L_116 u_im_X4_heatOf u_se_X4_heatOf u_ini_X4 u_co_X4_heatOf) (q_X4_heatOf) rfl rfl rfl ⟨(Nat.le_of_ble_eq_true rfl), (Nat.le_of_ble_eq_true rfl)⟩ hl.1 rfl (Nat.le_of_ble_eq_true rfl) dL_law_979 ⟨(by show _ ≤ (817018 : Nat); omega), (by show _ ≤ (6650127 : Nat); omega)⟩) (fun H locs hw => ?_)
      refine lv_iload hM.x hM.b dL_law_982 (lv_at hl 0 rfl) ?_
      refine lv_icmp_lt (tgt := 1027) hM.x hM.b dL_law_984 (by decide) (fun cz => absurd cz (Int32.not_lt.mpr hh1)) (fun _ => ?_)
      refine lv_iload hM.x hM.b dL_law_987 (lv_at hl 4 rfl) ?_
      refine lv_if_ne (tgt := 1003) hM.x hM.b dL_law_989 (by decide) (fun c2 => ?_) (fun c2 => ?_)
      · skip
        refine lv_aload_n hM.x hM.b dL_law_1003 rfl (lv_at hl 6 rfl) ?_
        refine lv_iload hM.x hM.b dL_law_1004 (lv_at hl 2 rfl) ?_
        refine k_xiK (rd_fire hR hq hjN).2 hw (k_runXV [.int (nI (j))] [] hM hw (m_X4_heatOf l ((D, L), cA, ad) θ _ (nI (j)) hlst) (hw.dm kd_0 (by decide)) (sh4 kd_0) rfl (k_gV u_ml_L_116 u_im_X4_heatOf u_se_X4_heatOf u_ini_X4 u_co_X4_heatOf) (q_X4_heatOf) rfl rfl rfl ⟨(Nat.le_of_ble_eq_true rfl), (Nat.le_of_ble_eq_true rfl)⟩ hl.1 rfl (Nat.le_of_ble_eq_true rfl) dL_law_1006 ⟨(by show _ ≤ (817018 : Nat); omega), (by show _ ≤ (6650127 : Nat); omega)⟩) (fun H locs hw => ?_)
        refine lv_bipush (v := 9) hM.x hM.b dL_law_1009 (by decide) ?_
        refine lv_aload hM.x hM.b dL_law_1011 (lv_at hl 17 rfl) ?_
        refine lv_iload hM.x hM.b dL_law_1013 (lv_at hl 2 rfl) ?_
        refine k_ialdN (i := j) (n := nf) hM hw (hT.m 158 (by decide) (by decide)) ((hT.s158)) hjN (by omega) dL_law_1015 ?_
        refine lv_iconst (v := 1) hM.x hM.b dL_law_1016 (by decide) ?_
        refine lv_iadd hM.x hM.b dL_law_1017 ?_
        refine lv_iload hM.x hM.b dL_law_1018 (lv_at hl 4 rfl) ?_
        refine lv_iadd hM.x hM.b dL_law_1020 ?_
        refine va_mmin hM.x hM.b (hM.ml.trans hl.1.symm) hM.ow (hM.ts _ u_ml_L_37) (hM.ts _ u_st_JM_min) (hM.ts _ u_ini_JM) (hM.ts _ u_co_JM_min) (Nat.le_of_ble_eq_true rfl) (Nat.le_of_ble_eq_true rfl) (by show _ ≤ (817018 : Nat); omega) (by show _ ≤ (6650127 : Nat); omega) dL_law_1021 ?_
        refine lv_icmp_le (tgt := 1029) hM.x hM.b dL_law_1024 (by decide) (fun _ => ?_) (fun cz => absurd (by rw [t1]; exact hh3) cz)
        refine lv_iinc (v := nI (j + 1)) (lv' := [(21, .int (nI (j + 1))), (23, .int (mx (β (5 + j) 1 + (-1)))), (22, .int (0)), (17, .int (β 1 6)), (18, .int (v)), (0, .ref b), (1, .ref (ad (0))), (2, .ref (ad (91))), (3, .int (nI (t))), (5, .int (nI (ns))), (6, .int (nI (nr))), (7, .ref (ad (136))), (8, .ref (ad (153))), (9, .ref (ad (154))), (10, .ref (ad (155))), (11, .ref (ad (156))), (12, .ref (ad (157))), (14, .ref (ad (158))), (15, .ref (ad (159)))]) hM.x hM.b dL_law_1029 hl (k := 2) rfl (nI_1 (j)) (by decide) rfl (fun ls hl => ?_)
        refine lv_goto (tgt := 898) hM.x hM.b dL_law_1032 (by decide) ?_
        refine W.widen (k := k1 + 4 * (j + 1)) (n := n1 + 24 * (j + 1)) (by omega) (by omega) ?_
        exact ih (j + 1) (by omega) H locs ls (lv_sub hl [0, 3, 4, 5, 6, 7, 8, 9, 10, 11, 12, 13, 14, 15, 16, 17, 18] rfl) hw kk
      · skip
        refine lv_aload_n hM.x hM.b dL_law_992 rfl (lv_at hl 6 rfl) ?_
        refine lv_iload hM.x hM.b dL_law_993 (lv_at hl 2 rfl) ?_
        refine k_xiK (rd_fire hR hq hjN).2 hw (k_runXV [.int (nI (j))] [] hM hw (m_X4_heatOf l ((D, L), cA, ad) θ _ (nI (j)) hlst) (hw.dm kd_0 (by decide)) (sh4 kd_0) rfl (k_gV u_ml_L_116 u_im_X4_heatOf u_se_X4_heatOf u_ini_X4 u_co_X4_heatOf) (q_X4_heatOf) rfl rfl rfl ⟨(Nat.le_of_ble_eq_true rfl), (Nat.le_of_ble_eq_true rfl)⟩ hl.1 rfl (Nat.le_of_ble_eq_true rfl) dL_law_995 ⟨(by show _ ≤ (817018 : Nat); omega), (by show _ ≤ (6650127 : Nat); omega)⟩) (fun H locs hw => ?_)
        refine lv_iload hM.x hM.b dL_law_998 (lv_at hl 0 rfl) ?_
        refine lv_icmp_ne (tgt := 1027) hM.x hM.b dL_law_1000 (by decide) (fun cz => absurd (hh2 c2) cz) (fun _ => ?_)
        refine lv_aload_n hM.x hM.b dL_law_1003 rfl (lv_at hl 6 rfl) ?_
        refine lv_iload hM.x hM.b dL_law_1004 (lv_at hl 2 rfl) ?_
        refine k_xiK (rd_fire hR hq hjN).2 hw (k_runXV [.int (nI (j))] [] hM hw (m_X4_heatOf l ((D, L), cA, ad) θ _ (nI (j)) hlst) (hw.dm kd_0 (by decide)) (sh4 kd_0) rfl (k_gV u_ml_L_116 u_im_X4_heatOf u_se_X4_heatOf u_ini_X4 u_co_X4_heatOf) (q_X4_heatOf) rfl rfl rfl ⟨(Nat.le_of_ble_eq_true rfl), (Nat.le_of_ble_eq_true rfl)⟩ hl.1 rfl (Nat.le_of_ble_eq_true rfl) dL_law_1006 ⟨(by show _ ≤ (817018 : Nat); omega), (by show _ ≤ (6650127 : Nat); omega)⟩) (fun H locs hw => ?_)
        refine lv_bipush (v := 9) hM.x hM.b dL_law_1009 (by decide) ?_
        refine lv_aload hM.x hM.b dL_law_1011 (lv_at hl 17 rfl) ?_
        refine lv_iload hM.x hM.b dL_law_1013 (lv_at hl 2 rfl) ?_
        refine k_ialdN (i := j) (n := nf) hM hw (hT.m 158 (by decide) (by decide)) ((hT.s158)) hjN (by omega) dL_law_1015 ?_
        refine lv_iconst (v := 1) hM.x hM.b dL_law_1016 (by decide) ?_
        refine lv_iadd hM.x hM.b dL_law_1017 ?_
        refine lv_iload hM.x hM.b dL_law_1018 (lv_at hl 4 rfl) ?_
        refine lv_iadd hM.x hM.b dL_law_1020 ?_
        refine va_mmin hM.x hM.b (hM.ml.trans hl.1.symm) hM.ow (hM.ts _ u_ml_L_37) (hM.ts _ u_st_JM_min) (hM.ts _ u_ini_JM) (hM.ts _ u_co_JM_min) (Nat.le_of_ble_eq_true rfl) (Nat.le_of_ble_eq_true rfl) (by show _ ≤ (817018 : Nat); omega) (by show _ ≤ (6650127 : Nat); omega) dL_law_1021 ?_
        refine lv_icmp_le (tgt := 1029) hM.x hM.b dL_law_1024 (by decide) (fun _ => ?_) (fun cz => absurd (by rw [t1]; exact hh3) cz)
        refine lv_iinc (v := nI (j + 1)) (lv' := [(21, .int (nI (j + 1))), (23, .int (mx (β (5 + j) 1 + (-1)))), (22, .int (0)), (17, .int (β 1 6)), (18, .int (v)), (0, .ref b), (1, .ref (ad (0))), (2, .ref (ad (91))), (3, .int (nI (t))), (5, .int (nI (ns))), (6, .int (nI (nr))), (7, .ref (ad (136))), (8, .ref (ad (153))), (9, .ref (ad (154))), (10, .ref (ad (155))), (11, .ref (ad (156))), (12, .ref (ad (157))), (14, .ref (ad (158))), (15, .ref (ad (159)))]) hM.x hM.b dL_law_1029 hl (k := 2) rfl (nI_1 (j)) (by decide) rfl (fun ls hl => ?_)
        refine lv_goto (tgt := 898) hM.x hM.b dL_law_1032 (by decide) ?_
        refine W.widen (k := k1 + 4 * (j + 1)) (n := n1 + 24 * (j + 1)) (by omega) (by omega) ?_
        exact ih (j + 1) (by omega) H locs ls (lv_sub hl [0, 3, 4, 5, 6, 7, 8, 9, 10, 11, 12, 13, 14, 15, 16, 17, 18] rfl) hw kk
    · skip
      refine lv_iload hM.x hM.b dL_law_915 (lv_at hl 1 rfl) ?_
      refine lv_iconst (v := 5) hM.x hM.b dL_law_917 (by decide) ?_
      refine lv_irem hM.x hM.b dL_law_918 (by decide) ?_
      refine lv_if_ne (tgt := 926) hM.x hM.b dL_law_919 (by decide) (fun c3 => ?_) (fun c3 => ?_)
      · skip
        refine lv_iconst (v := 0) hM.x hM.b dL_law_926 (by decide) ?_
        refine lv_istore (lv' := [(22, .int (0)), (21, .int (nI (j))), (17, .int (β 1 6)), (18, .int (v)), (0, .ref b), (1, .ref (ad (0))), (2, .ref (ad (91))), (3, .int (nI (t))), (5, .int (nI (ns))), (6, .int (nI (nr))), (7, .ref (ad (136))), (8, .ref (ad (153))), (9, .ref (ad (154))), (10, .ref (ad (155))), (11, .ref (ad (156))), (12, .ref (ad (157))), (14, .ref (ad (158))), (15, .ref (ad (159)))]) hM.x hM.b dL_law_927 hl (by decide) rfl (fun ls hl => ?_)
        refine lv_iconst (v := 0) hM.x hM.b dL_law_929 (by decide) ?_
        refine lv_bipush (v := 9) hM.x hM.b dL_law_930 (by decide) ?_
        refine lv_aload hM.x hM.b dL_law_932 (lv_at hl 16 rfl) ?_
        refine lv_iload hM.x hM.b dL_law_934 (lv_at hl 1 rfl) ?_
        refine k_ialdN (i := j) (n := nf) hM hw (hT.m 158 (by decide) (by decide)) ((hT.s158)) hjN (by omega) dL_law_936 ?_
        refine lv_aload hM.x hM.b dL_law_937 (lv_at hl 17 rfl) ?_
        refine lv_iload hM.x hM.b dL_law_939 (lv_at hl 1 rfl) ?_
        refine k_ialdN (i := j) (n := nf) hM hw (hT.m 159 (by decide) (by decide)) ((hT.s159)) hjN (by omega) dL_law_941 ?_
        refine lv_if_le (tgt := 949) hM.x hM.b dL_law_942 (by decide) (fun cz => absurd cz c1) (fun _ => ?_)
        refine lv_iconst (v := 1) hM.x hM.b dL_law_945 (by decide) ?_
        refine lv_goto (tgt := 950) hM.x hM.b dL_law_946 (by decide) ?_
        refine lv_iadd hM.x hM.b dL_law_950 ?_
        refine va_mmin hM.x hM.b (hM.ml.trans hl.1.symm) hM.ow (hM.ts _ u_ml_L_37) (hM.ts _ u_st_JM_min) (hM.ts _ u_ini_JM) (hM.ts _ u_co_JM_min) (Nat.le_of_ble_eq_true rfl) (Nat.le_of_ble_eq_true rfl) (by show _ ≤ (817018 : Nat); omega) (by show _ ≤ (6650127 : Nat); omega) dL_law_951 ?_
        refine va_mmax hM.x hM.b (hM.ml.trans hl.1.symm) hM.ow (hM.ts _ u_ml_L_165) (hM.ts _ u_st_JM_max) (hM.ts _ u_ini_JM) (hM.ts _ u_co_JM_max) (Nat.le_of_ble_eq_true rfl) (Nat.le_of_ble_eq_true rfl) (by show _ ≤ (817018 : Nat); omega) (by show _ ≤ (6650127 : Nat); omega) dL_law_954 ?_
        rw [if_neg (show ¬ β (5 + j) 0 ≤ 0 from fun z => c1 (by rw [t0]; exact z))] at hh1 hh2
        have hle : ((if (0) < ((if (((θ (158) (j)) + (1))) < (9) then (((θ (158) (j)) + (1))) else (9))) then ((if (((θ (158) (j)) + (1))) < (9) then (((θ (158) (j)) + (1))) else (9))) else (0)) : Int32) = mx (β (5 + j) 1 + 1) := by rw [t1]; rfl
        refine W.eq (g2 := F0 m 957 ls [.int (mx (β (5 + j) 1 + 1))]) (by rw [← hle]) ?_
        refine lv_istore (lv' := [(23, .int (mx (β (5 + j) 1 + 1))), (22, .int (0)), (21, .int (nI (j))), (17, .int (β 1 6)), (18, .int (v)), (0, .ref b), (1, .ref (ad (0))), (2, .ref (ad (91))), (3, .int (nI (t))), (5, .int (nI (ns))), (6, .int (nI (nr))), (7, .ref (ad (136))), (8, .ref (ad (153))), (9, .ref (ad (154))), (10, .ref (ad (155))), (11, .ref (ad (156))), (12, .ref (ad (157))), (14, .ref (ad (158))), (15, .ref (ad (159)))]) hM.x hM.b dL_law_957 hl (by decide) rfl (fun ls hl => ?_)
        refine lv_aload_n hM.x hM.b dL_law_959 rfl (lv_at hl 6 rfl) ?_
        refine lv_iload hM.x hM.b dL_law_960 (lv_at hl 2 rfl) ?_
        refine k_xiK (rd_fire hR hq hjN).1 hw (k_runXV [.int (nI (j))] [] hM hw (m_X4_logsOf l ((D, L), cA, ad) θ _ (nI (j)) hlst) (hw.dm kd_0 (by decide)) (sh4 kd_0) rfl (k_gV u_ml_L_119 u_im_X4_logsOf u_se_X4_logsOf u_ini_X4 u_co_X4_logsOf) (q_X4_logsOf) rfl rfl rfl ⟨(Nat.le_of_ble_eq_true rfl), (Nat.le_of_ble_eq_true rfl)⟩ hl.1 rfl (Nat.le_of_ble_eq_true rfl) dL_law_962 ⟨(by show _ ≤ (817018 : Nat); omega), (by show _ ≤ (6650127 : Nat); omega)⟩) (fun H locs hw => ?_)
        refine lv_aload hM.x hM.b dL_law_965 (lv_at hl 18 rfl) ?_
        refine lv_iload hM.x hM.b dL_law_967 (lv_at hl 2 rfl) ?_
        refine k_ialdN (i := j) (n := nf) hM hw (hT.m 159 (by decide) (by decide)) ((hT.s159)) hjN (by omega) dL_law_969 ?_
        refine lv_iload hM.x hM.b dL_law_970 (lv_at hl 1 rfl) ?_
        refine lv_isub hM.x hM.b dL_law_972 ?_
        refine lv_icmp_ne (tgt := 1027) hM.x hM.b dL_law_973 (by decide) (fun cz => absurd (by rw [hlc, t0, Int32.sub_zero]; unfold nL; rw [if_neg (fun z => c1 (by rw [t0]; exact z)), if_neg c3]) cz) (fun _ => ?_)
        refine lv_aload_n hM.x hM.b dL_law_976 rfl (lv_at hl 6 rfl) ?_
        refine lv_iload hM.x hM.b dL_law_977 (lv_at hl 2 rfl) ?_
        refine k_xiK (rd_fire hR hq hjN).2 hw (k_runXV [.int (nI (j))] [] hM hw (m_X4_heatOf l ((D, L), cA, ad) θ _ (nI (j)) hlst) (hw.dm kd_0 (by decide)) (sh4 kd_0) rfl (k_gV u_ml_L_116 u_im_X4_heatOf u_se_X4_heatOf u_ini_X4 u_co_X4_heatOf) (q_X4_heatOf) rfl rfl rfl ⟨(Nat.le_of_ble_eq_true rfl), (Nat.le_of_ble_eq_true rfl)⟩ hl.1 rfl (Nat.le_of_ble_eq_true rfl) dL_law_979 ⟨(by show _ ≤ (817018 : Nat); omega), (by show _ ≤ (6650127 : Nat); omega)⟩) (fun H locs hw => ?_)
        refine lv_iload hM.x hM.b dL_law_982 (lv_at hl 0 rfl) ?_
        refine lv_icmp_lt (tgt := 1027) hM.x hM.b dL_law_984 (by decide) (fun cz => absurd cz (Int32.not_lt.mpr hh1)) (fun _ => ?_)
        refine lv_iload hM.x hM.b dL_law_987 (lv_at hl 4 rfl) ?_
        refine lv_if_ne (tgt := 1003) hM.x hM.b dL_law_989 (by decide) (fun c4 => ?_) (fun c4 => ?_)
        · skip
          refine lv_aload_n hM.x hM.b dL_law_1003 rfl (lv_at hl 6 rfl) ?_
          refine lv_iload hM.x hM.b dL_law_1004 (lv_at hl 2 rfl) ?_
          refine k_xiK (rd_fire hR hq hjN).2 hw (k_runXV [.int (nI (j))] [] hM hw (m_X4_heatOf l ((D, L), cA, ad) θ _ (nI (j)) hlst) (hw.dm kd_0 (by decide)) (sh4 kd_0) rfl (k_gV u_ml_L_116 u_im_X4_heatOf u_se_X4_heatOf u_ini_X4 u_co_X4_heatOf) (q_X4_heatOf) rfl rfl rfl ⟨(Nat.le_of_ble_eq_true rfl), (Nat.le_of_ble_eq_true rfl)⟩ hl.1 rfl (Nat.le_of_ble_eq_true rfl) dL_law_1006 ⟨(by show _ ≤ (817018 : Nat); omega), (by show _ ≤ (6650127 : Nat); omega)⟩) (fun H locs hw => ?_)
          refine lv_bipush (v := 9) hM.x hM.b dL_law_1009 (by decide) ?_
          refine lv_aload hM.x hM.b dL_law_1011 (lv_at hl 17 rfl) ?_
          refine lv_iload hM.x hM.b dL_law_1013 (lv_at hl 2 rfl) ?_
          refine k_ialdN (i := j) (n := nf) hM hw (hT.m 158 (by decide) (by decide)) ((hT.s158)) hjN (by omega) dL_law_1015 ?_
          refine lv_iconst (v := 1) hM.x hM.b dL_law_1016 (by decide) ?_
          refine lv_iadd hM.x hM.b dL_law_1017 ?_
          refine lv_iload hM.x hM.b dL_law_1018 (lv_at hl 4 rfl) ?_
          refine lv_iadd hM.x hM.b dL_law_1020 ?_
          refine va_mmin hM.x hM.b (hM.ml.trans hl.1.symm) hM.ow (hM.ts _ u_ml_L_37) (hM.ts _ u_st_JM_min) (hM.ts _ u_ini_JM) (hM.ts _ u_co_JM_min) (Nat.le_of_ble_eq_true rfl) (Nat.le_of_ble_eq_true rfl) (by show _ ≤ (817018 : Nat); omega) (by show _ ≤ (6650127 : Nat); omega) dL_law_1021 ?_
          refine lv_icmp_le (tgt := 1029) hM.x hM.b dL_law_1024 (by decide) (fun _ => ?_) (fun cz => absurd (by rw [t1]; exact hh3) cz)
          refine lv_iinc (v := nI (j + 1)) (lv' := [(21, .int (nI (j + 1))), (23, .int (mx (β (5 + j) 1 + 1))), (22, .int (0)), (17, .int (β 1 6)), (18, .int (v)), (0, .ref b), (1, .ref (ad (0))), (2, .ref (ad (91))), (3, .int (nI (t))), (5, .int (nI (ns))), (6, .int (nI (nr))), (7, .ref (ad (136))), (8, .ref (ad (153))), (9, .ref (ad (154))), (10, .ref (ad (155))), (11, .ref (ad (156))), (12, .ref (ad (157))), (14, .ref (ad (158))), (15, .ref (ad (159)))]) hM.x hM.b dL_law_1029 hl (k := 2) rfl (nI_1 (j)) (by decide) rfl (fun ls hl => ?_)
          refine lv_goto (tgt := 898) hM.x hM.b dL_law_1032 (by decide) ?_
          refine W.widen (k := k1 + 4 * (j + 1)) (n := n1 + 24 * (j + 1)) (by omega) (by omega) ?_
          exact ih (j + 1) (by omega) H locs ls (lv_sub hl [0, 3, 4, 5, 6, 7, 8, 9, 10, 11, 12, 13, 14, 15, 16, 17, 18] rfl) hw kk
        · skip
          refine lv_aload_n hM.x hM.b dL_law_992 rfl (lv_at hl 6 rfl) ?_
          refine lv_iload hM.x hM.b dL_law_993 (lv_at hl 2 rfl) ?_
          refine k_xiK (rd_fire hR hq hjN).2 hw (k_runXV [.int (nI (j))] [] hM hw (m_X4_heatOf l ((D, L), cA, ad) θ _ (nI (j)) hlst) (hw.dm kd_0 (by decide)) (sh4 kd_0) rfl (k_gV u_ml_L_116 u_im_X4_heatOf u_se_X4_heatOf u_ini_X4 u_co_X4_heatOf) (q_X4_heatOf) rfl rfl rfl ⟨(Nat.le_of_ble_eq_true rfl), (Nat.le_of_ble_eq_true rfl)⟩ hl.1 rfl (Nat.le_of_ble_eq_true rfl) dL_law_995 ⟨(by show _ ≤ (817018 : Nat); omega), (by show _ ≤ (6650127 : Nat); omega)⟩) (fun H locs hw => ?_)
          refine lv_iload hM.x hM.b dL_law_998 (lv_at hl 0 rfl) ?_
          refine lv_icmp_ne (tgt := 1027) hM.x hM.b dL_law_1000 (by decide) (fun cz => absurd (hh2 c4) cz) (fun _ => ?_)
          refine lv_aload_n hM.x hM.b dL_law_1003 rfl (lv_at hl 6 rfl) ?_
          refine lv_iload hM.x hM.b dL_law_1004 (lv_at hl 2 rfl) ?_
          refine k_xiK (rd_fire hR hq hjN).2 hw (k_runXV [.int (nI (j))] [] hM hw (m_X4_heatOf l ((D, L), cA, ad) θ _ (nI (j)) hlst) (hw.dm kd_0 (by decide)) (sh4 kd_0) rfl (k_gV u_ml_L_116 u_im_X4_heatOf u_se_X4_heatOf u_ini_X4 u_co_X4_heatOf) (q_X4_heatOf) rfl rfl rfl ⟨(Nat.le_of_ble_eq_true rfl), (Nat.le_of_ble_eq_true rfl)⟩ hl.1 rfl (Nat.le_of_ble_eq_true rfl) dL_law_1006 ⟨(by show _ ≤ (817018 : Nat); omega), (by show _ ≤ (6650127 : Nat); omega)⟩) (fun H locs hw => ?_)
          refine lv_bipush (v := 9) hM.x hM.b dL_law_1009 (by decide) ?_
          refine lv_aload hM.x hM.b dL_law_1011 (lv_at hl 17 rfl) ?_
          refine lv_iload hM.x hM.b dL_law_1013 (lv_at hl 2 rfl) ?_
          refine k_ialdN (i := j) (n := nf) hM hw (hT.m 158 (by decide) (by decide)) ((hT.s158)) hjN (by omega) dL_law_1015 ?_
          refine lv_iconst (v := 1) hM.x hM.b dL_law_1016 (by decide) ?_
          refine lv_iadd hM.x hM.b dL_law_1017 ?_
          refine lv_iload hM.x hM.b dL_law_1018 (lv_at hl 4 rfl) ?_
          refine lv_iadd hM.x hM.b dL_law_1020 ?_
          refine va_mmin hM.x hM.b (hM.ml.trans hl.1.symm) hM.ow (hM.ts _ u_ml_L_37) (hM.ts _ u_st_JM_min) (hM.ts _ u_ini_JM) (hM.ts _ u_co_JM_min) (Nat.le_of_ble_eq_true rfl) (Nat.le_of_ble_eq_true rfl) (by show _ ≤ (817018 : Nat); omega) (by show _ ≤ (6650127 : Nat); omega) dL_law_1021 ?_
          refine lv_icmp_le (tgt := 1029) hM.x hM.b dL_law_1024 (by decide) (fun _ => ?_) (fun cz => absurd (by rw [t1]; exact hh3) cz)
          refine lv_iinc (v := nI (j + 1)) (lv' := [(21, .int (nI (j + 1))), (23, .int (mx (β (5 + j) 1 + 1))), (22, .int (0)), (17, .int (β 1 6)), (18, .int (v)), (0, .ref b), (1, .ref (ad (0))), (2, .ref (ad (91))), (3, .int (nI (t))), (5, .int (nI (ns))), (6, .int (nI (nr))), (7, .ref (ad (136))), (8, .ref (ad (153))), (9, .ref (ad (154))), (10, .ref (ad (155))), (11, .ref (ad (156))), (12, .ref (ad (157))), (14, .ref (ad (158))), (15, .ref (ad (159)))]) hM.x hM.b dL_law_1029 hl (k := 2) rfl (nI_1 (j)) (by decide) rfl (fun ls hl => ?_)
          refine lv_goto (tgt := 898) hM.x hM.b dL_law_1032 (by decide) ?_
          refine W.widen (k := k1 + 4 * (j + 1)) (n := n1 + 24 * (j + 1)) (by omega) (by omega) ?_
          exact ih (j + 1) (by omega) H locs ls (lv_sub hl [0, 3, 4, 5, 6, 7, 8, 9, 10, 11, 12, 13, 14, 15, 16, 17, 18] rfl) hw kk
      · skip
        refine lv_iconst (v := 1) hM.x hM.b dL_law_922 (by decide) ?_
        refine lv_goto (tgt := 927) hM.x hM.b dL_law_923 (by decide) ?_
        refine lv_istore (lv' := [(22, .int (1)), (21, .int (nI (j))), (17, .int (β 1 6)), (18, .int (v)), (0, .ref b), (1, .ref (ad (0))), (2, .ref (ad (91))), (3, .int (nI (t))), (5, .int (nI (ns))), (6, .int (nI (nr))), (7, .ref (ad (136))), (8, .ref (ad (153))), (9, .ref (ad (154))), (10, .ref (ad (155))), (11, .ref (ad (156))), (12, .ref (ad (157))), (14, .ref (ad (158))), (15, .ref (ad (159)))]) hM.x hM.b dL_law_927 hl (by decide) rfl (fun ls hl => ?_)
        refine lv_iconst (v := 0) hM.x hM.b dL_law_929 (by decide) ?_
        refine lv_bipush (v := 9) hM.x hM.b dL_law_930 (by decide) ?_
        refine lv_aload hM.x hM.b dL_law_932 (lv_at hl 16 rfl) ?_
        refine lv_iload hM.x hM.b dL_law_934 (lv_at hl 1 rfl) ?_
        refine k_ialdN (i := j) (n := nf) hM hw (hT.m 158 (by decide) (by decide)) ((hT.s158)) hjN (by omega) dL_law_936 ?_
        refine lv_aload hM.x hM.b dL_law_937 (lv_at hl 17 rfl) ?_
        refine lv_iload hM.x hM.b dL_law_939 (lv_at hl 1 rfl) ?_
        refine k_ialdN (i := j) (n := nf) hM hw (hT.m 159 (by decide) (by decide)) ((hT.s159)) hjN (by omega) dL_law_941 ?_
        refine lv_if_le (tgt := 949) hM.x hM.b dL_law_942 (by decide) (fun cz => absurd cz c1) (fun _ => ?_)
        refine lv_iconst (v := 1) hM.x hM.b dL_law_945 (by decide) ?_
        refine lv_goto (tgt := 950) hM.x hM.b dL_law_946 (by decide) ?_
        refine lv_iadd hM.x hM.b dL_law_950 ?_
        refine va_mmin hM.x hM.b (hM.ml.trans hl.1.symm) hM.ow (hM.ts _ u_ml_L_37) (hM.ts _ u_st_JM_min) (hM.ts _ u_ini_JM) (hM.ts _ u_co_JM_min) (Nat.le_of_ble_eq_true rfl) (Nat.le_of_ble_eq_true rfl) (by show _ ≤ (817018 : Nat); omega) (by show _ ≤ (6650127 : Nat); omega) dL_law_951 ?_
        refine va_mmax hM.x hM.b (hM.ml.trans hl.1.symm) hM.ow (hM.ts _ u_ml_L_165) (hM.ts _ u_st_JM_max) (hM.ts _ u_ini_JM) (hM.ts _ u_co_JM_max) (Nat.le_of_ble_eq_true rfl) (Nat.le_of_ble_eq_true rfl) (by show _ ≤ (817018 : Nat); omega) (by show _ ≤ (6650127 : Nat); omega) dL_law_954 ?_
        rw [if_neg (show ¬ β (5 + j) 0 ≤ 0 from fun z => c1 (by rw [t0]; exact z))] at hh1 hh2
        have hle : ((if (0) < ((if (((θ (158) (j)) + (1))) < (9) then (((θ (158) (j)) + (1))) else (9))) then ((if (((θ (158) (j)) + (1))) < (9) then (((θ (158) (j)) + (1))) else (9))) else (0)) : Int32) = mx (β (5 + j) 1 + 1) := by rw [t1]; rfl
        refine W.eq (g2 := F0 m 957 ls [.int (mx (β (5 + j) 1 + 1))]) (by rw [← hle]) ?_
        refine lv_istore (lv' := [(23, .int (mx (β (5 + j) 1 + 1))), (22, .int (1)), (21, .int (nI (j))), (17, .int (β 1 6)), (18, .int (v)), (0, .ref b), (1, .ref (ad (0))), (2, .ref (ad (91))), (3, .int (nI (t))), (5, .int (nI (ns))), (6, .int (nI (nr))), (7, .ref (ad (136))), (8, .ref (ad (153))), (9, .ref (ad (154))), (10, .ref (ad (155))), (11, .ref (ad (156))), (12, .ref (ad (157))), (14, .ref (ad (158))), (15, .ref (ad (159)))]) hM.x hM.b dL_law_957 hl (by decide) rfl (fun ls hl => ?_)
        refine lv_aload_n hM.x hM.b dL_law_959 rfl (lv_at hl 6 rfl) ?_
        refine lv_iload hM.x hM.b dL_law_960 (lv_at hl 2 rfl) ?_
        refine k_xiK (rd_fire hR hq hjN).1 hw (k_runXV [.int (nI (j))] [] hM hw (m_X4_logsOf l ((D, L), cA, ad) θ _ (nI (j)) hlst) (hw.dm kd_0 (by decide)) (sh4 kd_0) rfl (k_gV u_ml_L_119 u_im_X4_logsOf u_se_X4_logsOf u_ini_X4 u_co_X4_logsOf) (q_X4_logsOf) rfl rfl rfl ⟨(Nat.le_of_ble_eq_true rfl), (Nat.le_of_ble_eq_true rfl)⟩ hl.1 rfl (Nat.le_of_ble_eq_true rfl) dL_law_962 ⟨(by show _ ≤ (817018 : Nat); omega), (by show _ ≤ (6650127 : Nat); omega)⟩) (fun H locs hw => ?_)
        refine lv_aload hM.x hM.b dL_law_965 (lv_at hl 18 rfl) ?_
        refine lv_iload hM.x hM.b dL_law_967 (lv_at hl 2 rfl) ?_
        refine k_ialdN (i := j) (n := nf) hM hw (hT.m 159 (by decide) (by decide)) ((hT.s159)) hjN (by omega) dL_law_969 ?_
        refine lv_iload hM.x hM.b dL_law_970 (lv_at hl 1 rfl) ?_
        refine lv_isub hM.x hM.b dL_law_972 ?_
        refine lv_icmp_ne (tgt := 1027) hM.x hM.b dL_law_973 (by decide) (fun cz => absurd (by rw [hlc, t0]; unfold nL; rw [if_neg (fun z => c1 (by rw [t0]; exact z)), if_pos c3]) cz) (fun _ => ?_)
        refine lv_aload_n hM.x hM.b dL_law_976 rfl (lv_at hl 6 rfl) ?_
        refine lv_iload hM.x hM.b dL_law_977 (lv_at hl 2 rfl) ?_
        refine k_xiK (rd_fire hR hq hjN).2 hw (k_runXV [.int (nI (j))] [] hM hw (m_X4_heatOf l ((D, L), cA, ad) θ _ (nI (j)) hlst) (hw.dm kd_0 (by decide)) (sh4 kd_0) rfl (k_gV u_ml_L_116 u_im_X4_heatOf u_se_X4_heatOf u_ini_X4 u_co_X4_heatOf) (q_X4_heatOf) rfl rfl rfl ⟨(Nat.le_of_ble_eq_true rfl), (Nat.le_of_ble_eq_true rfl)⟩ hl.1 rfl (Nat.le_of_ble_eq_true rfl) dL_law_979 ⟨(by show _ ≤ (817018 : Nat); omega), (by show _ ≤ (6650127 : Nat); omega)⟩) (fun H locs hw => ?_)
        refine lv_iload hM.x hM.b dL_law_982 (lv_at hl 0 rfl) ?_
        refine lv_icmp_lt (tgt := 1027) hM.x hM.b dL_law_984 (by decide) (fun cz => absurd cz (Int32.not_lt.mpr hh1)) (fun _ => ?_)
        refine lv_iload hM.x hM.b dL_law_987 (lv_at hl 4 rfl) ?_
        refine lv_if_ne (tgt := 1003) hM.x hM.b dL_law_989 (by decide) (fun c5 => ?_) (fun c5 => ?_)
        · skip
          refine lv_aload_n hM.x hM.b dL_law_1003 rfl (lv_at hl 6 rfl) ?_
          refine lv_iload hM.x hM.b dL_law_1004 (lv_at hl 2 rfl) ?_
          refine k_xiK (rd_fire hR hq hjN).2 hw (k_runXV [.int (nI (j))] [] hM hw (m_X4_heatOf l ((D, L), cA, ad) θ _ (nI (j)) hlst) (hw.dm kd_0 (by decide)) (sh4 kd_0) rfl (k_gV u_ml_L_116 u_im_X4_heatOf u_se_X4_heatOf u_ini_X4 u_co_X4_heatOf) (q_X4_heatOf) rfl rfl rfl ⟨(Nat.le_of_ble_eq_true rfl), (Nat.le_of_ble_eq_true rfl)⟩ hl.1 rfl (Nat.le_of_ble_eq_true rfl) dL_law_1006 ⟨(by show _ ≤ (817018 : Nat); omega), (by show _ ≤ (6650127 : Nat); omega)⟩) (fun H locs hw => ?_)
          refine lv_bipush (v := 9) hM.x hM.b dL_law_1009 (by decide) ?_
          refine lv_aload hM.x hM.b dL_law_1011 (lv_at hl 17 rfl) ?_
          refine lv_iload hM.x hM.b dL_law_1013 (lv_at hl 2 rfl) ?_
          refine k_ialdN (i := j) (n := nf) hM hw (hT.m 158 (by decide) (by decide)) ((hT.s158)) hjN (by omega) dL_law_1015 ?_
          refine lv_iconst (v := 1) hM.x hM.b dL_law_1016 (by decide) ?_
          refine lv_iadd hM.x hM.b dL_law_1017 ?_
          refine lv_iload hM.x hM.b dL_law_1018 (lv_at hl 4 rfl) ?_
          refine lv_iadd hM.x hM.b dL_law_1020 ?_
          refine va_mmin hM.x hM.b (hM.ml.trans hl.1.symm) hM.ow (hM.ts _ u_ml_L_37) (hM.ts _ u_st_JM_min) (hM.ts _ u_ini_JM) (hM.ts _ u_co_JM_min) (Nat.le_of_ble_eq_true rfl) (Nat.le_of_ble_eq_true rfl) (by show _ ≤ (817018 : Nat); omega) (by show _ ≤ (6650127 : Nat); omega) dL_law_1021 ?_
          refine lv_icmp_le (tgt := 1029) hM.x hM.b dL_law_1024 (by decide) (fun _ => ?_) (fun cz => absurd (by rw [t1]; exact hh3) cz)
          refine lv_iinc (v := nI (j + 1)) (lv' := [(21, .int (nI (j + 1))), (23, .int (mx (β (5 + j) 1 + 1))), (22, .int (1)), (17, .int (β 1 6)), (18, .int (v)), (0, .ref b), (1, .ref (ad (0))), (2, .ref (ad (91))), (3, .int (nI (t))), (5, .int (nI (ns))), (6, .int (nI (nr))), (7, .ref (ad (136))), (8, .ref (ad (153))), (9, .ref (ad (154))), (10, .ref (ad (155))), (11, .ref (ad (156))), (12, .ref (ad (157))), (14, .ref (ad (158))), (15, .ref (ad (159)))]) hM.x hM.b dL_law_1029 hl (k := 2) rfl (nI_1 (j)) (by decide) rfl (fun ls hl => ?_)
          refine lv_goto (tgt := 898) hM.x hM.b dL_law_1032 (by decide) ?_
          refine W.widen (k := k1 + 4 * (j + 1)) (n := n1 + 24 * (j + 1)) (by omega) (by omega) ?_
          exact ih (j + 1) (by omega) H locs ls (lv_sub hl [0, 3, 4, 5, 6, 7, 8, 9, 10, 11, 12, 13, 14, 15, 16, 17, 18] rfl) hw kk
        · skip
          refine lv_aload_n hM.x hM.b dL_law_992 rfl (lv_at hl 6 rfl) ?_
          refine lv_iload hM.x hM.b dL_law_993 (lv_at hl 2 rfl) ?_
          refine k_xiK (rd_fire hR hq hjN).2 hw (k_runXV [.int (nI (j))] [] hM hw (m_X4_heatOf l ((D, L), cA, ad) θ _ (nI (j)) hlst) (hw.dm kd_0 (by decide)) (sh4 kd_0) rfl (k_gV u_ml_L_116 u_im_X4_heatOf u_se_X4_heatOf u_ini_X4 u_co_X4_heatOf) (q_X4_heatOf) rfl rfl rfl ⟨(Nat.le_of_ble_eq_true rfl), (Nat.le_of_ble_eq_true rfl)⟩ hl.1 rfl (Nat.le_of_ble_eq_true rfl) dL_law_995 ⟨(by show _ ≤ (817018 : Nat); omega), (by show _ ≤ (6650127 : Nat); omega)⟩) (fun H locs hw => ?_)
          refine lv_iload hM.x hM.b dL_law_998 (lv_at hl 0 rfl) ?_
          refine lv_icmp_ne (tgt := 1027) hM.x hM.b dL_law_1000 (by decide) (fun cz => absurd (hh2 c5) cz) (fun _ => ?_)
          refine lv_aload_n hM.x hM.b dL_law_1003 rfl (lv_at hl 6 rfl) ?_
          refine lv_iload hM.x hM.b dL_law_1004 (lv_at hl 2 rfl) ?_
          refine k_xiK (rd_fire hR hq hjN).2 hw (k_runXV [.int (nI (j))] [] hM hw (m_X4_heatOf l ((D, L), cA, ad) θ _ (nI (j)) hlst) (hw.dm kd_0 (by decide)) (sh4 kd_0) rfl (k_gV u_ml_L_116 u_im_X4_heatOf u_se_X4_heatOf u_ini_X4 u_co_X4_heatOf) (q_X4_heatOf) rfl rfl rfl ⟨(Nat.le_of_ble_eq_true rfl), (Nat.le_of_ble_eq_true rfl)⟩ hl.1 rfl (Nat.le_of_ble_eq_true rfl) dL_law_1006 ⟨(by show _ ≤ (817018 : Nat); omega), (by show _ ≤ (6650127 : Nat); omega)⟩) (fun H locs hw => ?_)
          refine lv_bipush (v := 9) hM.x hM.b dL_law_1009 (by decide) ?_
          refine lv_aload hM.x hM.b dL_law_1011 (lv_at hl 17 rfl) ?_
          refine lv_iload hM.x hM.b dL_law_1013 (lv_at hl 2 rfl) ?_
          refine k_ialdN (i := j) (n := nf) hM hw (hT.m 158 (by decide) (by decide)) ((hT.s158)) hjN (by omega) dL_law_1015 ?_
          refine lv_iconst (v := 1) hM.x hM.b dL_law_1016 (by decide) ?_
          refine lv_iadd hM.x hM.b dL_law_1017 ?_
          refine lv_iload hM.x hM.b dL_law_1018 (lv_at hl 4 rfl) ?_
          refine lv_iadd hM.x hM.b dL_law_1020 ?_
          refine va_mmin hM.x hM.b (hM.ml.trans hl.1.symm) hM.ow (hM.ts _ u_ml_L_37) (hM.ts _ u_st_JM_min) (hM.ts _ u_ini_JM) (hM.ts _ u_co_JM_min) (Nat.le_of_ble_eq_true rfl) (Nat.le_of_ble_eq_true rfl) (by show _ ≤ (817018 : Nat); omega) (by show _ ≤ (6650127 : Nat); omega) dL_law_1021 ?_
          refine lv_icmp_le (tgt := 1029) hM.x hM.b dL_law_1024 (by decide) (fun _ => ?_) (fun cz => absurd (by rw [t1]; exact hh3) cz)
          refine lv_iinc (v := nI (j + 1)) (lv' := [(21, .int (nI (j + 1))), (23, .int (mx (β (5 + j) 1 + 1))), (22, .int (1)), (17, .int (β 1 6)), (18, .int (v)), (0, .ref b), (1, .ref (ad (0))), (2, .ref (ad (91))), (3, .int (nI (t))), (5, .int (nI (ns))), (6, .int (nI (nr))), (7, .ref (ad (136))), (8, .ref (ad (153))), (9, .ref (ad (154))), (10, .ref (ad (155))), (11, .ref (ad (156))), (12, .ref (ad (157))), (14, .ref (ad (158))), (15, .ref (ad (159)))]) hM.x hM.b dL_law_1029 hl (k := 2) rfl (nI_1 (j)) (by decide) rfl (fun ls hl => ?_)
          refine lv_goto (tgt := 898) hM.x hM.b dL_law_1032 (by decide) ?_
          refine W.widen (k := k1 + 4 * (j + 1)) (n := n1 + 24 * (j + 1)) (by omega) (by omega) ?_
          exact ih (j + 1) (by omega) H locs ls (lv_sub hl [0, 3, 4, 5, 6, 7, 8, 9, 10, 11, 12, 13, 14, 15, 16, 17, 18] rfl) hw kk
