theorem pair_ex {α β : Type} (x : α × β) : ∃ a b, x = (a, b) := ⟨x.1, x.2, rfl⟩
section LKS
variable {k nf ns nr : Nat} {μ : Nat → Int32} {κ m κm : Kp}
theorem RX_Lk (h : RX k κ m) (hL : Lk m κm) : RX k κ κm := fun x hx => by rw [hL.2.2 x hx]; exact h x hx
theorem Gs_Lk (h : Gs nf ns nr μ m) (hL : Lk m κm) : Gs nf ns nr μ κm := fun x hx => by rw [hL.2.2 x hx]; exact h x hx
theorem Lk_91 (hL : Lk m κm) : κm 91 = m 91 := hL.1 91 (by decide) (by decide) (by decide) (by decide) (by decide)
theorem Lk_92 (hL : Lk m κm) : κm 92 = m 92 := hL.1 92 (by decide) (by decide) (by decide) (by decide) (by decide)
theorem Bs_Lk (hB : Bs k nf ns nr κ m) (h3 : m 91 3 = nI nr) (hL : Lk m κm) : Bs k nf ns nr κ κm := by
  refine ⟨hB.1, by rw [Lk_91 hL]; exact hB.2.1, hB.2.2.1, fun i hi => ?_, fun i hi => ?_, fun i hi => ?_⟩
  · rw [Lk_92 hL]; exact hB.2.2.2.1 i hi
  · rw [Lk_92 hL]; exact hB.2.2.2.2.1 i hi
  · rw [hL.2.1 i nr h3 hB.2.2.1.2.2 hi]; exact hB.2.2.2.2.2 i hi
theorem MI_Lk (h : MI m) (hL : Lk m κm) : MI κm := MIr_of h (Lk_91 hL) (Lk_92 hL) hL.2.2
theorem RX_low {κc : Kp} (h : RX 1 κ m) (hc : ∀ q, q < 46 → κc q = κ q) : RX 1 κc m := fun x hx => by
  have := oC_lt x hx
  rw [hc _ (by omega)]; exact h x hx
theorem Bs_low {κc : Kp} (h : Bs 1 nf ns nr κ m) (hc : ∀ q, q < 46 → κc q = κ q) : Bs 1 nf ns nr κc m := by
  have hnr := h.2.2.1.2.2
  refine ⟨by rw [hc 1 (by decide)]; exact h.1, h.2.1, h.2.2.1, fun i hi => ?_, h.2.2.2.2.1, fun i hi => ?_⟩
  · rw [hc _ (by omega)]; exact h.2.2.2.1 i hi
  · rw [hc _ (by omega)]; exact h.2.2.2.2.2 i hi
end LKS
/-- one number of minutes tried -/
theorem it_each {nf ns nr i h j : Nat} {μ : Nat → Int32} {κc κm κ1 κ2 : Kp} {r1 r2 : Int32} (hR : RX 1 κc κm) (hG : Gs nf ns nr μ κm) (hB : Bs 1 nf ns nr κc κm) (hz : ∀ f, f < 3 → κc (1 + 4 + f) 2 = 0) (hM : MI κm) (hi : i < ns) (hh : h < nr) (h6 : κm 96 (7 + 5 * i + 2) = nI (h + 1))
    (e1 : f_X4_untilDoneTurnedEach κc (nI i) (nI j) = (r1, κ1)) (e2 : f_X5_until (f_X5_each κm (nI i) (nI j)) (f_X5_sp (f_X5_each κm (nI i) (nI j)) (nI i) 2 - 1) 0 = (r2, κ2)) : r1 = r2 ∧ (∀ q, ¬ q = 94 → ¬ q = 95 → ¬ q = 96 → κ2 q = κm q) ∧ (∀ x, x < 165 → κ2 96 x = κm 97 x) := by
  obtain ⟨hnf, hns, hnr⟩ := hB.2.2.1
  have hi6 : i < 6 := by omega
  obtain ⟨hRa, hBa, hza⟩ := sim_copy hR hB hz
  have ee : f_X5_each κm (nI i) (nI j) = up2 (up2 κm 96 (7 + 5 * i + 4) (nI j)) 96 (7 + 5 * i + 3) 0 := by
    unfold f_X5_each
    rw [show f_X5_letSpit κm (nI i) 4 (nI j) = up2 κm 96 (7 + 5 * i + 4) (nI j) from letSpit_N (w := 4) hi6 (by decide)]
    exact letSpit_N (w := 3) hi6 (by decide)
  have hMe : MI (f_X5_each κm (nI i) (nI j)) := MI_each hM (vp_in_nI hi6 (by decide))
  have hs : f_X5_sp (f_X5_each κm (nI i) (nI j)) (nI i) 2 = nI (h + 1) := by
    rw [ee, show f_X5_sp (up2 (up2 κm 96 (7 + 5 * i + 4) (nI j)) 96 (7 + 5 * i + 3) 0) (nI i) 2 = (up2 (up2 κm 96 (7 + 5 * i + 4) (nI j)) 96 (7 + 5 * i + 3) 0) 96 (7 + 5 * i + 2) from sp_N (w := 2) hi6 (by decide), up2_ne _ _ (Or.inr (by omega)), up2_ne _ _ (Or.inr (by omega)), h6]
  rw [hs, nI_less] at e2
  obtain ⟨u1, u2⟩ := until_spec e2 hMe
  unfold f_X4_untilDoneTurnedEach at e1
  generalize f_X1_copyFrom κc 46 1 = κa at hRa hBa hza e1
  dsimp only at e1
  rw [spitAt_N hBa.1.2.1 hi hns] at e1
  dsimp only at e1
  have ea : f_X3_countAnew κa (46 + 7 + i) (nI j) = up2 (up2 κa (46 + 7 + i) 2 (nI j)) (46 + 7 + i) 3 0 := rfl
  rw [ea] at e1
  have hJ : J 46 nf ns nr κa κm (up2 (up2 κa (46 + 7 + i) 2 (nI j)) (46 + 7 + i) 3 0) (up2 (up2 κm 96 (7 + 5 * i + 4) (nI j)) 96 (7 + 5 * i + 3) 0) := J_count (J_each (J_self hRa hG) hi6) hi6
  have h5 : (up2 (up2 κa (46 + 7 + i) 2 (nI j)) (46 + 7 + i) 3 0) (46 + 7 + i) 5 = nI h := by
    rw [(RX_spit hJ.1 hi6).2.2.1, up2_ne _ _ (Or.inr (by omega)), up2_ne _ _ (Or.inr (by omega)), h6, nI_less]
  have hzb : ∀ f, f < 3 → (up2 (up2 κa (46 + 7 + i) 2 (nI j)) (46 + 7 + i) 3 0) (46 + 4 + f) 2 = 0 := fun f hf => by rw [up2_row (by omega), up2_row (by omega)]; exact hza f hf
  rw [h5] at e1
  generalize up2 (up2 κa (46 + 7 + i) 2 (nI j)) (46 + 7 + i) 3 0 = κb at hJ hzb e1
  have hrA := roastAt_N (J_cnt hBa hJ).2.2 hh hnr
  have hfst := ahead_fst hrA
  rw [← ee] at hJ
  have hu := sim_until hBa hh (nI h) 200 0 κb _ rfl hJ hzb
  rw [← hfst, ← until_fst, e2] at hu
  refine ⟨?_, fun q q1 q2 q3 => ?_, fun x hx => ?_⟩
  · have e3 := congrArg Prod.fst e1
    exact e3.symm.trans hu
  · rw [u1 q q1 q2 q3]; exact each_row q3
  · rw [u2 x hx]; exact congrFun (each_row (by decide)) x
theorem FrK_lbestEach {κ0 : Kp} (a : Int32) : ∀ (n j : Nat) (v2 v3 : Int32) (κ : Kp), FrK 46 κ0 κ → FrK 46 κ0 (lp_X4_bestEach a n j v2 v3 κ).2 := by
  intro n
  induction n with
  | zero => intro j v2 v3 κ h; exact h
  | succ n ih =>
    intro j v2 v3 κ h
    rw [lp_X4_bestEach]
    have h1 := FrK_turnedEach (a := a) (b := nI j) h
    generalize f_X4_untilDoneTurnedEach κ a (nI j) = w at h1
    obtain ⟨r1, κ1⟩ := w
    dsimp only at h1 ⊢
    split
    · exact ih _ _ _ _ h1
    · split
      · exact ih _ _ _ _ h1
      · exact ih _ _ _ _ h1
theorem i32_nlt {a b : Int32} (h : a ≤ b) : ¬ b < a := by
  rw [Int32.lt_iff_toInt_lt]; rw [Int32.le_iff_toInt_le] at h; omega
theorem i32_lt {a b : Int32} (h : ¬ a ≤ b) : b < a := by
  rw [Int32.lt_iff_toInt_lt]; rw [Int32.le_iff_toInt_le] at h; omega
theorem sim_lbestEach {nf ns nr i h : Nat} {μ : Nat → Int32} {κ m0 : Kp} (hR : RX 1 κ m0) (hG : Gs nf ns nr μ m0) (hB : Bs 1 nf ns nr κ m0) (h3 : m0 91 3 = nI nr) (hz : ∀ f, f < 3 → κ (1 + 4 + f) 2 = 0) (hM : MI m0) (hi : i < ns) (hh : h < nr) (h6 : m0 96 (7 + 5 * i + 2) = nI (h + 1)) : ∀ (n j : Nat) (v2 v3 : Int32) (κc κm : Kp), FrK 46 κ κc → Lk m0 κm → (∀ x, x < 165 → κm 97 x = m0 96 x) → (lp_X4_bestEach (nI i) n j v2 v3 κc).1 = (lp_X5_bestEach (nI i) n j v2 v3 κm).1 ∧ Lk m0 (lp_X5_bestEach (nI i) n j v2 v3 κm).2 := by
  obtain ⟨hnf, hns, hnr⟩ := hB.2.2.1
  intro n
  induction n with
  | zero => intro j v2 v3 κc κm hc hL hk; exact ⟨rfl, hL⟩
  | succ n ih =>
    intro j v2 v3 κc κm hc hL hk
    have hlow : ∀ q, q < 46 → κc q = κ q := fun q hq => hc q (by omega)
    rw [lp_X4_bestEach, lp_X5_bestEach]
    dsimp only
    obtain ⟨r1, κ1, e1⟩ := pair_ex (f_X4_untilDoneTurnedEach κc (nI i) (nI j))
    obtain ⟨r2, κ2, e2⟩ := pair_ex (f_X5_until (f_X5_each κm (nI i) (nI j)) (f_X5_sp (f_X5_each κm (nI i) (nI j)) (nI i) 2 - 1) 0)
    obtain ⟨er, g1, g2⟩ := it_each (RX_low (RX_Lk hR hL) hlow) (Gs_Lk hG hL) (Bs_low (Bs_Lk hB h3 hL) hlow) (fun f hf => by rw [hlow _ (by omega)]; exact hz f hf) (MI_Lk hM hL) hi hh (by rw [hL.2.2 _ (by omega)]; exact h6) e1 e2
    have hFc := FrK_turnedEach (a := nI i) (b := nI j) hc
    rw [e1] at hFc ⊢
    rw [e2]
    subst er
    have hL2 : Lk m0 κ2 := by
      refine ⟨fun q q1 q2 q3 q4 q5 => (g1 q q2 q3 q4).trans (hL.1 q q1 q2 q3 q4 q5), fun i nr a b c => ?_, fun x hx => (g2 x hx).trans (hk x hx)⟩
      rw [g1 93 (by decide) (by decide) (by decide)]
      exact hL.2.1 i nr a b c
    have hk2 : ∀ x, x < 165 → κ2 97 x = m0 96 x := fun x hx => by rw [g1 97 (by decide) (by decide) (by decide)]; exact hk x hx
    dsimp only
    by_cases c : r1 = -1
    · rw [if_pos c, if_pos c]
      exact ih _ _ _ _ _ hFc hL2 hk2
    · rw [if_neg c, if_neg c]
      by_cases c2 : v3 ≤ r1
      · rw [if_pos c2, if_neg (i32_nlt c2)]
        exact ih _ _ _ _ _ hFc hL2 hk2
      · rw [if_neg c2, if_pos (i32_lt c2)]
        exact ih _ _ _ _ _ hFc hL2 hk2
/-- without a roast no number is the best -/
theorem lbestEach_none {ns i : Nat} {κ : Kp} (hns : ns ≤ 6) (h4 : κ 1 4 = nI ns) (hi : i < ns) (h5 : κ (1 + 7 + i) 5 = -1) : ∀ (n j : Nat) (κc : Kp), FrK 46 κ κc → (lp_X4_bestEach (nI i) n j (-1) 201 κc).1 = -1 := by
  intro n
  induction n with
  | zero => intro j κc hc; rfl
  | succ n ih =>
    intro j κc hc
    have hFc := FrK_turnedEach (a := nI i) (b := nI j) hc
    rw [lp_X4_bestEach]
    have e1 : (f_X4_untilDoneTurnedEach κc (nI i) (nI j)).1 = -1 := by
      obtain ⟨h0, h1, h2, h3⟩ := copy1_spec (k := 46) (q := 1) (by decide) κc
      unfold f_X4_untilDoneTurnedEach
      generalize f_X1_copyFrom κc 46 1 = κa at h0 h1 h2 h3
      have e4 : κa 46 4 = nI ns := by rw [h0 4 (by decide) (by decide), hc 1 (by omega)]; exact h4
      dsimp only
      rw [spitAt_N e4 hi hns]
      dsimp only
      have ea : f_X3_countAnew κa (46 + 7 + i) (nI j) = up2 (up2 κa (46 + 7 + i) 2 (nI j)) (46 + 7 + i) 3 0 := rfl
      have e5 : (up2 (up2 κa (46 + 7 + i) 2 (nI j)) (46 + 7 + i) 3 0) (46 + 7 + i) 5 = -1 := by
        rw [up2_ne _ _ (Or.inr (by decide)), up2_ne _ _ (Or.inr (by decide)), h2 i (by omega) 5 (by decide), hc (1 + 7 + i) (by omega)]; exact h5
      rw [ea, e5, ahead_none (by unfold f_X1_roastAt; rw [if_pos (by decide)])]
    generalize f_X4_untilDoneTurnedEach κc (nI i) (nI j) = w at e1 hFc
    obtain ⟨r1, κ1⟩ := w
    dsimp only at e1 hFc ⊢
    rw [if_pos e1]
    exact ih _ _ hFc
theorem sim_op_bestEach (a : Int32) : SimOp SS (fun κ => f_L_bestEach κ a) (fun κ => f_X5_bestEach κ a) := by
  intro t κ ht hS k κ1 e
  obtain ⟨nf, ns, nr, a0, b0, c0, d0, e0, f0, g0⟩ := id hS
  obtain ⟨hnf, hns, hnr⟩ := b0.2.2.1
  rcases spit_cases a b0.1.2.1 b0.2.1.2 hns with ⟨i, hi, rfl, hn, hf⟩ | ⟨hn, hf⟩
  · obtain ⟨v, κc, hvc⟩ := pair_ex (lp_X4_bestEach (nI i) 9 1 (-1) 201 κ)
    have hFc := FrK_lbestEach (κ0 := κ) (nI i) 9 1 (-1) 201 κ FrK.rfl
    rw [hvc] at hFc
    refine op_l (κc := κc) (v := v) (fL := fun κ => f_L_bestEach κ (nI i)) (fX := fun κ => f_X5_bestEach κ (nI i)) hS hFc ?_ ?_ e
    · show f_L_bestEach κ (nI i) = _
      unfold f_L_bestEach f_X4_bestEach
      rw [hn]
      dsimp only
      rw [hvc]
    · intro m1 m0 hm0 r0 hS0
      have s92 : m0 92 = κ 92 := by rw [hm0, up2_row (by decide)]; exact r0 92 (by decide) (by omega)
      have s93 : m0 93 = κ 93 := by rw [hm0, up2_row (by decide)]; exact r0 93 (by decide) (by omega)
      have s96 : m0 96 = κ 96 := by rw [hm0, up2_row (by decide)]; exact r0 96 (by decide) (by omega)
      have s91 : ∀ j, 0 < j → m0 91 j = κ 91 j := fun j hj => by rw [hm0, up2_ne _ _ (Or.inr (by omega)), r0 91 (by decide) (by omega)]
      have hs : f_X5_sp m0 (nI i) 2 = κ 96 (7 + 5 * i + 2) := by
        rw [show f_X5_sp m0 (nI i) 2 = m0 96 (7 + 5 * i + 2) from sp_N (w := 2) (by omega) (by decide), s96]
      rcases roastOf_cases b0 (SS_J a0) (i := i) (by omega) with ⟨h, hh, hr, h5, h6⟩ | ⟨hr, h6⟩
      · have hBm : Bs 1 nf ns nr κ m0 := Bs_m b0 (s91 1 (by decide)) (s91 2 (by decide)) s92 s93
        have hkeep : Lk m0 (f_X5_keep m0) := ⟨fun q _ _ _ _ q5 => keep_row q5, fun i nr _ _ _ => by rw [keep_row (by decide)], fun x hx => by rw [keep_row (by decide)]⟩
        obtain ⟨l1, l2⟩ := sim_lbestEach (RX_row a0.1 s96) (Gs_row a0.2 s96) hBm ((s91 3 (by decide)).trans d0.1) c0 (SS_MI hS0) hi hh (by rw [s96]; exact h6) 9 1 (-1) 201 κ (f_X5_keep m0) FrK.rfl hkeep (fun x hx => keep_97 hx)
        rw [hvc] at l1
        obtain ⟨v', κm, hvm⟩ := pair_ex (lp_X5_bestEach (nI i) 9 1 (-1) 201 (f_X5_keep m0))
        rw [hvm] at l1 l2
        refine ⟨κm, ?_, l2⟩
        show f_X5_bestEach m1 (nI i) = _
        unfold f_X5_bestEach
        rw [← hm0]
        dsimp only
        rw [isSpit_of hf (s91 2 (by decide)), if_neg bi_t, hs, h6, if_neg (nI_nz (by omega)), hvm]
        dsimp only at l1 ⊢
        rw [l1]
      · have hv := lbestEach_none hns b0.1.2.1 hi (by rw [(RX_spit a0.1 (i := i) (by omega)).2.2.1, h6]; rfl) 9 1 κ FrK.rfl
        rw [hvc] at hv
        refine ⟨m0, ?_, Lk.rfl⟩
        show f_X5_bestEach m1 (nI i) = _
        unfold f_X5_bestEach
        rw [← hm0]
        dsimp only at hv ⊢
        rw [isSpit_of hf (s91 2 (by decide)), if_neg bi_t, hs, h6, if_pos rfl, hv]
  · refine op_th (n := 1) (r0 := 0) (fL := fun κ => f_L_bestEach κ a) (fX := fun κ => f_X5_bestEach κ a) hS (by decide) ?_ ?_ th2 e
    · show f_L_bestEach κ a = _
      unfold f_L_bestEach f_X4_bestEach
      rw [hn]
    · show f_X5_bestEach κ a = _
      unfold f_X5_bestEach
      dsimp only
      have hf2 : f_X5_isSpit (up2 κ 91 0 0) a = false := hf
      rw [hf2, if_pos bi_f]
      rfl
