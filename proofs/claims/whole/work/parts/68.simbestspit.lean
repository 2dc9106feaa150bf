theorem i32_nle {a b : Int32} (h : a < b) : ¬ b ≤ a := by
  rw [Int32.le_iff_toInt_le]; rw [Int32.lt_iff_toInt_lt] at h; omega
/-- one spit tried: it has no roast -/
theorem it_spit {nf ns nr j p : Nat} {μ : Nat → Int32} {κc κm κ1 κ2 : Kp} {r1 r2 : Int32} (hR : RX 1 κc κm) (hG : Gs nf ns nr μ κm) (hB : Bs 1 nf ns nr κc κm) (hz : ∀ f, f < 3 → κc (1 + 4 + f) 2 = 0) (hM : MI κm) (h3 : κm 91 3 = nI nr) (hn : nr < 16) (hj : j < ns) (hp : p ≤ 12) (h6 : κm 96 (7 + 5 * j + 2) = 0)
    (e1 : f_X4_untilDoneHungOn κc (nI j) (nI p) = (r1, κ1)) (e2 : f_X5_until (f_X5_hangNext κm (nI j) (nI p)) (f_X5_hangNext κm (nI j) (nI p) 91 3) 0 = (r2, κ2)) : r1 = r2 ∧ (∀ q, ¬ q = 93 → ¬ q = 94 → ¬ q = 95 → ¬ q = 96 → κ2 q = κm q) ∧ (∀ x, ¬ x = nr → κ2 93 x = κm 93 x) ∧ (∀ x, x < 165 → κ2 96 x = κm 97 x) := by
  obtain ⟨hnf, hns, hnr⟩ := hB.2.2.1
  have hj6 : j < 6 := by omega
  obtain ⟨hRa, hBa, hza⟩ := sim_copy hR hB hz
  have hMe : MI (f_X5_hangNext κm (nI j) (nI p)) := MI_hangNext hM (by rw [h3]; exact vp_in_nI hn (by decide)) (vp_in_nI hj6 (by decide))
  unfold f_X4_untilDoneHungOn at e1
  generalize f_X1_copyFrom κc 46 1 = κa at hRa hBa hza e1
  obtain ⟨κb, κh, pl, hx, ⟨hRb, hGb⟩, hBb, hfr, hzb, h7, ho, h93, h0⟩ := sim_hang hBa hRa hG h3 hn hj h6 hp
  dsimp only at e1
  rw [pl] at e1
  rw [hx] at e2 hMe
  dsimp only at e1
  have eh3 : κh 91 3 = nI nr := by rw [ho 91 (by decide) (by decide)]; exact h3
  rw [eh3] at e2
  obtain ⟨u1, u2⟩ := until_spec e2 hMe
  have hrA := roastAt_N hBb.1.2.2 (r := nr) (by omega) (by omega)
  have hfst := ahead_fst hrA
  have hu := sim_until hBb (i := nr) (by omega) (nI nr) 200 0 κb κh rfl (J_self hRb hGb) (fun f hf => by rw [hzb f hf]; exact hza f hf)
  rw [← hfst, ← until_fst, e2] at hu
  refine ⟨?_, fun q q0 q1 q2 q3 => ?_, fun x hx => ?_, fun x hx => ?_⟩
  · have e3 := congrArg Prod.fst e1
    exact e3.symm.trans hu
  · rw [u1 q q1 q2 q3]; exact ho q q0 q3
  · rw [u1 93 (by decide) (by decide) (by decide)]; exact h93 x hx
  · rw [u2 x hx, ho 97 (by decide) (by decide)]
/-- .. it has one -/
theorem it_spit_no {nf ns nr j h p : Nat} {κc κm : Kp} (hR : RX 1 κc κm) (hB : Bs 1 nf ns nr κc κm) (hz : ∀ f, f < 3 → κc (1 + 4 + f) 2 = 0) (hj : j < ns) (hh : h < nr) (h6 : κm 96 (7 + 5 * j + 2) = nI (h + 1)) : (f_X4_untilDoneHungOn κc (nI j) (nI p)).1 = -1 := by
  obtain ⟨hnf, hns, hnr⟩ := hB.2.2.1
  obtain ⟨hRa, hBa, hza⟩ := sim_copy hR hB hz
  unfold f_X4_untilDoneHungOn
  generalize f_X1_copyFrom κc 46 1 = κa at hRa hBa hza
  have h5 : κa (46 + 7 + j) 5 = nI h := by rw [(RX_spit hRa (i := j) (by omega)).2.2.1, h6, nI_less]
  have hpl : f_X1_placeRoast κa 46 (nI j) (nI p) = (-1, κa) := by
    unfold f_X1_placeRoast
    rw [spitAt_N hBa.1.2.1 hj hns]
    dsimp only
    rw [if_neg (by rw [h5]; exact nI_n1 (by omega))]
  dsimp only
  rw [hpl]
  dsimp only
  rw [ahead_none (by unfold f_X1_roastAt; rw [if_pos (by decide)])]
theorem FrK_lbestSpit {κ0 : Kp} (a : Int32) : ∀ (n j : Nat) (v2 v3 : Int32) (κ : Kp), FrK 46 κ0 κ → FrK 46 κ0 (lp_X4_bestSpit a n j v2 v3 κ).2 := by
  intro n
  induction n with
  | zero => intro j v2 v3 κ h; exact h
  | succ n ih =>
    intro j v2 v3 κ h
    rw [lp_X4_bestSpit]
    have h1 := FrK_hungOn (a := nI j) (b := a) h
    generalize f_X4_untilDoneHungOn κ (nI j) a = w at h1
    obtain ⟨r1, κ1⟩ := w
    dsimp only at h1 ⊢
    split
    · exact h
    · split
      · exact ih _ _ _ _ h1
      · split
        · exact ih _ _ _ _ h1
        · exact ih _ _ _ _ h1
theorem sim_lbestSpit {nf ns nr p : Nat} {μ : Nat → Int32} {κ m0 : Kp} (hR : RX 1 κ m0) (hG : Gs nf ns nr μ m0) (hB : Bs 1 nf ns nr κ m0) (h3 : m0 91 3 = nI nr) (hz : ∀ f, f < 3 → κ (1 + 4 + f) 2 = 0) (hM : MI m0) (hn : nr < 16) (hp : p ≤ 12) : ∀ (n j : Nat) (v2 v3 : Int32) (κc κm : Kp), j + n = 6 → FrK 46 κ κc → Lk m0 κm → (∀ x, x < 165 → κm 97 x = m0 96 x) → (lp_X4_bestSpit (nI p) n j v2 v3 κc).1 = (lp_X5_bestSpit (nI p) n j v2 v3 κm).1 ∧ Lk m0 (lp_X5_bestSpit (nI p) n j v2 v3 κm).2 := by
  obtain ⟨hnf, hns, hnr⟩ := hB.2.2.1
  intro n
  induction n with
  | zero => intro j v2 v3 κc κm hj6 hc hL hk; exact ⟨rfl, hL⟩
  | succ n ih =>
    intro j v2 v3 κc κm hj6 hc hL hk
    have hlow : ∀ q, q < 46 → κc q = κ q := fun q hq => hc q (by omega)
    have hRc := RX_low (RX_Lk hR hL) hlow
    have hGc := Gs_Lk hG hL
    have hBc := Bs_low (Bs_Lk hB h3 hL) hlow
    have hzc : ∀ f, f < 3 → κc (1 + 4 + f) 2 = 0 := fun f hf => by rw [hlow _ (by omega)]; exact hz f hf
    rw [lp_X4_bestSpit, lp_X5_bestSpit]
    dsimp only
    rw [hBc.1.2.1, hBc.2.1.2]
    by_cases c0 : nI ns ≤ nI j
    · rw [if_pos c0, if_pos c0]
      exact ⟨rfl, hL⟩
    · rw [if_neg c0, if_neg c0]
      rw [nIle (by omega) (by omega)] at c0
      have hj : j < ns := by omega
      have hFc := FrK_hungOn (a := nI j) (b := nI p) hc
      obtain ⟨r1, κ1, e1⟩ := pair_ex (f_X4_untilDoneHungOn κc (nI j) (nI p))
      have hsp : f_X5_sp κm (nI j) 2 = κm 96 (7 + 5 * j + 2) := sp_N (w := 2) (by omega) (by decide)
      obtain ⟨hd, d1, d2, d3, d4⟩ := J_holds (J_self hRc hGc) (j := j) (by omega)
      rw [hsp]
      cases hd with
      | zero =>
        have h6 : κm 96 (7 + 5 * j + 2) = 0 := d2
        have q6 : κm 96 (7 + 5 * j + 2) ≤ 0 := by rw [h6]; decide
        rw [if_pos q6]
        obtain ⟨r2, κ2, e2⟩ := pair_ex (f_X5_until (f_X5_hangNext κm (nI j) (nI p)) (f_X5_hangNext κm (nI j) (nI p) 91 3) 0)
        obtain ⟨er, g1, g3, g2⟩ := it_spit hRc hGc hBc hzc (MI_Lk hM hL) (by rw [Lk_91 hL]; exact h3) hn hj hp h6 e1 e2
        rw [e1] at hFc ⊢
        rw [e2]
        subst er
        have hL2 : Lk m0 κ2 := by
          refine ⟨fun q q1 q2 q3 q4 q5 => (g1 q q1 q2 q3 q4).trans (hL.1 q q1 q2 q3 q4 q5), fun i nr2 a b c => ?_, fun x hx => (g2 x hx).trans (hk x hx)⟩
          have enr : nr2 = nr := (nIeq (by omega) (by omega)).mp (a.symm.trans h3)
          rw [g3 i (by omega)]
          exact hL.2.1 i nr2 a b c
        have hk2 : ∀ x, x < 165 → κ2 97 x = m0 96 x := fun x hx => by rw [g1 97 (by decide) (by decide) (by decide) (by decide)]; exact hk x hx
        dsimp only
        by_cases c : r1 = -1
        · rw [if_pos c, if_pos c]
          exact ih _ _ _ _ _ (by omega) hFc hL2 hk2
        · rw [if_neg c, if_neg c]
          by_cases c2 : v3 ≤ r1
          · rw [if_pos c2, if_neg (i32_nlt c2)]
            exact ih _ _ _ _ _ (by omega) hFc hL2 hk2
          · rw [if_neg c2, if_pos (i32_lt c2)]
            exact ih _ _ _ _ _ (by omega) hFc hL2 hk2
      | succ h =>
        have er := it_spit_no (p := p) hRc hBc hzc hj (show h < nr by omega) d2
        have q6 : ¬ κm 96 (7 + 5 * j + 2) ≤ 0 := by rw [d2]; exact i32_nle (pos_N (by omega))
        rw [if_neg q6]
        rw [e1] at er hFc ⊢
        dsimp only at er hFc ⊢
        rw [if_pos er]
        exact ih _ _ _ _ _ (by omega) hFc hL hk
theorem sim_op_bestSpit (a : Int32) : SimOp SS (fun κ => f_L_bestSpit κ a) (fun κ => f_X5_bestSpit κ a) := by
  intro t κ ht hS k κ1 e
  obtain ⟨nf, ns, nr, a0, b0, c0, d0, e0, f0, g0⟩ := id hS
  obtain ⟨hnf, hns, hnr⟩ := b0.2.2.1
  by_cases c1 : a < 1
  · refine op_th (n := 1) (r0 := 0) (fL := fun κ => f_L_bestSpit κ a) (fX := fun κ => f_X5_bestSpit κ a) hS (by decide) ?_ ?_ th2 e
    · show f_L_bestSpit κ a = _
      unfold f_L_bestSpit f_X4_bestSpit f_X4_needPounds
      rw [if_pos c1]
      dsimp only
      rw [if_pos nIAE_eq]
    · show f_X5_bestSpit κ a = _
      unfold f_X5_bestSpit
      dsimp only
      rw [isIn_f1 c1, if_pos bi_f]
      rfl
  · by_cases c2 : a ≤ 12
    · obtain ⟨p, hp1, hp2, rfl⟩ := pounds_w c1 c2
      by_cases c : nr < 16
      · have k16 : κ 1 5 < 16 := by rw [b0.1.2.2]; exact (nIlt (a := nr) (b := 16) (by omega) (by decide)).mpr c
        obtain ⟨v, κc, hvc⟩ := pair_ex (lp_X4_bestSpit (nI p) 6 0 (-1) 201 κ)
        have hFc := FrK_lbestSpit (κ0 := κ) (nI p) 6 0 (-1) 201 κ FrK.rfl
        rw [hvc] at hFc
        refine op_l (κc := κc) (v := v) (fL := fun κ => f_L_bestSpit κ (nI p)) (fX := fun κ => f_X5_bestSpit κ (nI p)) hS hFc ?_ ?_ e
        · show f_L_bestSpit κ (nI p) = _
          unfold f_L_bestSpit f_X4_bestSpit f_X4_needPounds
          rw [if_neg c1, if_pos c2]
          dsimp only
          rw [if_pos k16, hvc]
        · intro m1 m0 hm0 r0 hS0
          have s92 : m0 92 = κ 92 := by rw [hm0, up2_row (by decide)]; exact r0 92 (by decide) (by omega)
          have s93 : m0 93 = κ 93 := by rw [hm0, up2_row (by decide)]; exact r0 93 (by decide) (by omega)
          have s96 : m0 96 = κ 96 := by rw [hm0, up2_row (by decide)]; exact r0 96 (by decide) (by omega)
          have s91 : ∀ j, 0 < j → m0 91 j = κ 91 j := fun j hj => by rw [hm0, up2_ne _ _ (Or.inr (by omega)), r0 91 (by decide) (by omega)]
          have h3 : m0 91 3 = nI nr := (s91 3 (by decide)).trans d0.1
          have hBm : Bs 1 nf ns nr κ m0 := Bs_m b0 (s91 1 (by decide)) (s91 2 (by decide)) s92 s93
          have hkeep : Lk m0 (f_X5_keep m0) := ⟨fun q _ _ _ _ q5 => keep_row q5, fun i nr _ _ _ => by rw [keep_row (by decide)], fun x hx => by rw [keep_row (by decide)]⟩
          obtain ⟨l1, l2⟩ := sim_lbestSpit (RX_row a0.1 s96) (Gs_row a0.2 s96) hBm h3 c0 (SS_MI hS0) c hp2 6 0 (-1) 201 κ (f_X5_keep m0) rfl FrK.rfl hkeep (fun x hx => keep_97 hx)
          rw [hvc] at l1
          obtain ⟨v', κm, hvm⟩ := pair_ex (lp_X5_bestSpit (nI p) 6 0 (-1) 201 (f_X5_keep m0))
          rw [hvm] at l1 l2
          refine ⟨κm, ?_, l2⟩
          show f_X5_bestSpit m1 (nI p) = _
          unfold f_X5_bestSpit
          rw [← hm0]
          dsimp only
          rw [isIn_t c1 c2, if_neg bi_t, h3, if_neg (fun q => by
            have := (nIeq (a := nr) (b := 16) (by omega) (by decide)).mp q
            omega), hvm]
          dsimp only at l1 ⊢
          rw [l1]
      · have e16 : nr = 16 := by omega
        subst e16
        have k16 : ¬ κ 1 5 < 16 := by rw [b0.1.2.2]; exact (by decide : ¬ nI 16 < 16)
        refine op_th (n := 2) (r0 := 0) (fL := fun κ => f_L_bestSpit κ (nI p)) (fX := fun κ => f_X5_bestSpit κ (nI p)) hS (by decide) ?_ ?_ th2 e
        · show f_L_bestSpit κ (nI p) = _
          unfold f_L_bestSpit f_X4_bestSpit f_X4_needPounds
          rw [if_neg c1, if_pos c2]
          dsimp only
          rw [if_neg k16]
          dsimp only
          rw [if_neg nISE_ne2]
        · show f_X5_bestSpit κ (nI p) = _
          unfold f_X5_bestSpit
          dsimp only
          have h1 : (up2 κ 91 0 0) 91 3 = 16 := by rw [up2_ne _ _ (Or.inr (by decide)), d0.1]; rfl
          rw [isIn_t c1 c2, if_neg bi_t, if_pos h1]
          rfl
    · refine op_th (n := 1) (r0 := 0) (fL := fun κ => f_L_bestSpit κ a) (fX := fun κ => f_X5_bestSpit κ a) hS (by decide) ?_ ?_ th2 e
      · show f_L_bestSpit κ a = _
        unfold f_L_bestSpit f_X4_bestSpit f_X4_needPounds
        rw [if_neg c1, if_neg c2]
        dsimp only
        rw [if_pos nIAE_eq]
      · show f_X5_bestSpit κ a = _
        unfold f_X5_bestSpit
        dsimp only
        rw [isIn_f2 c2, if_pos bi_f]
        rfl
