theorem up2_same {κ m : Kp} {q j : Nat} {v : Int32} (h : m q = κ q) : up2 m q j v q = up2 κ q j v q := by
  funext i
  rw [up2_at, up2_at, h]
theorem Gs_feet {nf ns nr : Nat} {μ : Nat → Int32} {m : Kp} {v : Int32} (h : Gs nf ns nr μ m) (hns : ns < 6) (hv : ∃ w : Nat, 1 ≤ w ∧ w ≤ 3 ∧ v = nI w) : Gs nf (ns + 1) nr μ (up2 m 96 (7 + 5 * ns) v) := by
  intro x hx
  by_cases ex : x = 7 + 5 * ns
  · rw [ex, up2_self]
    exact Gx_feet hns (fun _ => hv)
  · rw [up2_ne _ _ (Or.inr ex)]
    obtain ⟨a, b, c, d, e⟩ := h x hx
    refine ⟨a, b, fun i hi ei hn => c i hi ei (by omega), fun i hi ei => ?_, e⟩
    obtain ⟨q, q1, q2, q3⟩ := d i hi ei
    exact ⟨q, q1, q2, fun hn => q3 (by omega)⟩
theorem sim_op_addSpit (a b : Int32) : SimOp SS (fun κ => f_L_addSpit κ a b) (fun κ => f_X5_addSpit κ a b) := by
  intro t κ ht hS k κ1 e
  obtain ⟨nf, ns, nr, a0, b0, c0, d0, e0, f0, g0⟩ := id hS
  obtain ⟨hnf, hns, hnr⟩ := b0.2.2.1
  have h14 := b0.1.2.1
  rcases fire_cases a b0.1.1 b0.2.1.1 hnf with ⟨j, hj, rfl, hn, hf⟩ | ⟨hn, hf⟩
  · have hf2 : f_X5_isFire (up2 κ 91 0 0) (nI j) = true := hf
    by_cases c1 : b < 1
    · refine op_th (n := 2) (r0 := 0) (fL := fun κ => f_L_addSpit κ (nI j) b) (fX := fun κ => f_X5_addSpit κ (nI j) b) hS (by decide) ?_ ?_ th2 e
      · show f_L_addSpit κ (nI j) b = _
        unfold f_L_addSpit f_X4_addSpit
        rw [hn]
        dsimp only
        unfold f_X4_needFeet
        rw [if_pos c1]
        dsimp only
        rw [if_neg nIAE_ne, if_pos nIAE_eq]
      · show f_X5_addSpit κ (nI j) b = _
        unfold f_X5_addSpit
        dsimp only
        rw [hf2, if_neg bi_t, isIn_f1 c1, if_pos bi_f]
        rfl
    · by_cases c2 : b ≤ 3
      · by_cases c : ns < 6
        · have k0 : ¬ κ 1 4 < 0 := by rw [h14]; exact nI0 (by omega)
          have k6 : κ 1 4 < 6 := by rw [h14]; exact (nIlt (a := ns) (b := 6) (by omega) (by decide)).mpr c
          refine op_g (κc := up2 (up2 (up2 κ (1 + 7 + ns) 0 (nI j)) (1 + 7 + ns) 1 b) 1 4 (nI (ns + 1))) (v := nI ns) (fL := fun κ => f_L_addSpit κ (nI j) b) (fX := fun κ => f_X5_addSpit κ (nI j) b) hS (fun q hq => by rw [up2_row (by omega), up2_row (by omega), up2_row (by omega)]) ?_ ?_ e
          · show f_L_addSpit κ (nI j) b = _
            unfold f_L_addSpit f_X4_addSpit
            rw [hn]
            dsimp only
            unfold f_X4_needFeet
            rw [if_neg c1, if_pos c2]
            dsimp only
            have hp : f_X1_placeSpit κ 1 (nI j) b = (nI ns, up2 (up2 (up2 κ (1 + 7 + ns) 0 (nI j)) (1 + 7 + ns) 1 b) 1 4 (nI (ns + 1))) := by
              unfold f_X1_placeSpit
              rw [if_neg k0, if_pos k6]
              dsimp only
              rw [h14, nI_clamp (by omega)]
              have e4 : (up2 (up2 κ (1 + 7 + ns) 0 (nI j)) (1 + 7 + ns) 1 b) 1 4 = nI ns := by rw [up2_row (by omega), up2_row (by omega), h14]
              rw [e4, nI_1, up2_self, nI_less]
            rw [hp]
            dsimp only
            rw [if_neg (nI_n1 (by omega))]
          · intro m1 m0 hm1 hm0 r1 r2 rl
            have e912 : m0 91 2 = nI ns := (r2 2 (by decide)).trans b0.2.1.2
            have s96 : m0 96 = κ 96 := r1 96 (by decide) (by decide) (by decide)
            have s92 : m0 92 = κ 92 := r1 92 (by decide) (by decide) (by decide)
            have s93 : m0 93 = κ 93 := r1 93 (by decide) (by decide) (by decide)
            refine ⟨up2 (up2 (up2 m0 92 ns (nI j)) 96 (7 + 5 * ns) b) 91 2 (nI (ns + 1)), ?_, ⟨?_, ?_⟩, ?_⟩
            · show f_X5_addSpit m1 (nI j) b = _
              unfold f_X5_addSpit
              rw [← hm0]
              dsimp only
              rw [isFire_of hf (r2 1 (by decide)), if_neg bi_t, isIn_t c1 c2, if_neg bi_t, e912, if_neg (fun q => by
                have := (nIeq (a := ns) (b := 6) (by omega) (by decide)).mp q
                omega), nI_clamp (by omega), up2_row (show ¬ 91 = 92 by decide), e912]
              rw [show f_X5_letSpit (up2 m0 92 ns (nI j)) (nI ns) 0 b = up2 (up2 m0 92 ns (nI j)) 96 (7 + 5 * ns) b from letSpit_N (w := 0) (by omega) (by decide)]
              rw [up2_row (show ¬ 91 = 96 by decide), up2_row (show ¬ 91 = 92 by decide), e912, nI_1, up2_self, nI_less]
            · rw [up2_ne _ _ (Or.inr (by decide)), up2_row (by decide), up2_row (by decide)]
            · rw [up2_row (by decide), up2_row (by decide), up2_row (by decide)]
            · generalize hκm : up2 (up2 (up2 m0 92 ns (nI j)) 96 (7 + 5 * ns) b) 91 2 (nI (ns + 1)) = κm
              generalize hκc : up2 (up2 (up2 κ (1 + 7 + ns) 0 (nI j)) (1 + 7 + ns) 1 b) 1 4 (nI (ns + 1)) = κc at rl
              have e93 : κm 93 = κ 93 := by rw [← hκm, up2_row (by decide), up2_row (by decide), up2_row (by decide), s93]
              have e91 : ∀ q, 0 < q → ¬ q = 2 → κm 91 q = κ 91 q := fun q h0 hq => by rw [← hκm, up2_ne _ _ (Or.inr hq), up2_row (by decide), up2_row (by decide), r2 q h0]
              have e92n : κm 92 ns = nI j := by rw [← hκm, up2_row (by decide), up2_row (by decide), up2_self]
              have e92o : ∀ i, ¬ i = ns → κm 92 i = κ 92 i := fun i hi => by rw [← hκm, up2_row (by decide), up2_row (by decide), up2_ne _ _ (Or.inr hi), s92]
              have hc : ∀ q, ¬ q = 1 → ¬ q = 1 + 7 + ns → κc q = κ q := fun q h1 h2 => by rw [← hκc, up2_row h1, up2_row h2, up2_row h2]
              have hc1 : ∀ q, ¬ q = 4 → κc 1 q = κ 1 q := fun q h1 => by rw [← hκc, up2_ne _ _ (Or.inr h1), up2_row (by omega), up2_row (by omega)]
              have hcn : κc (1 + 7 + ns) 0 = nI j := by rw [← hκc, up2_row (by omega), up2_ne _ _ (Or.inr (by decide)), up2_self]
              obtain ⟨⟨b1, b2, b3⟩, -⟩ := oC_spit ns c
              have hR : RX 1 κc κm := by
                have h1 : RX 1 (up2 κ (1 + (7 + ns)) 0 (nI j)) κ := RX_upC a0.1 (oC_noS ns c)
                have h2 := RX_up (x := 7 + 5 * ns) (v := b) (w := b) h1 (by omega) (by unfold dj; rw [b3]; rfl)
                rw [b1, b2] at h2
                have h3 := RX_upC (o := 0) (f := 4) (v := nI (ns + 1)) h2 oC_no04
                rw [show 1 + (7 + ns) = 1 + 7 + ns by omega] at h3
                rw [← hκc]
                refine RX_row h3 ?_
                rw [← hκm, up2_row (by decide)]
                exact up2_same ((up2_row (by decide)).trans s96)
              have hG : Gs nf (ns + 1) nr (κ 96) κm := by
                refine Gs_row (Gs_feet a0.2 c (feet_w c1 c2)) ?_
                rw [← hκm, up2_row (by decide)]
                exact up2_same ((up2_row (by decide)).trans s96)
              have e96 : κm 96 0 = κ 96 0 := by rw [← hκm, up2_row (by decide), up2_ne _ _ (Or.inr (by omega)), up2_row (by decide), s96]
              refine SS_mk (nf := nf) (ns := ns + 1) (nr := nr) (κc := κc) (fun q hq => ?_) hR hG ⟨⟨(hc1 3 (by decide)).trans b0.1.1, ?_, (hc1 5 (by decide)).trans b0.1.2.2⟩, ⟨(e91 1 (by decide) (by decide)).trans b0.2.1.1, ?_⟩, ⟨hnf, c, hnr⟩, fun i hi => ?_, fun i hi => ?_, fun i hi => ?_⟩ (fun f hf => ?_) ((e91 3 (by decide) (by decide)).trans d0.1) ?_ (by rw [e91 4 (by decide) (by decide)]; exact e0) (by rw [e96]; exact ⟨f0.1, by omega⟩) (fun i hi => ?_)
              · rw [← hκm, up2_row (by omega), up2_row (by omega), up2_row (by omega)]; exact rl q hq
              · rw [← hκc, up2_self]
              · rw [← hκm, up2_self]
              · by_cases ei : i = ns
                · subst ei; rw [hcn, e92n]
                · rw [hc _ (by omega) (by omega), e92o i ei]; exact b0.2.2.2.1 i hi
              · by_cases ei : i = ns
                · subst ei; exact ⟨j, hj, e92n⟩
                · rw [e92o i ei]; exact b0.2.2.2.2.1 i (by omega)
              · rw [hc _ (by omega) (by omega), e93]; exact b0.2.2.2.2.2 i hi
              · rw [hc _ (by omega) (by omega)]; exact c0 f hf
              · rw [hc1 7 (by decide), e91 4 (by decide) (by decide)]; exact d0.2
              · by_cases ei : i = ns
                · subst ei; rw [e92n]; exact vp_in_nI (by omega) (by decide)
                · rw [e92o i ei]; exact g0 i hi
        · have e6 : ns = 6 := by omega
          subst e6
          have k0 : ¬ κ 1 4 < 0 := by rw [h14]; exact (by decide : ¬ nI 6 < 0)
          have k6 : ¬ κ 1 4 < 6 := by rw [h14]; exact (by decide : ¬ nI 6 < 6)
          refine op_th (n := 3) (r0 := 0) (fL := fun κ => f_L_addSpit κ (nI j) b) (fX := fun κ => f_X5_addSpit κ (nI j) b) hS (by decide) ?_ ?_ th2 e
          · show f_L_addSpit κ (nI j) b = _
            unfold f_L_addSpit f_X4_addSpit
            rw [hn]
            dsimp only
            unfold f_X4_needFeet
            rw [if_neg c1, if_pos c2]
            dsimp only
            unfold f_X1_placeSpit
            rw [if_neg k0, if_neg k6]
            dsimp only
            rw [if_pos rfl]
            dsimp only
            rw [if_neg nISE_ne, if_neg nISE_ne2]
          · show f_X5_addSpit κ (nI j) b = _
            unfold f_X5_addSpit
            dsimp only
            have h1 : (up2 κ 91 0 0) 91 2 = 6 := by rw [up2_ne _ _ (Or.inr (by decide)), b0.2.1.2]; rfl
            rw [hf2, if_neg bi_t, isIn_t c1 c2, if_neg bi_t, if_pos h1]
            rfl
      · refine op_th (n := 2) (r0 := 0) (fL := fun κ => f_L_addSpit κ (nI j) b) (fX := fun κ => f_X5_addSpit κ (nI j) b) hS (by decide) ?_ ?_ th2 e
        · show f_L_addSpit κ (nI j) b = _
          unfold f_L_addSpit f_X4_addSpit
          rw [hn]
          dsimp only
          unfold f_X4_needFeet
          rw [if_neg c1, if_neg c2]
          dsimp only
          rw [if_neg nIAE_ne, if_pos nIAE_eq]
        · show f_X5_addSpit κ (nI j) b = _
          unfold f_X5_addSpit
          dsimp only
          rw [hf2, if_neg bi_t, isIn_f2 c2, if_pos bi_f]
          rfl
  · refine op_th (n := 1) (r0 := 0) (fL := fun κ => f_L_addSpit κ a b) (fX := fun κ => f_X5_addSpit κ a b) hS (by decide) ?_ ?_ th2 e
    · show f_L_addSpit κ a b = _
      unfold f_L_addSpit f_X4_addSpit
      rw [hn]
      dsimp only
      rw [if_pos nIOE_eq]
    · show f_X5_addSpit κ a b = _
      unfold f_X5_addSpit
      dsimp only
      have hf2 : f_X5_isFire (up2 κ 91 0 0) a = false := hf
      rw [hf2, if_pos bi_f]
      rfl
/-- the places of a roast not yet hung are 0: to clear them is nothing -/
theorem lhang_id {a b : Int32} {nr : Nat} (hn : nr < 16) : ∀ (n j : Nat) (κ : Kp), j + n = 8 → κ 91 3 = nI nr → (∀ w, w < 8 → κ 96 (37 + 8 * nr + w) = 0) → lp_X5_hangNext a b n j κ = κ := by
  intro n
  induction n with
  | zero => intro j κ hj h1 h2; rfl
  | succ n ih =>
    intro j κ hj h1 h2
    rw [lp_X5_hangNext]
    dsimp only
    rw [h1, let_N (i := nr) (w := j) hn (by omega), up2_id (h2 j (by omega))]
    exact ih (j + 1) κ (by omega) h1 h2
theorem mul3 (p : Nat) : (3 * nI p : Int32) = nI (3 * p) := pk_mul 3 p
set_option maxRecDepth 100000 in
/-- a roast hung, in the class and in the reference -/
theorem sim_hang {k nf ns nr i p : Nat} {μ : Nat → Int32} {κ m : Kp} (hB : Bs k nf ns nr κ m) (hR : RX k κ m) (hG : Gs nf ns nr μ m) (h93 : m 91 3 = nI nr) (hn : nr < 16) (hi : i < ns) (h0 : m 96 (7 + 5 * i + 2) = 0) (hp : p ≤ 12) : ∃ κc κm, f_X1_placeRoast κ k (nI i) (nI p) = (nI nr, κc) ∧ f_X5_hangNext m (nI i) (nI p) = κm ∧ (RX k κc κm ∧ Gs nf ns (nr + 1) μ κm) ∧ Bs k nf ns (nr + 1) κc κm ∧ FrK k κ κc ∧ (∀ f, f < 3 → κc (k + 4 + f) 2 = κ (k + 4 + f) 2) ∧ κc k 7 = κ k 7 ∧ (∀ q, ¬ q = 93 → ¬ q = 96 → κm q = m q) ∧ (∀ j, ¬ j = nr → κm 93 j = m 93 j) ∧ κm 96 0 = m 96 0 := by
  obtain ⟨hnf, hns, hnr⟩ := hB.2.2.1
  have hi6 : i < 6 := by omega
  have hS5 : κ (k + 7 + i) 5 = -1 := by rw [(RX_spit hR hi6).2.2.1, h0]; rfl
  have k0 : ¬ κ k 5 < 0 := by rw [hB.1.2.2]; exact nI0 (by omega)
  have k16 : κ k 5 < 16 := by rw [hB.1.2.2]; exact (nIlt (a := nr) (b := 16) (by omega) (by decide)).mpr hn
  refine ⟨up2 (up2 (up2 (up2 (up2 (up2 κ (k + 13 + 2 * nr) 1 (nI p)) (k + 13 + 2 * nr) 4 (3 * nI p)) (k + 13 + 2 * nr) 2 (nI i)) (k + 7 + i) 5 (nI nr)) (k + 7 + i) 3 0) k 5 (nI (nr + 1)), up2 (up2 (up2 (up2 (up2 m 93 nr (nI p)) 96 (37 + 8 * nr) (nI (i + 1))) 96 (37 + 8 * nr + 2) (3 * nI p)) 96 (7 + 5 * i + 2) (nI (nr + 1))) 96 (7 + 5 * i + 3) 0, ?_, ?_, ⟨?_, ?_⟩, ?_, ?_, ?_, ?_, ?_, ?_, ?_⟩
  · unfold f_X1_placeRoast
    rw [spitAt_N hB.1.2.1 hi hns]
    dsimp only
    rw [if_pos hS5, if_neg k0, if_pos k16]
    try dsimp only
    rw [hB.1.2.2, nI_clamp (by omega)]
    have e5 : (up2 (up2 (up2 κ (k + 13 + 2 * nr) 1 (nI p)) (k + 13 + 2 * nr) 4 (3 * nI p)) (k + 13 + 2 * nr) 2 (nI i)) k 5 = nI nr := by
      rw [up2_row (by omega), up2_row (by omega), up2_row (by omega), hB.1.2.2]
    rw [e5]
    have e6 : (up2 (up2 (up2 (up2 (up2 κ (k + 13 + 2 * nr) 1 (nI p)) (k + 13 + 2 * nr) 4 (3 * nI p)) (k + 13 + 2 * nr) 2 (nI i)) (k + 7 + i) 5 (nI nr)) (k + 7 + i) 3 0) k 5 = nI nr := by
      rw [up2_row (by omega), up2_row (by omega), e5]
    rw [e6, nI_1, up2_row (by omega), up2_ne _ _ (Or.inr (by decide)), up2_self]
  · unfold f_X5_hangNext
    rw [h93, nI_clamp (by omega)]
    dsimp only
    have e1 : (up2 m 93 nr (nI p)) 91 3 = nI nr := by rw [up2_row (by decide), h93]
    have e2 : ∀ w, w < 8 → (up2 m 93 nr (nI p)) 96 (37 + 8 * nr + w) = 0 := fun w hw => by
      rw [up2_row (by decide)]
      exact ((hG (37 + 8 * nr + w) (by omega)).2.2.2.2 nr hn w hw rfl).1 (Nat.le_refl _)
    rw [lhang_id hn 8 0 _ rfl e1 e2, e1]
    rw [show f_X5_let (up2 m 93 nr (nI p)) (nI nr) 0 (nI i + 1) = up2 (up2 m 93 nr (nI p)) 96 (37 + 8 * nr) (nI i + 1) from let_N (w := 0) hn (by decide), nI_1]
    have e3 : (up2 (up2 m 93 nr (nI p)) 96 (37 + 8 * nr) (nI (i + 1))) 91 3 = nI nr := by rw [up2_row (by decide), e1]
    rw [e3]
    rw [show f_X5_let (up2 (up2 m 93 nr (nI p)) 96 (37 + 8 * nr) (nI (i + 1))) (nI nr) 2 (3 * nI p) = up2 (up2 (up2 m 93 nr (nI p)) 96 (37 + 8 * nr) (nI (i + 1))) 96 (37 + 8 * nr + 2) (3 * nI p) from let_N (w := 2) hn (by decide)]
    have e4 : (up2 (up2 (up2 m 93 nr (nI p)) 96 (37 + 8 * nr) (nI (i + 1))) 96 (37 + 8 * nr + 2) (3 * nI p)) 91 3 = nI nr := by rw [up2_row (by decide), e3]
    rw [e4, nI_1]
    rw [show f_X5_letSpit (up2 (up2 (up2 m 93 nr (nI p)) 96 (37 + 8 * nr) (nI (i + 1))) 96 (37 + 8 * nr + 2) (3 * nI p)) (nI i) 2 (nI (nr + 1)) = up2 (up2 (up2 (up2 m 93 nr (nI p)) 96 (37 + 8 * nr) (nI (i + 1))) 96 (37 + 8 * nr + 2) (3 * nI p)) 96 (7 + 5 * i + 2) (nI (nr + 1)) from letSpit_N (w := 2) hi6 (by decide)]
    exact letSpit_N (w := 3) hi6 (by decide)
  · obtain ⟨-, -, ⟨s1, s2, s3⟩, ⟨t1, t2, t3⟩, -⟩ := oC_spit i hi6
    obtain ⟨o1, o2, o3⟩ := (oC_roast nr hn).1 0 (by decide)
    obtain ⟨p1, p2, p3⟩ := (oC_roast nr hn).1 2 (by decide)
    have h1 : RX k (up2 κ (k + (13 + 2 * nr)) 1 (nI p)) (up2 m 93 nr (nI p)) := RX_upM (RX_upC hR (oC_noR nr hn)) (by decide)
    have h2 := RX_up (x := 37 + 8 * nr + 0) (v := nI i) (w := nI (i + 1)) h1 (by omega) (by unfold dj; rw [o3]; exact nI_less.symm)
    rw [o1, o2] at h2
    have h3 := RX_up (x := 37 + 8 * nr + 2) (v := 3 * nI p) (w := 3 * nI p) h2 (by omega) (by unfold dj; rw [p3]; rfl)
    rw [p1, p2] at h3
    have h4 := RX_up (x := 7 + 5 * i + 2) (v := nI nr) (w := nI (nr + 1)) h3 (by omega) (by unfold dj; rw [s3]; exact nI_less.symm)
    rw [s1, s2] at h4
    have h5 := RX_up (x := 7 + 5 * i + 3) (v := 0) (w := 0) h4 (by omega) (by unfold dj; rw [t3]; rfl)
    rw [t1, t2] at h5
    have h6 := RX_upC (o := 0) (f := 5) (v := nI (nr + 1)) h5 oC_no05
    rw [show k + (13 + 2 * nr) = k + 13 + 2 * nr by omega, show k + (7 + i) = k + 7 + i by omega, show k + 0 = k by omega] at h6
    rw [up2_comm (κ := up2 κ (k + 13 + 2 * nr) 1 (nI p)) (k1 := k + 13 + 2 * nr) (j1 := 4) (k2 := k + 13 + 2 * nr) (j2 := 2) (v1 := 3 * nI p) (v2 := nI i) (by omega)]
    exact h6
  · have g1 : Gs nf ns (nr + 1) μ (up2 m 93 nr (nI p)) := Gs_upM (Gs_mono hG (Nat.le_refl _) (by omega)) (by decide)
    have g2 := Gs_up g1 (Gx_roast (i := nr) (w := 0) (v := nI (i + 1)) hn (by decide) (fun q => by omega) (fun q => by omega) (fun q => by omega) (fun q => by omega))
    have g3 := Gs_up g2 (Gx_roast (i := nr) (w := 2) (v := 3 * nI p) hn (by decide) (fun q => by omega) (fun q => by omega) (fun q => by
      rw [mul3]
      exact (nIle (a := 0) (b := 3 * p) (by decide) (by omega)).mpr (by omega)) (fun q => by omega))
    have g4 := Gs_up g3 (Gx_holds (i := i) (h := nr + 1) hi6 (Nat.le_refl _) (fun q => by omega))
    exact Gs_up g4 (Gx_spit hi6 (Or.inr (Or.inl rfl)))
  · refine ⟨⟨?_, ?_, up2_self _ _ _ _⟩, ⟨?_, ?_⟩, ⟨hnf, hns, by omega⟩, fun j hj => ?_, fun j hj => ?_, fun j hj => ?_⟩
    · rw [up2_ne _ _ (Or.inr (by decide)), up2_row (by omega), up2_row (by omega), up2_row (by omega), up2_row (by omega), up2_row (by omega)]; exact hB.1.1
    · rw [up2_ne _ _ (Or.inr (by decide)), up2_row (by omega), up2_row (by omega), up2_row (by omega), up2_row (by omega), up2_row (by omega)]; exact hB.1.2.1
    · rw [up2_row (by decide), up2_row (by decide), up2_row (by decide), up2_row (by decide), up2_row (by decide)]; exact hB.2.1.1
    · rw [up2_row (by decide), up2_row (by decide), up2_row (by decide), up2_row (by decide), up2_row (by decide)]; exact hB.2.1.2
    · rw [up2_row (by omega), up2_ne _ _ (Or.inr (by decide)), up2_ne _ _ (Or.inr (by decide)), up2_row (by omega), up2_row (by omega), up2_row (by omega), up2_row (show ¬ 92 = 96 by decide), up2_row (show ¬ 92 = 96 by decide), up2_row (show ¬ 92 = 96 by decide), up2_row (show ¬ 92 = 96 by decide), up2_row (show ¬ 92 = 93 by decide)]; exact hB.2.2.2.1 j hj
    · rw [up2_row (show ¬ 92 = 96 by decide), up2_row (show ¬ 92 = 96 by decide), up2_row (show ¬ 92 = 96 by decide), up2_row (show ¬ 92 = 96 by decide), up2_row (show ¬ 92 = 93 by decide)]; exact hB.2.2.2.2.1 j hj
    · rw [up2_row (show ¬ 93 = 96 by decide), up2_row (show ¬ 93 = 96 by decide), up2_row (show ¬ 93 = 96 by decide), up2_row (show ¬ 93 = 96 by decide), up2_row (by omega), up2_row (by omega), up2_row (by omega), up2_ne _ _ (Or.inr (by decide)), up2_ne _ _ (Or.inr (by decide))]
      by_cases ej : j = nr
      · subst ej; rw [up2_self, up2_self]
      · rw [up2_row (by omega), up2_ne _ _ (Or.inr ej)]; exact hB.2.2.2.2.2 j (by omega)
  · exact (((((FrK.rfl.up (by omega)).up (by omega)).up (by omega)).up (by omega)).up (by omega)).up (by omega)
  · intro f hf
    rw [up2_row (by omega), up2_row (by omega), up2_row (by omega), up2_row (by omega), up2_row (by omega), up2_row (by omega)]
  · rw [up2_ne _ _ (Or.inr (by decide)), up2_row (by omega), up2_row (by omega), up2_row (by omega), up2_row (by omega), up2_row (by omega)]
  · intro q h1 h2
    rw [up2_row h2, up2_row h2, up2_row h2, up2_row h2, up2_row h1]
  · intro j hj
    rw [up2_row (by decide), up2_row (by decide), up2_row (by decide), up2_row (by decide), up2_ne _ _ (Or.inr hj)]
  · rw [up2_ne _ _ (Or.inr (by omega)), up2_ne _ _ (Or.inr (by omega)), up2_ne _ _ (Or.inr (by omega)), up2_ne _ _ (Or.inr (by omega)), up2_row (by decide)]
