theorem Gx_each {nf ns nr i : Nat} {m : Nat → Int32} {v : Int32} (hi : i < 6) : Gx nf ns nr m (7 + 5 * i + 4) v := Gx_spit hi (Or.inr (Or.inr rfl))
theorem J_feet {k nf ns nr i : Nat} {κ0 m0 κc κm : Kp} {v : Int32} (h : J k nf ns nr κ0 m0 κc κm) (hi : i < 6) (hv : i < ns → ∃ w : Nat, 1 ≤ w ∧ w ≤ 3 ∧ v = nI w) : J k nf ns nr κ0 m0 (up2 κc (k + 7 + i) 1 v) (up2 κm 96 (7 + 5 * i) v) := by
  obtain ⟨⟨b1, b2, b3⟩, -⟩ := oC_spit i hi
  have h1 := J_up (x := 7 + 5 * i) (v := v) (w := v) h (by omega) (by unfold dj; rw [b3]; rfl) (Gx_feet hi hv)
  rw [b1, b2] at h1
  rw [show k + 7 + i = k + (7 + i) by omega]
  exact h1
theorem J_each {k nf ns nr i : Nat} {κ0 m0 κc κm : Kp} {v : Int32} (h : J k nf ns nr κ0 m0 κc κm) (hi : i < 6) : J k nf ns nr κ0 m0 (up2 κc (k + 7 + i) 2 v) (up2 κm 96 (7 + 5 * i + 4) v) := by
  obtain ⟨-, -, -, -, ⟨b1, b2, b3⟩⟩ := oC_spit i hi
  have h1 := J_up (x := 7 + 5 * i + 4) (v := v) (w := v) h (by omega) (by unfold dj; rw [b3]; rfl) (Gx_each hi)
  rw [b1, b2] at h1
  rw [show k + 7 + i = k + (7 + i) by omega]
  exact h1
theorem J_free {k nf ns nr i : Nat} {κ0 m0 κc κm : Kp} (h : J k nf ns nr κ0 m0 κc κm) (hi : i < 6) : J k nf ns nr κ0 m0 (up2 κc (k + 7 + i) 5 (-1)) (up2 κm 96 (7 + 5 * i + 2) 0) := by
  obtain ⟨-, -, ⟨b1, b2, b3⟩, -⟩ := oC_spit i hi
  have h1 := J_up (x := 7 + 5 * i + 2) (v := -1) (w := 0) h (by omega) (by unfold dj; rw [b3]; rfl) (Gx_holds (h := 0) hi (by omega) (fun _ => rfl))
  rw [b1, b2] at h1
  rw [show k + 7 + i = k + (7 + i) by omega]
  exact h1
theorem J_off {k nf ns nr i : Nat} {κ0 m0 κc κm : Kp} (h : J k nf ns nr κ0 m0 κc κm) (hi : i < 16) : J k nf ns nr κ0 m0 (up2 κc (k + 13 + 2 * i) 2 (-1)) (up2 κm 96 (37 + 8 * i) 0) := by
  obtain ⟨e1, e2, e3⟩ := (oC_roast i hi).1 0 (by omega)
  have h1 := J_up (x := 37 + 8 * i + 0) (v := -1) (w := 0) h (by omega) (by unfold dj; rw [e3]; rfl) (Gx_roast hi (by decide) (fun _ => rfl) (fun q => by omega) (fun q => by omega) (fun q => by omega))
  rw [e1, e2] at h1
  rw [show k + 13 + 2 * i = k + (13 + 2 * i) by omega]
  exact h1
theorem feet_w {b : Int32} (c1 : ¬ b < 1) (c2 : b ≤ 3) : ∃ w : Nat, 1 ≤ w ∧ w ≤ 3 ∧ b = nI w := by
  rw [Int32.lt_iff_toInt_lt, show (1 : Int32).toInt = 1 from rfl] at c1
  rw [Int32.le_iff_toInt_le, show (3 : Int32).toInt = 3 from rfl] at c2
  refine ⟨b.toInt.toNat, by omega, by omega, ?_⟩
  apply Int32.toInt_inj.mp
  rw [nI_toInt (by omega)]; omega
theorem holds_1 {κ : Kp} {a : Int32} (h : f_X5_isSpit κ a = false) : f_X5_holds κ a = (bi false, up2 κ 91 0 1) := by
  unfold f_X5_holds
  rw [h, if_pos bi_f]
theorem holds_2 {κ : Kp} {a : Int32} (h : f_X5_isSpit κ a = true) (h2 : f_X5_sp κ a 2 = 0) : f_X5_holds κ a = (bi false, up2 κ 91 0 2) := by
  unfold f_X5_holds
  rw [h, if_neg bi_t, if_pos h2]
theorem holds_3 {κ : Kp} {a : Int32} (h : f_X5_isSpit κ a = true) (h2 : ¬ f_X5_sp κ a 2 = 0) : f_X5_holds κ a = (bi true, up2 κ 91 0 0) := by
  unfold f_X5_holds
  rw [h, if_neg bi_t, if_neg h2]
theorem nI_less {h : Nat} : (nI (h + 1) - 1 : Int32) = nI h := nI_pred h
theorem roastOf_cases {κ : Kp} {nf ns nr : Nat} (b : Bs 1 nf ns nr κ κ) (hJ : J 1 nf ns nr κ κ κ κ) {i : Nat} (hi : i < 6) : (∃ h, h < nr ∧ f_X4_needRoastOf κ (1 + 7 + i) = .inr (1 + 13 + 2 * h) ∧ κ (1 + 7 + i) 5 = nI h ∧ κ 96 (7 + 5 * i + 2) = nI (h + 1)) ∨ (f_X4_needRoastOf κ (1 + 7 + i) = .inl (nISE, κ) ∧ κ 96 (7 + 5 * i + 2) = 0) := by
  obtain ⟨hd, h1, h2, h3, h4⟩ := J_holds hJ hi
  have hnr := b.2.2.1.2.2
  cases hd with
  | zero =>
    refine Or.inr ⟨?_, h2⟩
    unfold f_X4_needRoastOf
    rw [h3]
    rfl
  | succ h =>
    rw [nI_less] at h3
    refine Or.inl ⟨h, by omega, ?_, h3, h2⟩
    unfold f_X4_needRoastOf
    rw [h3, roastAt_N b.1.2.2 (r := h) (by omega) hnr]
theorem nI_nz {h : Nat} (hh : h < 2 ^ 30) : ¬ nI (h + 1) = 0 := fun q => by
  have := (nIeq (a := h + 1) (b := 0) (by omega) (by decide)).mp q
  omega
theorem sim_op_layLogs (a b : Int32) : SimOp SS (fun κ => f_L_layLogs κ a b) (fun κ => f_X5_layLogs κ a b) := by
  intro t κ ht hS k κ1 e
  obtain ⟨nf, ns, nr, a0, b0, c0, d0, e0, f0, g0⟩ := id hS
  obtain ⟨hnf, hns, hnr⟩ := b0.2.2.1
  rcases fire_cases a b0.1.1 b0.2.1.1 hnf with ⟨i, hi, rfl, hn, hf⟩ | ⟨hn, hf⟩
  · by_cases c1 : b < 1
    · refine op_th (n := 2) (r0 := 0) (fL := fun κ => f_L_layLogs κ (nI i) b) (fX := fun κ => f_X5_layLogs κ (nI i) b) hS (by decide) ?_ ?_ th2 e
      · show f_L_layLogs κ (nI i) b = _
        unfold f_L_layLogs f_X4_layLogs
        rw [hn]
        dsimp only
        rw [if_pos c1]
        dsimp only
        rw [if_neg nIAE_ne]
      · show f_X5_layLogs κ (nI i) b = _
        unfold f_X5_layLogs
        dsimp only
        have hf2 : f_X5_isFire (up2 κ 91 0 0) (nI i) = true := hf
        rw [hf2, if_neg bi_t, isIn_f1 c1, if_pos bi_f]
        rfl
    · by_cases c2 : b ≤ 40
      · obtain ⟨w, hw⟩ : ∃ w : Int32, w = (if κ (1 + 4 + i) 0 + b < 40 then κ (1 + 4 + i) 0 + b else 40) := ⟨_, rfl⟩
        refine op_ch (κc := up2 κ (1 + 4 + i) 0 w) (v := w) (fL := fun κ => f_L_layLogs κ (nI i) b) (fX := fun κ => f_X5_layLogs κ (nI i) b) hS a0 b0 d0 e0 g0 (FrK.rfl.up (by omega)) ?_ ?_ e
        · show f_L_layLogs κ (nI i) b = _
          unfold f_L_layLogs f_X4_layLogs
          rw [hn]
          dsimp only
          rw [if_neg c1, if_pos c2]
          dsimp only
          rw [← hw, up2_self]
        · intro m1 m0 hm1 hm0 r1 r2 hB hJ
          have e96 := r1 96 (by decide) (by decide) (by decide)
          have hv : κ (1 + 4 + i) 0 = κ 96 (1 + 2 * i) := RX_fire a0.1 (i := i) (j := 0) (by omega) (by decide)
          refine ⟨up2 m0 96 (1 + 2 * i) w, ?_, J_fire (j := 0) hJ (by omega) (by decide) (Gx_logs (by omega) (fun q => by omega)), fun f hf => ?_, ?_, ?_⟩
          · show f_X5_layLogs m1 (nI i) b = _
            unfold f_X5_layLogs
            rw [← hm0]
            try dsimp only
            rw [isFire_of hf (r2 1 (by decide)), if_neg bi_t, isIn_t c1 c2, if_neg bi_t]
            rw [show f_X5_fi m0 (nI i) 0 = m0 96 (1 + 2 * i) from fi_N (w := 0) (by omega) (by decide), e96, ← hv, ← hw]
            rw [show f_X5_letFire m0 (nI i) 0 w = up2 m0 96 (1 + 2 * i) w from letFire_N (w := 0) (by omega) (by decide)]
            try dsimp only
            rw [show f_X5_fi (up2 m0 96 (1 + 2 * i) w) (nI i) 0 = (up2 m0 96 (1 + 2 * i) w) 96 (1 + 2 * i) from fi_N (w := 0) (by omega) (by decide), up2_self]
          · rw [up2_ne κ _ (Or.inr (by decide))]; exact c0 f hf
          · rw [up2_ne _ _ (Or.inr (by omega)), e96]; exact f0.1
          · rw [up2_ne _ _ (Or.inr (by omega)), e96]; have := f0.2; omega
      · refine op_th (n := 2) (r0 := 0) (fL := fun κ => f_L_layLogs κ (nI i) b) (fX := fun κ => f_X5_layLogs κ (nI i) b) hS (by decide) ?_ ?_ th2 e
        · show f_L_layLogs κ (nI i) b = _
          unfold f_L_layLogs f_X4_layLogs
          rw [hn]
          dsimp only
          rw [if_neg c1, if_neg c2]
          dsimp only
          rw [if_neg nIAE_ne]
        · show f_X5_layLogs κ (nI i) b = _
          unfold f_X5_layLogs
          dsimp only
          have hf2 : f_X5_isFire (up2 κ 91 0 0) (nI i) = true := hf
          rw [hf2, if_neg bi_t, isIn_f2 c2, if_pos bi_f]
          rfl
  · refine op_th (n := 1) (r0 := 0) (fL := fun κ => f_L_layLogs κ a b) (fX := fun κ => f_X5_layLogs κ a b) hS (by decide) ?_ ?_ th2 e
    · show f_L_layLogs κ a b = _
      unfold f_L_layLogs f_X4_layLogs
      rw [hn]
      dsimp only
      rw [if_pos nIOE_eq]
    · show f_X5_layLogs κ a b = _
      unfold f_X5_layLogs
      dsimp only
      have hf2 : f_X5_isFire (up2 κ 91 0 0) a = false := hf
      rw [hf2, if_pos bi_f]
      rfl
theorem sim_op_moveSpit (a b : Int32) : SimOp SS (fun κ => f_L_moveSpit κ a b) (fun κ => f_X5_moveSpit κ a b) := by
  intro t κ ht hS k κ1 e
  obtain ⟨nf, ns, nr, a0, b0, c0, d0, e0, f0, g0⟩ := id hS
  obtain ⟨hnf, hns, hnr⟩ := b0.2.2.1
  rcases spit_cases a b0.1.2.1 b0.2.1.2 hns with ⟨i, hi, rfl, hn, hf⟩ | ⟨hn, hf⟩
  · by_cases c1 : b < 1
    · refine op_th (n := 2) (r0 := 0) (fL := fun κ => f_L_moveSpit κ (nI i) b) (fX := fun κ => f_X5_moveSpit κ (nI i) b) hS (by decide) ?_ ?_ th2 e
      · show f_L_moveSpit κ (nI i) b = _
        unfold f_L_moveSpit f_X4_moveSpit
        rw [hn]
        dsimp only
        unfold f_X4_needFeet
        rw [if_pos c1]
        dsimp only
        rw [if_neg nIAE_ne]
      · show f_X5_moveSpit κ (nI i) b = _
        unfold f_X5_moveSpit
        dsimp only
        have hf2 : f_X5_isSpit (up2 κ 91 0 0) (nI i) = true := hf
        rw [hf2, if_neg bi_t, isIn_f1 c1, if_pos bi_f]
        rfl
    · by_cases c2 : b ≤ 3
      · have hv : κ (1 + 7 + i) 1 = κ 96 (7 + 5 * i) := (RX_spit a0.1 (i := i) (by omega)).1
        refine op_ch (κc := up2 κ (1 + 7 + i) 1 b) (v := κ (1 + 7 + i) 1) (fL := fun κ => f_L_moveSpit κ (nI i) b) (fX := fun κ => f_X5_moveSpit κ (nI i) b) hS a0 b0 d0 e0 g0 (FrK.rfl.up (by omega)) ?_ ?_ e
        · show f_L_moveSpit κ (nI i) b = _
          unfold f_L_moveSpit f_X4_moveSpit
          rw [hn]
          dsimp only
          unfold f_X4_needFeet
          rw [if_neg c1, if_pos c2]
        · intro m1 m0 hm1 hm0 r1 r2 hB hJ
          have e96 := r1 96 (by decide) (by decide) (by decide)
          refine ⟨up2 m0 96 (7 + 5 * i) b, ?_, J_feet hJ (by omega) (fun _ => feet_w c1 c2), fun f hf => ?_, ?_, ?_⟩
          · show f_X5_moveSpit m1 (nI i) b = _
            unfold f_X5_moveSpit
            rw [← hm0]
            try dsimp only
            rw [isSpit_of hf (r2 2 (by decide)), if_neg bi_t, isIn_t c1 c2, if_neg bi_t]
            rw [show f_X5_sp m0 (nI i) 0 = m0 96 (7 + 5 * i) from sp_N (w := 0) (by omega) (by decide), e96, hv]
            rw [show f_X5_letSpit m0 (nI i) 0 b = up2 m0 96 (7 + 5 * i) b from letSpit_N (w := 0) (by omega) (by decide)]
          · rw [up2_row (by omega)]; exact c0 f hf
          · rw [up2_ne _ _ (Or.inr (by omega)), e96]; exact f0.1
          · rw [up2_ne _ _ (Or.inr (by omega)), e96]; have := f0.2; omega
      · refine op_th (n := 2) (r0 := 0) (fL := fun κ => f_L_moveSpit κ (nI i) b) (fX := fun κ => f_X5_moveSpit κ (nI i) b) hS (by decide) ?_ ?_ th2 e
        · show f_L_moveSpit κ (nI i) b = _
          unfold f_L_moveSpit f_X4_moveSpit
          rw [hn]
          dsimp only
          unfold f_X4_needFeet
          rw [if_neg c1, if_neg c2]
          dsimp only
          rw [if_neg nIAE_ne]
        · show f_X5_moveSpit κ (nI i) b = _
          unfold f_X5_moveSpit
          dsimp only
          have hf2 : f_X5_isSpit (up2 κ 91 0 0) (nI i) = true := hf
          rw [hf2, if_neg bi_t, isIn_f2 c2, if_pos bi_f]
          rfl
  · refine op_th (n := 1) (r0 := 0) (fL := fun κ => f_L_moveSpit κ a b) (fX := fun κ => f_X5_moveSpit κ a b) hS (by decide) ?_ ?_ th2 e
    · show f_L_moveSpit κ a b = _
      unfold f_L_moveSpit f_X4_moveSpit
      rw [hn]
      dsimp only
      rw [if_pos nIOE_eq]
    · show f_X5_moveSpit κ a b = _
      unfold f_X5_moveSpit
      dsimp only
      have hf2 : f_X5_isSpit (up2 κ 91 0 0) a = false := hf
      rw [hf2, if_pos bi_f]
      rfl
theorem sim_op_turnEach (a b : Int32) : SimOp SS (fun κ => f_L_turnEach κ a b) (fun κ => f_X5_turnEach κ a b) := by
  intro t κ ht hS k κ1 e
  obtain ⟨nf, ns, nr, a0, b0, c0, d0, e0, f0, g0⟩ := id hS
  obtain ⟨hnf, hns, hnr⟩ := b0.2.2.1
  rcases spit_cases a b0.1.2.1 b0.2.1.2 hns with ⟨i, hi, rfl, hn, hf⟩ | ⟨hn, hf⟩
  · by_cases c1 : b < 0
    · refine op_th (n := 2) (r0 := 0) (fL := fun κ => f_L_turnEach κ (nI i) b) (fX := fun κ => f_X5_turnEach κ (nI i) b) hS (by decide) ?_ ?_ th2 e
      · show f_L_turnEach κ (nI i) b = _
        unfold f_L_turnEach f_X4_turnEach
        rw [hn]
        dsimp only
        rw [if_pos c1]
        dsimp only
        rw [if_neg nIAE_ne]
      · show f_X5_turnEach κ (nI i) b = _
        unfold f_X5_turnEach
        dsimp only
        have hf2 : f_X5_isSpit (up2 κ 91 0 0) (nI i) = true := hf
        rw [hf2, if_neg bi_t, isIn_f1 c1, if_pos bi_f]
        rfl
    · by_cases c2 : b ≤ 9
      · have hv : κ (1 + 7 + i) 2 = κ 96 (7 + 5 * i + 4) := (RX_spit a0.1 (i := i) (by omega)).2.2.2.2
        refine op_ch (κc := up2 (up2 κ (1 + 7 + i) 2 b) (1 + 7 + i) 3 0) (v := κ (1 + 7 + i) 2) (fL := fun κ => f_L_turnEach κ (nI i) b) (fX := fun κ => f_X5_turnEach κ (nI i) b) hS a0 b0 d0 e0 g0 ((FrK.rfl.up (by omega)).up (by omega)) ?_ ?_ e
        · show f_L_turnEach κ (nI i) b = _
          unfold f_L_turnEach f_X4_turnEach
          rw [hn]
          dsimp only
          rw [if_neg c1, if_pos c2]
          rfl
        · intro m1 m0 hm1 hm0 r1 r2 hB hJ
          have e96 := r1 96 (by decide) (by decide) (by decide)
          refine ⟨up2 (up2 m0 96 (7 + 5 * i + 4) b) 96 (7 + 5 * i + 3) 0, ?_, J_count (J_each hJ (by omega)) (by omega), fun f hf => ?_, ?_, ?_⟩
          · show f_X5_turnEach m1 (nI i) b = _
            unfold f_X5_turnEach
            rw [← hm0]
            try dsimp only
            rw [isSpit_of hf (r2 2 (by decide)), if_neg bi_t, isIn_t c1 c2, if_neg bi_t]
            rw [show f_X5_sp m0 (nI i) 4 = m0 96 (7 + 5 * i + 4) from sp_N (w := 4) (by omega) (by decide), e96, hv]
            unfold f_X5_each
            dsimp only
            rw [show f_X5_letSpit m0 (nI i) 4 b = up2 m0 96 (7 + 5 * i + 4) b from letSpit_N (w := 4) (by omega) (by decide)]
            rw [show f_X5_letSpit (up2 m0 96 (7 + 5 * i + 4) b) (nI i) 3 0 = up2 (up2 m0 96 (7 + 5 * i + 4) b) 96 (7 + 5 * i + 3) 0 from letSpit_N (w := 3) (by omega) (by decide)]
          · rw [up2_row (by omega), up2_row (by omega)]; exact c0 f hf
          · rw [up2_ne _ _ (Or.inr (by omega)), up2_ne _ _ (Or.inr (by omega)), e96]; exact f0.1
          · rw [up2_ne _ _ (Or.inr (by omega)), up2_ne _ _ (Or.inr (by omega)), e96]; have := f0.2; omega
      · refine op_th (n := 2) (r0 := 0) (fL := fun κ => f_L_turnEach κ (nI i) b) (fX := fun κ => f_X5_turnEach κ (nI i) b) hS (by decide) ?_ ?_ th2 e
        · show f_L_turnEach κ (nI i) b = _
          unfold f_L_turnEach f_X4_turnEach
          rw [hn]
          dsimp only
          rw [if_neg c1, if_neg c2]
          dsimp only
          rw [if_neg nIAE_ne]
        · show f_X5_turnEach κ (nI i) b = _
          unfold f_X5_turnEach
          dsimp only
          have hf2 : f_X5_isSpit (up2 κ 91 0 0) (nI i) = true := hf
          rw [hf2, if_neg bi_t, isIn_f2 c2, if_pos bi_f]
          rfl
  · refine op_th (n := 1) (r0 := 0) (fL := fun κ => f_L_turnEach κ a b) (fX := fun κ => f_X5_turnEach κ a b) hS (by decide) ?_ ?_ th2 e
    · show f_L_turnEach κ a b = _
      unfold f_L_turnEach f_X4_turnEach
      rw [hn]
      dsimp only
      rw [if_pos nIOE_eq]
    · show f_X5_turnEach κ a b = _
      unfold f_X5_turnEach
      dsimp only
      have hf2 : f_X5_isSpit (up2 κ 91 0 0) a = false := hf
      rw [hf2, if_pos bi_f]
      rfl
theorem sim_op_emptyPan (a : Int32) : SimOp SS (fun κ => f_L_emptyPan κ a) (fun κ => f_X5_emptyPan κ a) := by
  intro t κ ht hS k κ1 e
  obtain ⟨nf, ns, nr, a0, b0, c0, d0, e0, f0, g0⟩ := id hS
  obtain ⟨hnf, hns, hnr⟩ := b0.2.2.1
  rcases spit_cases a b0.1.2.1 b0.2.1.2 hns with ⟨i, hi, rfl, hn, hf⟩ | ⟨hn, hf⟩
  · have hv : κ (1 + 7 + i) 4 = κ 96 (7 + 5 * i + 1) := (RX_spit a0.1 (i := i) (by omega)).2.1
    refine op_ch (κc := up2 κ (1 + 7 + i) 4 0) (v := κ (1 + 7 + i) 4) (fL := fun κ => f_L_emptyPan κ (nI i)) (fX := fun κ => f_X5_emptyPan κ (nI i)) hS a0 b0 d0 e0 g0 (FrK.rfl.up (by omega)) ?_ ?_ e
    · show f_L_emptyPan κ (nI i) = _
      unfold f_L_emptyPan f_X4_emptyPan
      rw [hn]
    · intro m1 m0 hm1 hm0 r1 r2 hB hJ
      have e96 := r1 96 (by decide) (by decide) (by decide)
      refine ⟨up2 m0 96 (7 + 5 * i + 1) 0, ?_, J_drips hJ (by omega), fun f hf => ?_, ?_, ?_⟩
      · show f_X5_emptyPan m1 (nI i) = _
        unfold f_X5_emptyPan
        rw [← hm0]
        try dsimp only
        rw [isSpit_of hf (r2 2 (by decide)), if_neg bi_t]
        rw [show f_X5_sp m0 (nI i) 1 = m0 96 (7 + 5 * i + 1) from sp_N (w := 1) (by omega) (by decide), e96, hv]
        rw [show f_X5_letSpit m0 (nI i) 1 0 = up2 m0 96 (7 + 5 * i + 1) 0 from letSpit_N (w := 1) (by omega) (by decide)]
      · rw [up2_row (by omega)]; exact c0 f hf
      · rw [up2_ne _ _ (Or.inr (by omega)), e96]; exact f0.1
      · rw [up2_ne _ _ (Or.inr (by omega)), e96]; have := f0.2; omega
  · refine op_th (n := 1) (r0 := 0) (fL := fun κ => f_L_emptyPan κ a) (fX := fun κ => f_X5_emptyPan κ a) hS (by decide) ?_ ?_ th2 e
    · show f_L_emptyPan κ a = _
      unfold f_L_emptyPan f_X4_emptyPan
      rw [hn]
    · show f_X5_emptyPan κ a = _
      unfold f_X5_emptyPan
      dsimp only
      have hf2 : f_X5_isSpit (up2 κ 91 0 0) a = false := hf
      rw [hf2, if_pos bi_f]
      rfl
theorem sim_op_turnNow (a : Int32) : SimOp SS (fun κ => f_L_turnNow κ a) (fun κ => f_X5_turnNow κ a) := by
  intro t κ ht hS k κ1 e
  obtain ⟨nf, ns, nr, a0, b0, c0, d0, e0, f0, g0⟩ := id hS
  obtain ⟨hnf, hns, hnr⟩ := b0.2.2.1
  rcases spit_cases a b0.1.2.1 b0.2.1.2 hns with ⟨i, hi, rfl, hn, hf⟩ | ⟨hn, hf⟩
  · have hsp : f_X5_sp κ (nI i) 2 = κ 96 (7 + 5 * i + 2) := sp_N (w := 2) (by omega) (by decide)
    rcases roastOf_cases b0 (SS_J a0) (i := i) (by omega) with ⟨h, hh, hr, h5, h6⟩ | ⟨hr, h6⟩
    · refine op_ch (κc := f_X2_turn κ (1 + 13 + 2 * h)) (v := f_X2_turn κ (1 + 13 + 2 * h) (1 + 13 + 2 * h) 3) (fL := fun κ => f_L_turnNow κ (nI i)) (fX := fun κ => f_X5_turnNow κ (nI i)) hS a0 b0 d0 e0 g0 (FrK_turn FrK.rfl (by omega)) ?_ ?_ e
      · show f_L_turnNow κ (nI i) = _
        unfold f_L_turnNow f_X4_turnNow
        rw [hn]
        dsimp only
        rw [hr]
      · intro m1 m0 hm1 hm0 r1 r2 hB hJ
        have e96 := r1 96 (by decide) (by decide) (by decide)
        have hs1 : f_X5_sp m1 (nI i) 2 = nI (h + 1) := by
          rw [show f_X5_sp m1 (nI i) 2 = m1 96 (7 + 5 * i + 2) from sp_N (w := 2) (by omega) (by decide)]
          have e961 : m0 96 = m1 96 := by rw [hm0, up2_row (by decide)]
          rw [← e961, e96, h6]
        have hf1 : f_X5_isSpit m1 (nI i) = true := isSpit_of hf (by rw [← r2 2 (by decide), hm0, up2_ne _ _ (Or.inr (by decide))])
        have hh1 := holds_3 hf1 (by rw [hs1]; exact nI_nz (by omega))
        rw [← hm0] at hh1
        have hs : f_X5_sp m0 (nI i) 2 = nI (h + 1) := by
          rw [show f_X5_sp m0 (nI i) 2 = m0 96 (7 + 5 * i + 2) from sp_N (w := 2) (by omega) (by decide), e96, h6]
        have hJ2 := sim_turn hJ hh hnr
        obtain ⟨z, hz⟩ : ∃ z, f_X5_turn m0 (nI h) = up2 m0 96 (37 + 8 * h + 1) z := ⟨_, let_N (w := 1) (by omega) (by decide)⟩
        refine ⟨f_X5_turn m0 (nI h), ?_, hJ2, fun f hf => ?_, ?_, ?_⟩
        · show f_X5_turnNow m1 (nI i) = _
          unfold f_X5_turnNow
          rw [hh1]
          dsimp only
          rw [if_neg bi_t, hs, nI_less]
          have hs2 : f_X5_sp (f_X5_turn m0 (nI h)) (nI i) 2 = nI (h + 1) := by
            rw [show f_X5_sp (f_X5_turn m0 (nI h)) (nI i) 2 = (f_X5_turn m0 (nI h)) 96 (7 + 5 * i + 2) from sp_N (w := 2) (by omega) (by decide), hz, up2_ne _ _ (Or.inr (by omega)), e96, h6]
          rw [hs2, nI_less, show f_X5_ro (f_X5_turn m0 (nI h)) (nI h) 1 = (f_X5_turn m0 (nI h)) 96 (37 + 8 * h + 1) from ro_N (w := 1) (by omega) (by decide), ← RX_roast hJ2.1 (i := h) (w := 1) (by omega) (by decide) (by decide)]
        · rw [show f_X2_turn κ (1 + 13 + 2 * h) (1 + 4 + f) = κ (1 + 4 + f) from up2_row (by omega)]; exact c0 f hf
        · rw [hz, up2_ne _ _ (Or.inr (by omega)), e96]; exact f0.1
        · rw [hz, up2_ne _ _ (Or.inr (by omega)), e96]; have := f0.2; omega
    · have hs0 : f_X5_sp κ (nI i) 2 = 0 := hsp.trans h6
      refine op_th (n := 2) (r0 := 0) (fL := fun κ => f_L_turnNow κ (nI i)) (fX := fun κ => f_X5_turnNow κ (nI i)) hS (by decide) ?_ ?_ th1 e
      · show f_L_turnNow κ (nI i) = _
        unfold f_L_turnNow f_X4_turnNow
        rw [hn]
        dsimp only
        rw [hr]
        dsimp only
        rw [if_neg nISE_ne]
      · show f_X5_turnNow κ (nI i) = _
        unfold f_X5_turnNow
        rw [holds_2 hf hs0]
        dsimp only
        rw [if_pos bi_f]
  · refine op_th (n := 1) (r0 := 0) (fL := fun κ => f_L_turnNow κ a) (fX := fun κ => f_X5_turnNow κ a) hS (by decide) ?_ ?_ th1 e
    · show f_L_turnNow κ a = _
      unfold f_L_turnNow f_X4_turnNow
      rw [hn]
      dsimp only
      rw [if_pos nIOE_eq]
    · show f_X5_turnNow κ a = _
      unfold f_X5_turnNow
      rw [holds_1 hf]
      dsimp only
      rw [if_pos bi_f]
theorem sim_op_baste (a : Int32) : SimOp SS (fun κ => f_L_baste κ a) (fun κ => f_X5_baste κ a) := by
  intro t κ ht hS k κ1 e
  obtain ⟨nf, ns, nr, a0, b0, c0, d0, e0, f0, g0⟩ := id hS
  obtain ⟨hnf, hns, hnr⟩ := b0.2.2.1
  rcases spit_cases a b0.1.2.1 b0.2.1.2 hns with ⟨i, hi, rfl, hn, hf⟩ | ⟨hn, hf⟩
  · have hsp : f_X5_sp κ (nI i) 2 = κ 96 (7 + 5 * i + 2) := sp_N (w := 2) (by omega) (by decide)
    rcases roastOf_cases b0 (SS_J a0) (i := i) (by omega) with ⟨h, hh, hr, h5, h6⟩ | ⟨hr, h6⟩
    · have hv : κ (1 + 7 + i) 4 = κ 96 (7 + 5 * i + 1) := (RX_spit a0.1 (i := i) (by omega)).2.1
      by_cases c : 2 ≤ κ (1 + 7 + i) 4
      · obtain ⟨w, hw⟩ : ∃ w : Int32, w = κ (1 + 7 + i) 4 - 2 := ⟨_, rfl⟩
        refine op_ch (κc := up2 (up2 κ (1 + 7 + i) 4 w) (1 + 13 + 2 * h) 5 3) (v := w) (fL := fun κ => f_L_baste κ (nI i)) (fX := fun κ => f_X5_baste κ (nI i)) hS a0 b0 d0 e0 g0 ((FrK.rfl.up (by omega)).up (by omega)) ?_ ?_ e
        · show f_L_baste κ (nI i) = _
          unfold f_L_baste f_X4_baste
          rw [hn]
          dsimp only
          rw [hr]
          dsimp only
          rw [if_pos c]
          dsimp only
          rw [← hw, up2_row (by omega), up2_self]
        · intro m1 m0 hm1 hm0 r1 r2 hB hJ
          have e96 := r1 96 (by decide) (by decide) (by decide)
          have hs1 : f_X5_sp m1 (nI i) 2 = nI (h + 1) := by
            rw [show f_X5_sp m1 (nI i) 2 = m1 96 (7 + 5 * i + 2) from sp_N (w := 2) (by omega) (by decide)]
            have e961 : m0 96 = m1 96 := by rw [hm0, up2_row (by decide)]
            rw [← e961, e96, h6]
          have hf1 : f_X5_isSpit m1 (nI i) = true := isSpit_of hf (by rw [← r2 2 (by decide), hm0, up2_ne _ _ (Or.inr (by decide))])
          have hh1 := holds_3 hf1 (by rw [hs1]; exact nI_nz (by omega))
          rw [← hm0] at hh1
          have hs : f_X5_sp m0 (nI i) 2 = nI (h + 1) := by
            rw [show f_X5_sp m0 (nI i) 2 = m0 96 (7 + 5 * i + 2) from sp_N (w := 2) (by omega) (by decide), e96, h6]
          refine ⟨up2 (up2 m0 96 (7 + 5 * i + 1) w) 96 (37 + 8 * h + 3) 3, ?_, J_roast (w := 3) (J_drips hJ (by omega)) (by omega) (by decide) (by decide) (Gx_roast (by omega) (by decide) (fun q => by omega) (fun q => by omega) (fun q => by omega) (fun q => by omega)), fun f hf => ?_, ?_, ?_⟩
          · show f_X5_baste m1 (nI i) = _
            unfold f_X5_baste
            rw [hh1]
            dsimp only
            rw [if_neg bi_t]
            rw [show f_X5_sp m0 (nI i) 1 = m0 96 (7 + 5 * i + 1) from sp_N (w := 1) (by omega) (by decide), e96, ← hv, if_pos c, ← hw]
            rw [show f_X5_letSpit m0 (nI i) 1 w = up2 m0 96 (7 + 5 * i + 1) w from letSpit_N (w := 1) (by omega) (by decide)]
            try dsimp only
            rw [show f_X5_sp (up2 m0 96 (7 + 5 * i + 1) w) (nI i) 2 = (up2 m0 96 (7 + 5 * i + 1) w) 96 (7 + 5 * i + 2) from sp_N (w := 2) (by omega) (by decide), up2_ne _ _ (Or.inr (by omega)), e96, h6, nI_less]
            rw [show f_X5_let (up2 m0 96 (7 + 5 * i + 1) w) (nI h) 3 3 = up2 (up2 m0 96 (7 + 5 * i + 1) w) 96 (37 + 8 * h + 3) 3 from let_N (w := 3) (by omega) (by decide)]
            rw [show f_X5_sp (up2 (up2 m0 96 (7 + 5 * i + 1) w) 96 (37 + 8 * h + 3) 3) (nI i) 1 = (up2 (up2 m0 96 (7 + 5 * i + 1) w) 96 (37 + 8 * h + 3) 3) 96 (7 + 5 * i + 1) from sp_N (w := 1) (by omega) (by decide), up2_ne _ _ (Or.inr (by omega)), up2_self]
          · rw [up2_row (by omega), up2_row (by omega)]; exact c0 f hf
          · rw [up2_ne _ _ (Or.inr (by omega)), up2_ne _ _ (Or.inr (by omega)), e96]; exact f0.1
          · rw [up2_ne _ _ (Or.inr (by omega)), up2_ne _ _ (Or.inr (by omega)), e96]; have := f0.2; omega
      · refine op_th (n := 2) (r0 := 0) (fL := fun κ => f_L_baste κ (nI i)) (fX := fun κ => f_X5_baste κ (nI i)) hS (by decide) ?_ ?_ th2 e
        · show f_L_baste κ (nI i) = _
          unfold f_L_baste f_X4_baste
          rw [hn]
          dsimp only
          rw [hr]
          dsimp only
          rw [if_neg c]
          dsimp only
          rw [if_neg nISE_ne]
        · show f_X5_baste κ (nI i) = _
          unfold f_X5_baste
          rw [holds_3 hf (by rw [hsp, h6]; exact nI_nz (by omega))]
          dsimp only
          rw [if_neg bi_t]
          have hs3 : f_X5_sp (up2 κ 91 0 0) (nI i) 1 = κ (1 + 7 + i) 4 := by
            rw [show f_X5_sp (up2 κ 91 0 0) (nI i) 1 = (up2 κ 91 0 0) 96 (7 + 5 * i + 1) from sp_N (w := 1) (by omega) (by decide), up2_row (by decide), hv]
          rw [hs3, if_neg c]
          rfl
    · have hs0 : f_X5_sp κ (nI i) 2 = 0 := hsp.trans h6
      refine op_th (n := 2) (r0 := 0) (fL := fun κ => f_L_baste κ (nI i)) (fX := fun κ => f_X5_baste κ (nI i)) hS (by decide) ?_ ?_ th1 e
      · show f_L_baste κ (nI i) = _
        unfold f_L_baste f_X4_baste
        rw [hn]
        dsimp only
        rw [hr]
        dsimp only
        rw [if_neg nISE_ne]
      · show f_X5_baste κ (nI i) = _
        unfold f_X5_baste
        rw [holds_2 hf hs0]
        dsimp only
        rw [if_pos bi_f]
  · refine op_th (n := 1) (r0 := 0) (fL := fun κ => f_L_baste κ a) (fX := fun κ => f_X5_baste κ a) hS (by decide) ?_ ?_ th1 e
    · show f_L_baste κ a = _
      unfold f_L_baste f_X4_baste
      rw [hn]
      dsimp only
      rw [if_pos nIOE_eq]
    · show f_X5_baste κ a = _
      unfold f_X5_baste
      rw [holds_1 hf]
      dsimp only
      rw [if_pos bi_f]
theorem sim_op_takeDown (a : Int32) : SimOp SS (fun κ => f_L_takeDown κ a) (fun κ => f_X5_takeDown κ a) := by
  intro t κ ht hS k κ1 e
  obtain ⟨nf, ns, nr, a0, b0, c0, d0, e0, f0, g0⟩ := id hS
  obtain ⟨hnf, hns, hnr⟩ := b0.2.2.1
  rcases spit_cases a b0.1.2.1 b0.2.1.2 hns with ⟨i, hi, rfl, hn, hf⟩ | ⟨hn, hf⟩
  · have hsp : f_X5_sp κ (nI i) 2 = κ 96 (7 + 5 * i + 2) := sp_N (w := 2) (by omega) (by decide)
    rcases roastOf_cases b0 (SS_J a0) (i := i) (by omega) with ⟨h, hh, hr, h5, h6⟩ | ⟨hr, h6⟩
    · refine op_ch (κc := up2 (up2 κ (1 + 13 + 2 * h) 2 (-1)) (1 + 7 + i) 5 (-1)) (v := nI h) (fL := fun κ => f_L_takeDown κ (nI i)) (fX := fun κ => f_X5_takeDown κ (nI i)) hS a0 b0 d0 e0 g0 ((FrK.rfl.up (by omega)).up (by omega)) ?_ ?_ e
      · show f_L_takeDown κ (nI i) = _
        unfold f_L_takeDown f_X4_takeDown
        rw [hn]
        dsimp only
        rw [hr]
        dsimp only
        rw [h5]
      · intro m1 m0 hm1 hm0 r1 r2 hB hJ
        have e96 := r1 96 (by decide) (by decide) (by decide)
        have hs1 : f_X5_sp m1 (nI i) 2 = nI (h + 1) := by
          rw [show f_X5_sp m1 (nI i) 2 = m1 96 (7 + 5 * i + 2) from sp_N (w := 2) (by omega) (by decide)]
          have e961 : m0 96 = m1 96 := by rw [hm0, up2_row (by decide)]
          rw [← e961, e96, h6]
        have hf1 : f_X5_isSpit m1 (nI i) = true := isSpit_of hf (by rw [← r2 2 (by decide), hm0, up2_ne _ _ (Or.inr (by decide))])
        have hh1 := holds_3 hf1 (by rw [hs1]; exact nI_nz (by omega))
        rw [← hm0] at hh1
        have hs : f_X5_sp m0 (nI i) 2 = nI (h + 1) := by
          rw [show f_X5_sp m0 (nI i) 2 = m0 96 (7 + 5 * i + 2) from sp_N (w := 2) (by omega) (by decide), e96, h6]
        refine ⟨up2 (up2 m0 96 (37 + 8 * h) 0) 96 (7 + 5 * i + 2) 0, ?_, J_free (J_off hJ (by omega)) (by omega), fun f hf => ?_, ?_, ?_⟩
        · show f_X5_takeDown m1 (nI i) = _
          unfold f_X5_takeDown
          rw [hh1]
          dsimp only
          rw [if_neg bi_t, hs, nI_less]
          rw [show f_X5_letSpit m0 (nI i) 2 0 = up2 m0 96 (7 + 5 * i + 2) 0 from letSpit_N (w := 2) (by omega) (by decide)]
          rw [show f_X5_let (up2 m0 96 (7 + 5 * i + 2) 0) (nI h) 0 0 = up2 (up2 m0 96 (7 + 5 * i + 2) 0) 96 (37 + 8 * h) 0 from let_N (w := 0) (by omega) (by decide)]
          rw [up2_comm (by omega)]
        · rw [up2_row (by omega), up2_row (by omega)]; exact c0 f hf
        · rw [up2_ne _ _ (Or.inr (by omega)), up2_ne _ _ (Or.inr (by omega)), e96]; exact f0.1
        · rw [up2_ne _ _ (Or.inr (by omega)), up2_ne _ _ (Or.inr (by omega)), e96]; have := f0.2; omega
    · have hs0 : f_X5_sp κ (nI i) 2 = 0 := hsp.trans h6
      refine op_th (n := 2) (r0 := 0) (fL := fun κ => f_L_takeDown κ (nI i)) (fX := fun κ => f_X5_takeDown κ (nI i)) hS (by decide) ?_ ?_ th1 e
      · show f_L_takeDown κ (nI i) = _
        unfold f_L_takeDown f_X4_takeDown
        rw [hn]
        dsimp only
        rw [hr]
        dsimp only
        rw [if_neg nISE_ne]
      · show f_X5_takeDown κ (nI i) = _
        unfold f_X5_takeDown
        rw [holds_2 hf hs0]
        dsimp only
        rw [if_pos bi_f]
  · refine op_th (n := 1) (r0 := 0) (fL := fun κ => f_L_takeDown κ a) (fX := fun κ => f_X5_takeDown κ a) hS (by decide) ?_ ?_ th1 e
    · show f_L_takeDown κ a = _
      unfold f_L_takeDown f_X4_takeDown
      rw [hn]
      dsimp only
      rw [if_pos nIOE_eq]
    · show f_X5_takeDown κ a = _
      unfold f_X5_takeDown
      rw [holds_1 hf]
      dsimp only
      rw [if_pos bi_f]
