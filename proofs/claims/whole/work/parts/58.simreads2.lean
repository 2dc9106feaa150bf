theorem sim_op_heatOf (a : Int32) : SimOp SS (fun κ => f_L_heatOf κ a) (fun κ => f_X5_heatOf κ a) := by
  intro t κ ht hS k κ1 e
  obtain ⟨nf, ns, nr, a0, b, c0, d, -⟩ := id hS
  obtain ⟨hnf, hns, hnr⟩ := b.2.2.1
  rcases fire_cases a b.1.1 b.2.1.1 hnf with ⟨i, hi, rfl, hn, hf⟩ | ⟨hn, hf⟩
  · refine rd_yes (v := κ (1 + 4 + i) 1) (fL := fun κ => f_L_heatOf κ (nI i)) (fX := fun κ => f_X5_heatOf κ (nI i)) hS ?_ ?_ e
    · show f_L_heatOf κ (nI i) = _
      unfold f_L_heatOf f_X4_heatOf
      rw [hn]
    · show f_X5_heatOf (up2 κ 98 0 (κ (1 + 4 + i) 1)) (nI i) = _
      unfold f_X5_heatOf f_X5_fire
      dsimp only
      have hf2 : f_X5_isFire (up2 (up2 κ 98 0 (κ (1 + 4 + i) 1)) 91 0 0) (nI i) = true := hf
      rw [hf2, if_neg bi_t]
      dsimp only
      have hv : κ (1 + 4 + i) 1 = κ 96 (1 + 2 * i + 1) := RX_fire a0.1 (i := i) (j := 1) (by omega) (by decide)
      rw [show f_X5_fi (up2 (up2 κ 98 0 (κ (1 + 4 + i) 1)) 91 0 0) (nI i) 1 = (up2 (up2 κ 98 0 (κ (1 + 4 + i) 1)) 91 0 0) 96 (1 + 2 * i + 1) from fi_N (w := 1) (by omega) (by decide), up2_row (by decide), up2_row (by decide), hv]
  · refine rd_no (fL := fun κ => f_L_heatOf κ a) (fX := fun κ => f_X5_heatOf κ a) hS ?_ ?_ e
    · show f_L_heatOf κ a = _
      unfold f_L_heatOf f_X4_heatOf
      rw [hn]
    · show f_X5_heatOf κ a = _
      unfold f_X5_heatOf f_X5_fire
      dsimp only
      have hf2 : f_X5_isFire (up2 κ 91 0 0) a = false := hf
      rw [hf2, if_pos bi_f]
      rfl
theorem sim_op_feetOf (a : Int32) : SimOp SS (fun κ => f_L_feetOf κ a) (fun κ => f_X5_feetOf κ a) := by
  intro t κ ht hS k κ1 e
  obtain ⟨nf, ns, nr, a0, b, c0, d, -⟩ := id hS
  obtain ⟨hnf, hns, hnr⟩ := b.2.2.1
  rcases spit_cases a b.1.2.1 b.2.1.2 hns with ⟨i, hi, rfl, hn, hf⟩ | ⟨hn, hf⟩
  · refine rd_yes (v := κ (1 + 7 + i) 1) (fL := fun κ => f_L_feetOf κ (nI i)) (fX := fun κ => f_X5_feetOf κ (nI i)) hS ?_ ?_ e
    · show f_L_feetOf κ (nI i) = _
      unfold f_L_feetOf f_X4_feetOf
      rw [hn]
    · show f_X5_feetOf (up2 κ 98 0 (κ (1 + 7 + i) 1)) (nI i) = _
      unfold f_X5_feetOf f_X5_spit
      dsimp only
      have hf2 : f_X5_isSpit (up2 (up2 κ 98 0 (κ (1 + 7 + i) 1)) 91 0 0) (nI i) = true := hf
      rw [hf2, if_neg bi_t]
      dsimp only
      have hv : κ (1 + 7 + i) 1 = κ 96 (7 + 5 * i) := (RX_spit a0.1 (i := i) (by omega)).1
      rw [show f_X5_sp (up2 (up2 κ 98 0 (κ (1 + 7 + i) 1)) 91 0 0) (nI i) 0 = (up2 (up2 κ 98 0 (κ (1 + 7 + i) 1)) 91 0 0) 96 (7 + 5 * i) from sp_N (w := 0) (by omega) (by decide), up2_row (by decide), up2_row (by decide), hv]
  · refine rd_no (fL := fun κ => f_L_feetOf κ a) (fX := fun κ => f_X5_feetOf κ a) hS ?_ ?_ e
    · show f_L_feetOf κ a = _
      unfold f_L_feetOf f_X4_feetOf
      rw [hn]
    · show f_X5_feetOf κ a = _
      unfold f_X5_feetOf f_X5_spit
      dsimp only
      have hf2 : f_X5_isSpit (up2 κ 91 0 0) a = false := hf
      rw [hf2, if_pos bi_f]
      rfl
theorem sim_op_turnedEach (a : Int32) : SimOp SS (fun κ => f_L_turnedEach κ a) (fun κ => f_X5_turnedEach κ a) := by
  intro t κ ht hS k κ1 e
  obtain ⟨nf, ns, nr, a0, b, c0, d, -⟩ := id hS
  obtain ⟨hnf, hns, hnr⟩ := b.2.2.1
  rcases spit_cases a b.1.2.1 b.2.1.2 hns with ⟨i, hi, rfl, hn, hf⟩ | ⟨hn, hf⟩
  · refine rd_yes (v := κ (1 + 7 + i) 2) (fL := fun κ => f_L_turnedEach κ (nI i)) (fX := fun κ => f_X5_turnedEach κ (nI i)) hS ?_ ?_ e
    · show f_L_turnedEach κ (nI i) = _
      unfold f_L_turnedEach f_X4_turnedEach
      rw [hn]
    · show f_X5_turnedEach (up2 κ 98 0 (κ (1 + 7 + i) 2)) (nI i) = _
      unfold f_X5_turnedEach f_X5_spit
      dsimp only
      have hf2 : f_X5_isSpit (up2 (up2 κ 98 0 (κ (1 + 7 + i) 2)) 91 0 0) (nI i) = true := hf
      rw [hf2, if_neg bi_t]
      dsimp only
      have hv : κ (1 + 7 + i) 2 = κ 96 (7 + 5 * i + 4) := (RX_spit a0.1 (i := i) (by omega)).2.2.2.2
      rw [show f_X5_sp (up2 (up2 κ 98 0 (κ (1 + 7 + i) 2)) 91 0 0) (nI i) 4 = (up2 (up2 κ 98 0 (κ (1 + 7 + i) 2)) 91 0 0) 96 (7 + 5 * i + 4) from sp_N (w := 4) (by omega) (by decide), up2_row (by decide), up2_row (by decide), hv]
  · refine rd_no (fL := fun κ => f_L_turnedEach κ a) (fX := fun κ => f_X5_turnedEach κ a) hS ?_ ?_ e
    · show f_L_turnedEach κ a = _
      unfold f_L_turnedEach f_X4_turnedEach
      rw [hn]
    · show f_X5_turnedEach κ a = _
      unfold f_X5_turnedEach f_X5_spit
      dsimp only
      have hf2 : f_X5_isSpit (up2 κ 91 0 0) a = false := hf
      rw [hf2, if_pos bi_f]
      rfl
theorem sim_op_drippingsOf (a : Int32) : SimOp SS (fun κ => f_L_drippingsOf κ a) (fun κ => f_X5_drippingsOf κ a) := by
  intro t κ ht hS k κ1 e
  obtain ⟨nf, ns, nr, a0, b, c0, d, -⟩ := id hS
  obtain ⟨hnf, hns, hnr⟩ := b.2.2.1
  rcases spit_cases a b.1.2.1 b.2.1.2 hns with ⟨i, hi, rfl, hn, hf⟩ | ⟨hn, hf⟩
  · refine rd_yes (v := κ (1 + 7 + i) 4) (fL := fun κ => f_L_drippingsOf κ (nI i)) (fX := fun κ => f_X5_drippingsOf κ (nI i)) hS ?_ ?_ e
    · show f_L_drippingsOf κ (nI i) = _
      unfold f_L_drippingsOf f_X4_drippingsOf
      rw [hn]
    · show f_X5_drippingsOf (up2 κ 98 0 (κ (1 + 7 + i) 4)) (nI i) = _
      unfold f_X5_drippingsOf f_X5_spit
      dsimp only
      have hf2 : f_X5_isSpit (up2 (up2 κ 98 0 (κ (1 + 7 + i) 4)) 91 0 0) (nI i) = true := hf
      rw [hf2, if_neg bi_t]
      dsimp only
      have hv : κ (1 + 7 + i) 4 = κ 96 (7 + 5 * i + 1) := (RX_spit a0.1 (i := i) (by omega)).2.1
      rw [show f_X5_sp (up2 (up2 κ 98 0 (κ (1 + 7 + i) 4)) 91 0 0) (nI i) 1 = (up2 (up2 κ 98 0 (κ (1 + 7 + i) 4)) 91 0 0) 96 (7 + 5 * i + 1) from sp_N (w := 1) (by omega) (by decide), up2_row (by decide), up2_row (by decide), hv]
  · refine rd_no (fL := fun κ => f_L_drippingsOf κ a) (fX := fun κ => f_X5_drippingsOf κ a) hS ?_ ?_ e
    · show f_L_drippingsOf κ a = _
      unfold f_L_drippingsOf f_X4_drippingsOf
      rw [hn]
    · show f_X5_drippingsOf κ a = _
      unfold f_X5_drippingsOf f_X5_spit
      dsimp only
      have hf2 : f_X5_isSpit (up2 κ 91 0 0) a = false := hf
      rw [hf2, if_pos bi_f]
      rfl
theorem sim_op_sideToFire (a : Int32) : SimOp SS (fun κ => f_L_sideToFire κ a) (fun κ => f_X5_sideToFire κ a) := by
  intro t κ ht hS k κ1 e
  obtain ⟨nf, ns, nr, a0, b, c0, d, -⟩ := id hS
  obtain ⟨hnf, hns, hnr⟩ := b.2.2.1
  rcases roast_cases a b.1.2.2 d.1 hnr with ⟨i, hi, rfl, hn, hf⟩ | ⟨hn, hf⟩
  · refine rd_yes (v := κ (1 + 13 + 2 * i) 3) (fL := fun κ => f_L_sideToFire κ (nI i)) (fX := fun κ => f_X5_sideToFire κ (nI i)) hS ?_ ?_ e
    · show f_L_sideToFire κ (nI i) = _
      unfold f_L_sideToFire f_X4_sideToFire
      rw [hn]
    · show f_X5_sideToFire (up2 κ 98 0 (κ (1 + 13 + 2 * i) 3)) (nI i) = _
      unfold f_X5_sideToFire f_X5_roast
      dsimp only
      have hf2 : f_X5_isRoast (up2 (up2 κ 98 0 (κ (1 + 13 + 2 * i) 3)) 91 0 0) (nI i) = true := hf
      rw [hf2, if_neg bi_t]
      dsimp only
      have hv : κ (1 + 13 + 2 * i) 3 = κ 96 (37 + 8 * i + 1) := RX_roast a0.1 (i := i) (w := 1) (by omega) (by decide) (by decide)
      rw [show f_X5_ro (up2 (up2 κ 98 0 (κ (1 + 13 + 2 * i) 3)) 91 0 0) (nI i) 1 = (up2 (up2 κ 98 0 (κ (1 + 13 + 2 * i) 3)) 91 0 0) 96 (37 + 8 * i + 1) from ro_N (w := 1) (by omega) (by decide), up2_row (by decide), up2_row (by decide), hv]
  · refine rd_no (fL := fun κ => f_L_sideToFire κ a) (fX := fun κ => f_X5_sideToFire κ a) hS ?_ ?_ e
    · show f_L_sideToFire κ a = _
      unfold f_L_sideToFire f_X4_sideToFire
      rw [hn]
    · show f_X5_sideToFire κ a = _
      unfold f_X5_sideToFire f_X5_roast
      dsimp only
      have hf2 : f_X5_isRoast (up2 κ 91 0 0) a = false := hf
      rw [hf2, if_pos bi_f]
      rfl
theorem sim_op_fatOf (a : Int32) : SimOp SS (fun κ => f_L_fatOf κ a) (fun κ => f_X5_fatOf κ a) := by
  intro t κ ht hS k κ1 e
  obtain ⟨nf, ns, nr, a0, b, c0, d, -⟩ := id hS
  obtain ⟨hnf, hns, hnr⟩ := b.2.2.1
  rcases roast_cases a b.1.2.2 d.1 hnr with ⟨i, hi, rfl, hn, hf⟩ | ⟨hn, hf⟩
  · refine rd_yes (v := κ (1 + 13 + 2 * i) 4) (fL := fun κ => f_L_fatOf κ (nI i)) (fX := fun κ => f_X5_fatOf κ (nI i)) hS ?_ ?_ e
    · show f_L_fatOf κ (nI i) = _
      unfold f_L_fatOf f_X4_fatOf
      rw [hn]
    · show f_X5_fatOf (up2 κ 98 0 (κ (1 + 13 + 2 * i) 4)) (nI i) = _
      unfold f_X5_fatOf f_X5_roast
      dsimp only
      have hf2 : f_X5_isRoast (up2 (up2 κ 98 0 (κ (1 + 13 + 2 * i) 4)) 91 0 0) (nI i) = true := hf
      rw [hf2, if_neg bi_t]
      dsimp only
      have hv : κ (1 + 13 + 2 * i) 4 = κ 96 (37 + 8 * i + 2) := RX_roast a0.1 (i := i) (w := 2) (by omega) (by decide) (by decide)
      rw [show f_X5_ro (up2 (up2 κ 98 0 (κ (1 + 13 + 2 * i) 4)) 91 0 0) (nI i) 2 = (up2 (up2 κ 98 0 (κ (1 + 13 + 2 * i) 4)) 91 0 0) 96 (37 + 8 * i + 2) from ro_N (w := 2) (by omega) (by decide), up2_row (by decide), up2_row (by decide), hv]
  · refine rd_no (fL := fun κ => f_L_fatOf κ a) (fX := fun κ => f_X5_fatOf κ a) hS ?_ ?_ e
    · show f_L_fatOf κ a = _
      unfold f_L_fatOf f_X4_fatOf
      rw [hn]
    · show f_X5_fatOf κ a = _
      unfold f_X5_fatOf f_X5_roast
      dsimp only
      have hf2 : f_X5_isRoast (up2 κ 91 0 0) a = false := hf
      rw [hf2, if_pos bi_f]
      rfl
theorem sim_op_wetFor (a : Int32) : SimOp SS (fun κ => f_L_wetFor κ a) (fun κ => f_X5_wetFor κ a) := by
  intro t κ ht hS k κ1 e
  obtain ⟨nf, ns, nr, a0, b, c0, d, -⟩ := id hS
  obtain ⟨hnf, hns, hnr⟩ := b.2.2.1
  rcases roast_cases a b.1.2.2 d.1 hnr with ⟨i, hi, rfl, hn, hf⟩ | ⟨hn, hf⟩
  · refine rd_yes (v := κ (1 + 13 + 2 * i) 5) (fL := fun κ => f_L_wetFor κ (nI i)) (fX := fun κ => f_X5_wetFor κ (nI i)) hS ?_ ?_ e
    · show f_L_wetFor κ (nI i) = _
      unfold f_L_wetFor f_X4_wetFor
      rw [hn]
    · show f_X5_wetFor (up2 κ 98 0 (κ (1 + 13 + 2 * i) 5)) (nI i) = _
      unfold f_X5_wetFor f_X5_roast
      dsimp only
      have hf2 : f_X5_isRoast (up2 (up2 κ 98 0 (κ (1 + 13 + 2 * i) 5)) 91 0 0) (nI i) = true := hf
      rw [hf2, if_neg bi_t]
      dsimp only
      have hv : κ (1 + 13 + 2 * i) 5 = κ 96 (37 + 8 * i + 3) := RX_roast a0.1 (i := i) (w := 3) (by omega) (by decide) (by decide)
      rw [show f_X5_ro (up2 (up2 κ 98 0 (κ (1 + 13 + 2 * i) 5)) 91 0 0) (nI i) 3 = (up2 (up2 κ 98 0 (κ (1 + 13 + 2 * i) 5)) 91 0 0) 96 (37 + 8 * i + 3) from ro_N (w := 3) (by omega) (by decide), up2_row (by decide), up2_row (by decide), hv]
  · refine rd_no (fL := fun κ => f_L_wetFor κ a) (fX := fun κ => f_X5_wetFor κ a) hS ?_ ?_ e
    · show f_L_wetFor κ a = _
      unfold f_L_wetFor f_X4_wetFor
      rw [hn]
    · show f_X5_wetFor κ a = _
      unfold f_X5_wetFor f_X5_roast
      dsimp only
      have hf2 : f_X5_isRoast (up2 κ 91 0 0) a = false := hf
      rw [hf2, if_pos bi_f]
      rfl
