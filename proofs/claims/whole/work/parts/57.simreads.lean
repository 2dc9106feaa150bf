theorem SS_98 {t : Nat} {κ : Kp} {v : Int32} (h : SS t κ) : SS t (up2 κ 98 0 v) :=
  SS_of h (fun q hq => up2_row (by omega)) (up2_row (by decide)) (up2_row (by decide)) (up2_row (by decide)) (fun j hj => by rw [up2_row (by decide)])
/-- a read that finds its number, or throws for want of it -/
theorem rd_yes {t : Nat} {κ κ1 : Kp} {k v : Int32} {fL fX : Kp → Int32 × Kp} (hS : SS t κ) (eL : fL κ = (0, up2 κ 98 0 v)) (eX : fX (up2 κ 98 0 v) = (v, up2 (up2 κ 98 0 v) 91 0 0)) (e : fL κ = (k, κ1)) : MI κ1 ∧ ∀ r κ2, fX κ1 = (r, κ2) → f_X5_thrown κ2 = k ∧ (k = 0 → κ2 98 0 = r) ∧ SS (t + 1) κ2 := by
  rw [eL] at e
  cases e
  refine ⟨SS_MI (SS_98 hS), fun r κ2 e2 => ?_⟩
  rw [eX] at e2
  cases e2
  refine ⟨up2_self _ _ _ _, fun _ => ?_, SS_th (SS_mono (SS_98 hS))⟩
  rw [up2_row (by decide), up2_self]
theorem rd_no {t : Nat} {κ κ1 : Kp} {k : Int32} {fL fX : Kp → Int32 × Kp} (hS : SS t κ) (eL : fL κ = (1, κ)) (eX : fX κ = (0, up2 (up2 κ 91 0 0) 91 0 1)) (e : fL κ = (k, κ1)) : MI κ1 ∧ ∀ r κ2, fX κ1 = (r, κ2) → f_X5_thrown κ2 = k ∧ (k = 0 → κ2 98 0 = r) ∧ SS (t + 1) κ2 := by
  rw [eL] at e
  cases e
  refine ⟨SS_MI hS, fun r κ2 e2 => ?_⟩
  rw [eX] at e2
  cases e2
  exact ⟨up2_self _ _ _ _, fun q => absurd q (by decide), SS_th (SS_th (SS_mono hS))⟩
theorem sim_op_logsOf (a : Int32) : SimOp SS (fun κ => f_L_logsOf κ a) (fun κ => f_X5_logsOf κ a) := by
  intro t κ ht hS k κ1 e
  obtain ⟨nf, ns, nr, a0, b, -⟩ := id hS
  have hnf := b.2.2.1.1
  rcases fire_cases a b.1.1 b.2.1.1 hnf with ⟨i, hi, rfl, hn, hf⟩ | ⟨hn, hf⟩
  · refine rd_yes (v := κ (1 + 4 + i) 0) (fL := fun κ => f_L_logsOf κ (nI i)) (fX := fun κ => f_X5_logsOf κ (nI i)) hS ?_ ?_ e
    · show f_L_logsOf κ (nI i) = _
      unfold f_L_logsOf f_X4_logsOf
      rw [hn]
    · show f_X5_logsOf (up2 κ 98 0 (κ (1 + 4 + i) 0)) (nI i) = _
      unfold f_X5_logsOf f_X5_fire
      dsimp only
      have hf2 : f_X5_isFire (up2 (up2 κ 98 0 (κ (1 + 4 + i) 0)) 91 0 0) (nI i) = true := hf
      rw [hf2, if_neg bi_t]
      dsimp only
      rw [show f_X5_fi (up2 (up2 κ 98 0 (κ (1 + 4 + i) 0)) 91 0 0) (nI i) 0 = (up2 (up2 κ 98 0 (κ (1 + 4 + i) 0)) 91 0 0) 96 (1 + 2 * i) from fi_N (w := 0) (by omega) (by decide), up2_row (by decide), up2_row (by decide), RX_fire a0.1 (i := i) (j := 0) (by omega) (by decide)]
      rfl
  · refine rd_no (fL := fun κ => f_L_logsOf κ a) (fX := fun κ => f_X5_logsOf κ a) hS ?_ ?_ e
    · show f_L_logsOf κ a = _
      unfold f_L_logsOf f_X4_logsOf
      rw [hn]
    · show f_X5_logsOf κ a = _
      unfold f_X5_logsOf f_X5_fire
      dsimp only
      have hf2 : f_X5_isFire (up2 κ 91 0 0) a = false := hf
      rw [hf2, if_pos bi_f]
      rfl
