section SIMV
variable {nf ns nr : Nat} {κ0 m0 : Kp}
def ansB (p : Nat) (R : (Nat × Kp) ⊕ Kp) : Int32 := match R with | .inl (u, _) => nI u | .inr κ2 => if bi (f_X2_burnt κ2 p) = 0 then -1 else 200
theorem sim_untilB (hB : Bs 46 nf ns nr κ0 m0) {i : Nat} (hi : i < nr) (x : Int32) : ∀ (n j : Nat) (κc κm : Kp), j + n = 200 → J 46 nf ns nr κ0 m0 κc κm → (∀ f, f < 3 → κc (46 + 4 + f) 2 = 0) → ansB (46 + 13 + 2 * i) (lp_X4_aheadUntilBurnt x (46 + 13 + 2 * i) n j κc) = ansM (lp_X5_until (nI i) 1 (n + 1) j κm) := by
  intro n
  have hnr := hB.2.2.1.2.2
  have h10 : ¬ (1 : Int32) = 0 := by decide
  induction n with
  | zero =>
    intro j κc κm hj h hz
    have hd := sim_burnt hB h hi
    obtain ⟨v, κ1, κ2, e1, e2, hJ, hz1⟩ := sim_minute hB h hz
    rw [lp_X4_aheadUntilBurnt, lp_X5_until, if_neg h10]
    unfold ansB
    dsimp only
    rw [hd]
    cases f_X5_burnt κm (nI i) with
    | false =>
      rw [if_pos bi_f, if_pos bi_f, e2]
      dsimp only
      rw [lp_X5_until]
      unfold ansM
      rw [if_neg (show ¬ nI (j + 1) ≤ nI 200 by rw [nIle (by omega) (by decide)]; omega)]
    | true =>
      rw [if_neg bi_t, if_neg bi_t]
      unfold ansM
      dsimp only
      have e : j = 200 := by omega
      subst e
      rw [if_pos (show nI 200 ≤ nI 200 by rw [nIle (by decide) (by decide)]; exact Nat.le_refl _)]
      rfl
  | succ n ih =>
    intro j κc κm hj h hz
    have hbn := sim_burnt hB h hi
    obtain ⟨v, κ1, κ2, e1, e2, hJ, hz1⟩ := sim_minute hB h hz
    rw [lp_X4_aheadUntilBurnt, hbn]
    rw [lp_X5_until, if_neg h10]
    cases hb : f_X5_burnt κm (nI i) with
    | false =>
      rw [if_pos bi_f, if_pos bi_f, e1, e2]
      dsimp only
      exact ih (j + 1) κ1 κ2 (by omega) hJ hz1
    | true =>
      rw [if_neg bi_t, if_neg bi_t]
      unfold ansB ansM
      dsimp only
      rw [if_pos (show nI j ≤ nI 200 by rw [nIle (by omega) (by decide)]; omega)]
end SIMV
/-- many minutes, counted in the class -/
theorem sim_minutes {k nf ns nr : Nat} {κ0 m0 : Kp} (hB : Bs k nf ns nr κ0 m0) (a : Int32) : ∀ (n j : Nat) (v : Int32) (κc κm : Kp), J k nf ns nr κ0 m0 κc κm → (∀ f, f < 3 → κc (k + 4 + f) 2 = 0) → ∃ (v1 : Int32) (κ1 κ2 : Kp), lp_X1_goMinutes k a n j v κc = (v1, κ1) ∧ lp_X5_pass a n j v κm = (v1, κ2) ∧ J k nf ns nr κ0 m0 κ1 κ2 ∧ (∀ f, f < 3 → κ1 (k + 4 + f) 2 = 0) := by
  intro n
  induction n with
  | zero => intro j v κc κm h hz; exact ⟨v, κc, κm, rfl, rfl, h, hz⟩
  | succ n ih =>
    intro j v κc κm h hz
    obtain ⟨v1, κ1, κ2, e1, e2, hJ, hz1⟩ := sim_minute hB h hz
    rw [lp_X1_goMinutes, lp_X5_pass, e1, e2]
    dsimp only
    exact ih (j + 1) (v + v1) κ1 κ2 hJ hz1
