section SIMU
variable {nf ns nr : Nat} {κ0 m0 : Kp}
/-- the class's answer of a look ahead -/
def ansD (p : Nat) (R : (Nat × Kp) ⊕ Kp) : Int32 := match R with | .inl (u, _) => nI u | .inr κ2 => if bi (f_X2_done κ2 p) = 0 then -1 else 200
def ansM (R : Nat × Kp) : Int32 := if nI R.1 ≤ nI 200 then nI R.1 else -1
theorem until_never {k : Nat} (hB : Bs k nf ns nr κ0 m0) {i : Nat} (hi : i < nr) : ∀ (n j : Nat) (κc κm : Kp), J k nf ns nr κ0 m0 κc κm → (∀ f, f < 3 → κc (k + 4 + f) 2 = 0) → f_X5_burnt m0 (nI i) = true → (lp_X5_until (nI i) 0 n j κm).1 = j + n := by
  intro n
  have hnr := hB.2.2.1.2.2
  induction n with
  | zero => intro j κc κm h hz hb; rfl
  | succ n ih =>
    intro j κc κm h hz hb
    have hb1 := burnt_stays h (by omega) hb
    obtain ⟨v, κ1, κ2, e1, e2, hJ, hz1⟩ := sim_minute hB h hz
    rw [lp_X5_until, if_pos rfl, burnt_not_done hb1, if_pos bi_f, e2]
    dsimp only
    rw [ih (j + 1) κ1 κ2 hJ hz1 hb]
    omega
theorem sim_until (hB : Bs 46 nf ns nr κ0 m0) {i : Nat} (hi : i < nr) (x : Int32) : ∀ (n j : Nat) (κc κm : Kp), j + n = 200 → J 46 nf ns nr κ0 m0 κc κm → (∀ f, f < 3 → κc (46 + 4 + f) 2 = 0) → ansD (46 + 13 + 2 * i) (lp_X4_aheadUntilDone x (46 + 13 + 2 * i) n j κc) = ansM (lp_X5_until (nI i) 0 (n + 1) j κm) := by
  intro n
  have hnr := hB.2.2.1.2.2
  induction n with
  | zero =>
    intro j κc κm hj h hz
    have hd := sim_done hB h hi
    obtain ⟨v, κ1, κ2, e1, e2, hJ, hz1⟩ := sim_minute hB h hz
    rw [lp_X4_aheadUntilDone, lp_X5_until, if_pos rfl]
    unfold ansD
    dsimp only
    rw [hd]
    cases f_X5_done κm (nI i) with
    | false =>
      rw [if_pos bi_f, if_pos bi_f, e2]
      dsimp only
      rw [lp_X5_until]
      unfold ansM
      rw [if_neg (show ¬ nI (j + 1) ≤ nI 200 by rw [nIle (by omega) (by decide)]; omega)]
    | true =>
      rw [if_neg bi_t, if_neg bi_t]
      unfold ansM
      dsimp only
      have e : j = 200 := by omega
      subst e
      rw [if_pos (show nI 200 ≤ nI 200 by rw [nIle (by decide) (by decide)]; exact Nat.le_refl _)]
      rfl
  | succ n ih =>
    intro j κc κm hj h hz
    have hd := sim_done hB h hi
    have hbn := sim_burnt hB h hi
    obtain ⟨v, κ1, κ2, e1, e2, hJ, hz1⟩ := sim_minute hB h hz
    rw [lp_X4_aheadUntilDone, hbn, hd]
    cases hb : f_X5_burnt κm (nI i) with
    | false =>
      rw [if_pos bi_f, lp_X5_until, if_pos rfl]
      cases f_X5_done κm (nI i) with
      | false =>
        rw [if_pos bi_f, if_pos bi_f, e1, e2]
        dsimp only
        exact ih (j + 1) κ1 κ2 (by omega) hJ hz1
      | true =>
        rw [if_neg bi_t, if_neg bi_t]
        unfold ansD ansM
        dsimp only
        rw [if_pos (show nI j ≤ nI 200 by rw [nIle (by omega) (by decide)]; omega)]
    | true =>
      rw [if_neg bi_t]
      have hn := until_never (Bs_base hB h) hi (n + 1 + 1) j κc κm (J_base h) hz hb
      unfold ansD ansM
      dsimp only
      rw [hd, burnt_not_done hb, if_pos bi_f, hn, if_neg (show ¬ nI (j + (n + 1 + 1)) ≤ nI 200 by rw [nIle (by omega) (by decide)]; omega)]
end SIMU
