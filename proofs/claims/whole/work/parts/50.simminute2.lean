section SIMN
variable {k nf ns nr : Nat} {κ0 m0 κc κm : Kp}
/-- a minute of the class's kitchen, and the reference's: one number of flares, and they stay alike -/
theorem sim_minute (hB : Bs k nf ns nr κ0 m0) (h : J k nf ns nr κ0 m0 κc κm) (hz : ∀ f, f < 3 → κc (k + 4 + f) 2 = 0) : ∃ (v : Int32) (κ1 κ2 : Kp), f_X1_goMinute κc k = (v, κ1) ∧ f_X5_minuteOn κm = (v, κ2) ∧ J k nf ns nr κ0 m0 κ1 κ2 ∧ (∀ f, f < 3 → κ1 (k + 4 + f) 2 = 0) := by
  have hnf := hB.2.2.1.1
  have e91 : κm 91 1 = nI nf := by rw [h.2.2.2.2 91 (by decide) (by decide) (by decide)]; exact hB.2.1.1
  obtain ⟨a1, a2, -⟩ := l4_spec hnf 3 0 κm rfl e91
  unfold f_X1_goMinute f_X5_minuteOn
  generalize lp_X5_minuteOn_4 3 0 κm = κm1 at a1 a2
  dsimp only
  have hJ1 : J k nf ns nr κ0 m0 κc κm1 := by
    obtain ⟨h1, h2, h3, h4, h5⟩ := h
    refine ⟨fun x hx => by rw [a1 96 (by decide)]; exact h1 x hx, fun x hx => by rw [a1 96 (by decide)]; exact h2 x hx, h3, h4, fun q q1 q2 q3 => by rw [a1 q q2]; exact h5 q q1 q2 q3⟩
  have hF1 : JF k nf ns nr κ0 m0 κc κm1 0 := ⟨hJ1, fun f hf => by rw [hz f (by omega), a2 f (Nat.zero_le f) hf], fun f _ hf => hz f hf, (sF_0 nf (fun f hf => a2 f (Nat.zero_le f) hf)).symm⟩
  obtain ⟨v1, κ1, e1, hF2⟩ := sim_spits hB 6 0 0 κc κm1 rfl hF1
  rw [e1]
  generalize lp_X5_minuteOn_27 6 0 κm1 = κm2 at hF2
  dsimp only
  obtain ⟨κm3, e3, hJ3, hz3⟩ := sim_burn hB 3 0 0 κ1 κm2 rfl (Nat.zero_le nf) ⟨hF2.1, fun f hf => absurd hf (Nat.not_lt_zero f), fun f _ hf => hF2.2.1 f hf, hF2.2.2.1⟩ rfl
  rw [e3]
  generalize lp_X1_goMinute_54 k 3 0 κ1 = κ3 at hJ3 hz3
  dsimp only
  have l6 : κ3 k 6 = κm3 96 0 := hJ3.1 0 (by omega)
  rw [l6]
  refine ⟨v1, _, _, rfl, by rw [hF2.2.2.2], J_minute hJ3, fun f hf => ?_⟩
  rw [up2_ne κ3 _ (Or.inl (by omega))]
  exact hz3 f hf
end SIMN
