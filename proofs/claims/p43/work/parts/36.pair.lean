section PAIR
variable {nf ns nr : Nat} {κ : Kp}
theorem pair_sum (hM : Mu ns nr κ) (hns : ns ≤ 6) (hnr : nr ≤ 16) (F : Nat → Nat → Nat) : sm (fun j => if κ (14 + 2 * j) 2 < 0 then 0 else F (κ (14 + 2 * j) 2).toNatClampNeg j) nr = sm (fun i => if κ (8 + i) 5 < 0 then 0 else F i (κ (8 + i) 5).toNatClampNeg) ns := by
  have e1 : ∀ j, j < nr → (if κ (14 + 2 * j) 2 < 0 then 0 else F (κ (14 + 2 * j) 2).toNatClampNeg j) = sm (fun i => if κ (8 + i) 5 = nI j then F i j else 0) ns := by
    intro j hj
    by_cases c : κ (14 + 2 * j) 2 < 0
    · rw [if_pos c, sm_0 ns (fun i hi => ?_)]
      by_cases e : κ (8 + i) 5 = nI j
      · rcases hM.1 i (by omega) with q | ⟨a, j2, b, c2, d⟩
        · rw [q] at e
          have := congrArg (fun x => decide (x < 0)) e
          rw [decide_eq_true n1_neg, decide_eq_false (nI0 (by omega))] at this
          cases this
        · rw [c2] at e
          have := (nIeq (by omega) (by omega)).mp e
          subst this
          rw [d] at c
          exact absurd c (nI0 (by omega))
      · rw [if_neg e]
    · obtain ⟨i, q1, q2, q3, q4, q5⟩ := hM.sp hns (by omega) c
      rw [if_neg c, q5, sm_one ns q1 (fun k hk hki => ?_), if_pos q4]
      by_cases e : κ (8 + k) 5 = nI j
      · rcases hM.1 k (by omega) with q | ⟨a, j2, b, c2, d⟩
        · rw [q] at e
          have := congrArg (fun x => decide (x < 0)) e
          rw [decide_eq_true n1_neg, decide_eq_false (nI0 (by omega))] at this
          cases this
        · rw [c2] at e
          have := (nIeq (by omega) (by omega)).mp e
          subst this
          rw [q3] at d
          have := (nIeq (by omega) (by omega)).mp d
          omega
      · rw [if_neg e]
  have e2 : ∀ i, i < ns → (if κ (8 + i) 5 < 0 then 0 else F i (κ (8 + i) 5).toNatClampNeg) = sm (fun j => if κ (8 + i) 5 = nI j then F i j else 0) nr := by
    intro i hi
    by_cases c : κ (8 + i) 5 < 0
    · rw [if_pos c, sm_0 nr (fun j hj => ?_)]
      rw [if_neg]
      intro e
      rw [e] at c
      exact nI0 (by omega) c
    · obtain ⟨j, q1, q2, q3, q4, q5⟩ := hM.hd hnr (by omega) c
      rw [if_neg c, q5, sm_one nr q2 (fun k hk hkj => ?_), if_pos q3]
      rw [if_neg]
      intro e
      rw [q3] at e
      have := (nIeq (by omega) (by omega)).mp e
      omega
  rw [sm_congr nr e1, sm_congr ns e2]
  exact (sm_swap ns nr)
/-- how often the fire flares for roast j -/
def fR (κ : Kp) (j : Nat) : Nat := if κ (14 + 2 * j) 2 < 0 then 0 else if (dr κ (κ (14 + 2 * j) 2).toNatClampNeg j && fu κ (κ (14 + 2 * j) 2).toNatClampNeg) = true then 1 else 0
def rf (κ : Kp) (f n : Nat) : Nat := sm (fun j => if κ (14 + 2 * j) 2 < 0 then 0 else if κ (8 + (κ (14 + 2 * j) 2).toNatClampNeg) 0 = nI f then fR κ j else 0) n
theorem fI_out (hM : Mu ns nr κ) {i : Nat} (hi : i < 6) (hn : ns ≤ i) : κ (8 + i) 5 < 0 := by
  rcases hM.1 i hi with q | ⟨a, -⟩
  · rw [q]; exact n1_neg
  · omega
theorem flares_eq (hM : Mu ns nr κ) (hns : ns ≤ 6) (hnr : nr ≤ 16) : sm (fR κ) nr = sm (fI κ) 6 := by
  have h := pair_sum hM hns hnr (fun i j => if (dr κ i j && fu κ i) = true then 1 else 0)
  rw [sm_ext (f := fI κ) hns (fun i a b => by unfold fI; rw [if_pos (fI_out hM b a)])]
  exact h
theorem flare_eq (hM : Mu ns nr κ) (hns : ns ≤ 6) (hnr : nr ≤ 16) (f : Nat) : rf κ f nr = cf κ f 6 := by
  have h := pair_sum hM hns hnr (fun i j => if κ (8 + i) 0 = nI f then (if (dr κ i j && fu κ i) = true then 1 else 0) else 0)
  unfold cf rf
  rw [sm_ext (n := ns) (m := 6) hns (fun i a b => by
    by_cases c : κ (8 + i) 0 = nI f
    · rw [if_pos c]; unfold fI; rw [if_pos (fI_out hM b a)]
    · rw [if_neg c])]
  rw [sm_congr nr (g := fun j => if κ (14 + 2 * j) 2 < 0 then 0 else (if κ (8 + (κ (14 + 2 * j) 2).toNatClampNeg) 0 = nI f then (if (dr κ (κ (14 + 2 * j) 2).toNatClampNeg j && fu κ (κ (14 + 2 * j) 2).toNatClampNeg) = true then 1 else 0) else 0)) (fun j hj => ?_), h]
  · refine sm_congr ns (fun i hi => ?_)
    by_cases c : κ (8 + i) 5 < 0
    · rw [if_pos c]
      unfold fI
      rw [if_pos c, ite_self]
    · rw [if_neg c]
      unfold fI
      rw [if_neg c]
  · by_cases c : κ (14 + 2 * j) 2 < 0
    · rw [if_pos c, if_pos c]
    · rw [if_neg c, if_neg c]
      unfold fR
      rw [if_neg c]
end PAIR
