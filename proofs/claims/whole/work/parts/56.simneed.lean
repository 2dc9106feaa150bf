theorem isIn_cnt2 {a : Int32} {n : Nat} (hn : n < 2 ^ 30) : f_X5_isIn a 0 (nI n - 1) = true ↔ vp_in a n := by
  constructor
  · intro h
    exact (cnt_in (c := nI n) (n := n) (vp_in_nI (by omega) (by omega)) hn h).1
  · intro h
    obtain ⟨i, hi, rfl⟩ := vp_in_of h (by omega)
    unfold f_X5_isIn
    cases n with
    | zero => omega
    | succ n => rw [nI_pred, if_neg (nI0 (by omega)), if_neg (by rw [nIlt (by omega) (by omega)]; omega)]
theorem vin_no {a : Int32} {n : Nat} (hn : n < 2 ^ 30) (h : ¬ vp_in a n) (h0 : ¬ a < 0) : nI n ≤ a := by
  rw [vp_in_iff] at h
  rw [Int32.lt_iff_toInt_lt, show (0 : Int32).toInt = 0 from rfl] at h0
  rw [Int32.le_iff_toInt_le, nI_toInt (by omega)]
  omega
theorem spitAt_N {κ : Kp} {k i ns : Nat} (h : κ k 4 = nI ns) (hi : i < ns) (hns : ns ≤ 6) : f_X1_spitAt κ k (nI i) = some (k + 7 + i) := by
  unfold f_X1_spitAt
  have c3 : ¬ (6 : Int32) ≤ nI i := fun q => by
    have := (nIle (a := 6) (b := i) (by decide) (by omega)).mp q
    omega
  rw [if_neg (nI0 (by omega)), h, if_neg (by rw [nIle (by omega) (by omega)]; omega), if_neg c3, nI_clamp (by omega)]
theorem fireAt_no {κ : Kp} {k n : Nat} {a : Int32} (h : κ k 3 = nI n) (hn : n ≤ 3) (hv : ¬ vp_in a n) : f_X1_fireAt κ k a = none := by
  unfold f_X1_fireAt
  by_cases c : a < 0
  · rw [if_pos c]
  · rw [if_neg c, h, if_pos (vin_no (by omega) hv c)]
theorem spitAt_no {κ : Kp} {k n : Nat} {a : Int32} (h : κ k 4 = nI n) (hn : n ≤ 6) (hv : ¬ vp_in a n) : f_X1_spitAt κ k a = none := by
  unfold f_X1_spitAt
  by_cases c : a < 0
  · rw [if_pos c]
  · rw [if_neg c, h, if_pos (vin_no (by omega) hv c)]
theorem roastAt_no {κ : Kp} {k n : Nat} {a : Int32} (h : κ k 5 = nI n) (hn : n ≤ 16) (hv : ¬ vp_in a n) : f_X1_roastAt κ k a = none := by
  unfold f_X1_roastAt
  by_cases c : a < 0
  · rw [if_pos c]
  · rw [if_neg c, h, if_pos (vin_no (by omega) hv c)]
theorem bool_no {b : Bool} {p : Prop} (h : b = true ↔ p) (hp : ¬ p) : b = false := by
  cases b
  · rfl
  · exact absurd (h.mp rfl) hp
/-- there is such a fire, or not: alike in the class and the reference -/
theorem fire_cases {κ : Kp} {n : Nat} (a : Int32) (h1 : κ 1 3 = nI n) (h2 : κ 91 1 = nI n) (hn : n ≤ 3) : (∃ i, i < n ∧ a = nI i ∧ f_X4_needFire κ a = .inr (1 + 4 + i) ∧ f_X5_isFire κ a = true) ∨ (f_X4_needFire κ a = .inl (nIOE, κ) ∧ f_X5_isFire κ a = false) := by
  unfold f_X4_needFire f_X5_isFire
  rw [h2]
  by_cases c : vp_in a n
  · have hb := (isIn_cnt2 (a := a) (n := n) (by omega)).mpr c
    obtain ⟨i, hi, rfl⟩ := vp_in_of c (by omega)
    exact Or.inl ⟨i, hi, rfl, by rw [fireAt_N h1 hi hn], hb⟩
  · exact Or.inr ⟨by rw [fireAt_no h1 hn c], bool_no (isIn_cnt2 (by omega)) c⟩
theorem spit_cases {κ : Kp} {n : Nat} (a : Int32) (h1 : κ 1 4 = nI n) (h2 : κ 91 2 = nI n) (hn : n ≤ 6) : (∃ i, i < n ∧ a = nI i ∧ f_X4_needSpit κ a = .inr (1 + 7 + i) ∧ f_X5_isSpit κ a = true) ∨ (f_X4_needSpit κ a = .inl (nIOE, κ) ∧ f_X5_isSpit κ a = false) := by
  unfold f_X4_needSpit f_X5_isSpit
  rw [h2]
  by_cases c : vp_in a n
  · have hb := (isIn_cnt2 (a := a) (n := n) (by omega)).mpr c
    obtain ⟨i, hi, rfl⟩ := vp_in_of c (by omega)
    exact Or.inl ⟨i, hi, rfl, by rw [spitAt_N h1 hi hn], hb⟩
  · exact Or.inr ⟨by rw [spitAt_no h1 hn c], bool_no (isIn_cnt2 (by omega)) c⟩
theorem roast_cases {κ : Kp} {n : Nat} (a : Int32) (h1 : κ 1 5 = nI n) (h2 : κ 91 3 = nI n) (hn : n ≤ 16) : (∃ i, i < n ∧ a = nI i ∧ f_X4_needRoast κ a = .inr (1 + 13 + 2 * i) ∧ f_X5_isRoast κ a = true) ∨ (f_X4_needRoast κ a = .inl (nIOE, κ) ∧ f_X5_isRoast κ a = false) := by
  unfold f_X4_needRoast f_X5_isRoast
  rw [h2]
  by_cases c : vp_in a n
  · have hb := (isIn_cnt2 (a := a) (n := n) (by omega)).mpr c
    obtain ⟨i, hi, rfl⟩ := vp_in_of c (by omega)
    exact Or.inl ⟨i, hi, rfl, by rw [roastAt_N h1 hi hn], hb⟩
  · exact Or.inr ⟨by rw [roastAt_no h1 hn c], bool_no (isIn_cnt2 (by omega)) c⟩
