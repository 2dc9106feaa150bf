def cD (κ : Kp) (p q p3 : Nat) (a : Int32) : Int32 × Kp := match f_X2_drips κ p a with | (r2, κ2) => if r2 = 0 then (bi false, κ2) else match f_X3_takesDripping κ2 q with | (r4, κ5) => if r4 = 0 then (bi true, up2 κ5 p3 2 (κ5 p3 2 + 1)) else (bi false, κ5)
theorem i32_pos {x : Int32} (h0 : 0 ≤ x) (h : ¬ x = 0) : 0 < x ∧ 0 ≤ x - 1 := by
  rw [Int32.le_iff_toInt_le] at h0
  have e0 : (0 : Int32).toInt = 0 := rfl
  have hne : ¬ x.toInt = 0 := fun q => h (Int32.toInt_inj.mp (by rw [q]; rfl))
  have hlt := x.toInt_lt
  refine ⟨by rw [Int32.lt_iff_toInt_lt]; omega, ?_⟩
  rw [Int32.le_iff_toInt_le, Int32.toInt_sub, show (1 : Int32).toInt = 1 from rfl, Int.bmod_eq_of_le (by omega) (by omega)]
  omega
theorem roastFor_eq {κ : Kp} {k q p p3 : Nat} (h1 : f_X1_roastAt κ k (κ q 5) = some p) (h2 : f_X1_fireAt κ k (κ q 0) = some p3) : f_X1_roastForAMinute κ k q = ((cD (f_X2_getGlow κ p (f_X1_glowOf κ k q)).2 p q p3 (f_X2_getGlow κ p (f_X1_glowOf κ k q)).1).1, cT (cD (f_X2_getGlow κ p (f_X1_glowOf κ k q)).2 p q p3 (f_X2_getGlow κ p (f_X1_glowOf κ k q)).1).2 q p) := by
  unfold f_X1_roastForAMinute
  rw [h1, h2]
  dsimp only
  generalize f_X2_getGlow κ p (f_X1_glowOf κ k q) = w1
  obtain ⟨r1, κ1⟩ := w1
  unfold cD cT
  dsimp only
  generalize f_X2_drips κ1 p r1 = w2
  obtain ⟨r2, κ2⟩ := w2
  dsimp only
  by_cases c2 : r2 = 0
  · rw [if_pos c2, if_pos c2]
    dsimp only
    generalize f_X3_countsToTurn κ2 q = w3
    obtain ⟨r3, κ3⟩ := w3
    dsimp only
    by_cases c3 : r3 = 0
    · rw [if_pos c3, if_pos c3]
    · rw [if_neg c3, if_neg c3]
  · rw [if_neg c2, if_neg c2]
    generalize f_X3_takesDripping κ2 q = w4
    obtain ⟨r4, κ4⟩ := w4
    dsimp only
    by_cases c4 : r4 = 0
    · rw [if_pos c4, if_pos c4]
      dsimp only
      generalize f_X3_countsToTurn (up2 κ4 p3 2 (κ4 p3 2 + 1)) q = w5
      obtain ⟨r5, κ5⟩ := w5
      dsimp only
      by_cases c5 : r5 = 0
      · rw [if_pos c5, if_pos c5]
      · rw [if_neg c5, if_neg c5]
    · rw [if_neg c4, if_neg c4]
      dsimp only
      generalize f_X3_countsToTurn κ4 q = w5
      obtain ⟨r5, κ5⟩ := w5
      dsimp only
      by_cases c5 : r5 = 0
      · rw [if_pos c5, if_pos c5]
      · rw [if_neg c5, if_neg c5]
theorem bi_f : bi false = 0 := by decide
theorem bi_t : ¬ bi true = 0 := by decide
section SIMD
variable {k nf ns nr : Nat} {κ0 m0 κc κm : Kp} {v : Int32}
theorem JF_flare {f : Nat} (h : JF k nf ns nr κ0 m0 κc κm v) (hf : f < nf) (hnf : nf ≤ 3) : JF k nf ns nr κ0 m0 (up2 κc (k + 4 + f) 2 (κc (k + 4 + f) 2 + 1)) (up2 κm 95 f (κm 95 f + 1)) (v + 1) := by
  refine ⟨?_, fun f2 h2 => ?_, fun f2 h2 h3 => ?_, ?_⟩
  · have h1 := J_flare (v := κc (k + 4 + f) 2 + 1) (J_m (q := 95) (j := f) (v := κm 95 f + 1) h.1 (Or.inr rfl)) (i := f) (by omega)
    rw [show k + (4 + f) = k + 4 + f by omega] at h1
    exact h1
  · by_cases e : f2 = f
    · subst e
      rw [up2_self, up2_self, h.2.1 f2 h2]
    · rw [up2_ne κc _ (Or.inl (by omega)), up2_ne κm _ (Or.inr e)]
      exact h.2.1 f2 h2
  · rw [up2_ne κc _ (Or.inl (by omega))]
    exact h.2.2.1 f2 h2 h3
  · rw [sF_up nf hf, h.2.2.2]
theorem sim_D {i j f a : Nat} (h : JF k nf ns nr κ0 m0 κc κm v) (hi : i < nr) (hnr : nr ≤ 16) (hj : j < 6) (hnf : nf ≤ 3) (ha : a ≤ 9) (ea : κm 94 i = nI a) (hf : f < nf) (em : κm 92 j = nI f) :
    ∃ (b : Bool) (κ1 : Kp), cD κc (k + 13 + 2 * i) (k + 7 + j) (k + 4 + f) (nI a) = (bi b, κ1) ∧ JF k nf ns nr κ0 m0 κ1 (f_X5_drip κm (nI i) (nI j)) (if b then v + 1 else v) := by
  have hi2 : i < 16 := by omega
  have e4 : κc (k + 13 + 2 * i) 4 = κm 96 (37 + 8 * i + 2) := RX_roast h.1.1 hi2 (w := 2) (by decide) (by decide)
  have r2 : f_X5_ro κm (nI i) 2 = κm 96 (37 + 8 * i + 2) := ro_N (w := 2) hi2 (by decide)
  have hfat : 0 ≤ κm 96 (37 + 8 * i + 2) := ((h.1.2.1 (37 + 8 * i + 2) (by omega)).2.2.2.2 i hi2 2 (by omega) rfl).2.2.1 rfl
  unfold cD f_X2_drips f_X5_drip
  rw [nI_clamp (by omega), nI_clamp (by omega), ea, r2, e4]
  by_cases c : nI a < 2
  · refine ⟨false, κc, ?_, ?_⟩
    · rw [if_pos c]
      dsimp only
      rw [if_pos bi_f]
    · rw [if_pos c]; exact h
  · by_cases c2 : κm 96 (37 + 8 * i + 2) = 0
    · refine ⟨false, κc, ?_, ?_⟩
      · rw [if_neg c, if_neg (by rw [c2]; decide)]
        dsimp only
        rw [if_pos bi_f]
      · rw [if_neg c, if_pos c2]; exact h
    · obtain ⟨p1, p2⟩ := i32_pos hfat c2
      have hl : f_X5_let κm (nI i) 2 (κm 96 (37 + 8 * i + 2) - 1) = up2 κm 96 (37 + 8 * i + 2) (κm 96 (37 + 8 * i + 2) - 1) := let_N (w := 2) hi2 (by decide)
      rw [if_neg c, if_neg c, if_pos p1, if_neg c2, hl]
      have hJ : J k nf ns nr κ0 m0 (up2 κc (k + 13 + 2 * i) 4 (κm 96 (37 + 8 * i + 2) - 1)) (up2 κm 96 (37 + 8 * i + 2) (κm 96 (37 + 8 * i + 2) - 1)) :=
        J_roast (w := 2) h.1 hi2 (by decide) (by decide) (Gx_roast hi2 (by decide) (fun q => by omega) (fun q => by omega) (fun _ => p2) (fun q => by omega))
      have hF : JF k nf ns nr κ0 m0 (up2 κc (k + 13 + 2 * i) 4 (κm 96 (37 + 8 * i + 2) - 1)) (up2 κm 96 (37 + 8 * i + 2) (κm 96 (37 + 8 * i + 2) - 1)) v := JF_of h hJ (fun f hf => up2_row (by omega)) (up2_row (by decide)) hnf
      have em2 : (up2 κm 96 (37 + 8 * i + 2) (κm 96 (37 + 8 * i + 2) - 1)) 92 j = nI f := by rw [up2_row (by decide)]; exact em
      generalize up2 κc (k + 13 + 2 * i) 4 (κm 96 (37 + 8 * i + 2) - 1) = κ1 at hJ hF
      generalize up2 κm 96 (37 + 8 * i + 2) (κm 96 (37 + 8 * i + 2) - 1) = κ2 at hJ hF em2
      dsimp only
      rw [if_neg bi_t]
      unfold f_X3_takesDripping
      have d1 : κ1 (k + 7 + j) 4 = κ2 96 (7 + 5 * j + 1) := (RX_spit hJ.1 hj).2.1
      have d2 : f_X5_sp κ2 (nI j) 1 = κ2 96 (7 + 5 * j + 1) := sp_N (w := 1) hj (by decide)
      rw [d1, d2, em2, nI_clamp (show f < 2 ^ 31 by omega)]
      by_cases c3 : (20 : Int32) ≤ κ2 96 (7 + 5 * j + 1)
      · rw [if_pos c3, if_neg (Int32.not_lt.mpr c3)]
        refine ⟨true, up2 κ1 (k + 4 + f) 2 (κ1 (k + 4 + f) 2 + 1), ?_, ?_⟩
        · dsimp only
          rw [if_pos bi_f]
        · exact JF_flare hF hf hnf
      · rw [if_neg c3, if_pos (Int32.not_le.mp c3)]
        refine ⟨false, up2 κ1 (k + 7 + j) 4 (κ2 96 (7 + 5 * j + 1) + 1), ?_, ?_⟩
        · dsimp only
          rw [if_neg bi_t]
        · rw [show f_X5_letSpit κ2 (nI j) 1 (κ2 96 (7 + 5 * j + 1) + 1) = up2 κ2 96 (7 + 5 * j + 1) (κ2 96 (7 + 5 * j + 1) + 1) from letSpit_N (w := 1) hj (by decide)]
          exact JF_of hF (J_drips hJ hj) (fun f hf => up2_row (by omega)) (up2_row (by decide)) hnf
end SIMD
