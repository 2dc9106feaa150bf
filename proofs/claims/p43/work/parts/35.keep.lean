/-- the ranges, from the kinds of places -/
theorem Rg.mk {nf ns nr : Nat} {κ : Kp} (hns : ns ≤ 6) (hnr : nr ≤ 16) (h1 : ∀ i, i < 3 → vp_in (κ (5 + i) 0) (if i < nf then 41 else 1) ∧ vp_in (κ (5 + i) 1) (if i < nf then 10 else 1) ∧ κ (5 + i) 2 = 0)
    (h2 : ∀ i, i < 6 → (i < ns → vp_in (κ (8 + i) 0) nf ∧ vp_in (κ (8 + i) 1) 4) ∧ vp_in (κ (8 + i) 2) (if i < ns then 10 else 1) ∧ (ns ≤ i → κ (8 + i) 3 = 0) ∧ vp_in (κ (8 + i) 4) (if i < ns then 21 else 1))
    (h3 : ∀ j, j < 16 → (j < nr → vp_in (κ (14 + 2 * j) 1) 13) ∧ vp_in (κ (14 + 2 * j) 3) (if j < nr then 4 else 1) ∧ vp_in (κ (14 + 2 * j) 5) (if j < nr then 4 else 1) ∧ ∀ w, w < 4 → vp_in (κ (15 + 2 * j) w) (if j < nr then 100 else 1)) : Rg nf ns nr κ := by
  intro k f
  unfold hiT
  by_cases c5 : 5 ≤ k ∧ k < 8
  · obtain ⟨i, rfl⟩ : ∃ i, k = 5 + i := ⟨k - 5, by omega⟩
    obtain ⟨a, b, c⟩ := h1 i (by omega)
    rw [if_pos c5]
    by_cases f0 : f = 0
    · subst f0
      rw [if_pos rfl, show (if 5 + i < 5 + nf then 41 else 1) = (if i < nf then 41 else 1) by by_cases c : i < nf <;> simp [c]]
      exact fun _ => a
    · rw [if_neg f0]
      by_cases f1 : f = 1
      · subst f1
        rw [if_pos rfl, show (if 5 + i < 5 + nf then 10 else 1) = (if i < nf then 10 else 1) by by_cases c : i < nf <;> simp [c]]
        exact fun _ => b
      · rw [if_neg f1]
        by_cases f2 : f = 2
        · subst f2
          rw [if_pos rfl]
          exact fun _ => by rw [c]; exact vp_0 (by decide)
        · rw [if_neg f2]; exact fun h => absurd rfl h
  · rw [if_neg c5]
    by_cases c8 : 8 ≤ k ∧ k < 14
    · obtain ⟨i, rfl⟩ : ∃ i, k = 8 + i := ⟨k - 8, by omega⟩
      obtain ⟨a, b, c, d⟩ := h2 i (by omega)
      rw [if_pos c8]
      by_cases f0 : f = 0
      · subst f0
        rw [if_pos rfl]
        by_cases ci : 8 + i < 8 + ns
        · rw [if_pos ci]; exact fun _ => (a (by omega)).1
        · rw [if_neg ci]; exact fun h => absurd rfl h
      · rw [if_neg f0]
        by_cases f1 : f = 1
        · subst f1
          rw [if_pos rfl]
          by_cases ci : 8 + i < 8 + ns
          · rw [if_pos ci]; exact fun _ => (a (by omega)).2
          · rw [if_neg ci]; exact fun h => absurd rfl h
        · rw [if_neg f1]
          by_cases f2 : f = 2
          · subst f2
            rw [if_pos rfl, show (if 8 + i < 8 + ns then 10 else 1) = (if i < ns then 10 else 1) by by_cases c : i < ns <;> simp [c]]
            exact fun _ => b
          · rw [if_neg f2]
            by_cases f3 : f = 3
            · subst f3
              rw [if_pos rfl]
              by_cases ci : 8 + i < 8 + ns
              · rw [if_pos ci]; exact fun h => absurd rfl h
              · rw [if_neg ci]; exact fun _ => by rw [c (by omega)]; exact vp_0 (by decide)
            · rw [if_neg f3]
              by_cases f4 : f = 4
              · subst f4
                rw [if_pos rfl, show (if 8 + i < 8 + ns then 21 else 1) = (if i < ns then 21 else 1) by by_cases c : i < ns <;> simp [c]]
                exact fun _ => d
              · rw [if_neg f4]; exact fun h => absurd rfl h
    · rw [if_neg c8]
      by_cases c14 : 14 ≤ k ∧ k < 46
      · rw [if_pos c14]
        by_cases ev : k % 2 = 0
        · obtain ⟨j, rfl⟩ : ∃ j, k = 14 + 2 * j := ⟨(k - 14) / 2, by omega⟩
          obtain ⟨a, b, c, d⟩ := h3 j (by omega)
          rw [if_pos ev]
          by_cases f1 : f = 1
          · subst f1
            rw [if_pos rfl]
            by_cases ci : 14 + 2 * j < 14 + 2 * nr
            · rw [if_pos ci]; exact fun _ => a (by omega)
            · rw [if_neg ci]; exact fun h => absurd rfl h
          · rw [if_neg f1]
            by_cases f3 : f = 3
            · subst f3
              rw [if_pos rfl, show (if 14 + 2 * j < 14 + 2 * nr then 4 else 1) = (if j < nr then 4 else 1) by by_cases c : j < nr <;> simp [c]]
              exact fun _ => b
            · rw [if_neg f3]
              by_cases f5 : f = 5
              · subst f5
                rw [if_pos rfl, show (if 14 + 2 * j < 14 + 2 * nr then 4 else 1) = (if j < nr then 4 else 1) by by_cases c : j < nr <;> simp [c]]
                exact fun _ => c
              · rw [if_neg f5]; exact fun h => absurd rfl h
        · obtain ⟨j, rfl⟩ : ∃ j, k = 15 + 2 * j := ⟨(k - 15) / 2, by omega⟩
          obtain ⟨a, b, c, d⟩ := h3 j (by omega)
          rw [if_neg ev]
          by_cases f4 : f < 4
          · rw [if_pos f4, show (if 15 + 2 * j < 14 + 2 * nr then 100 else 1) = (if j < nr then 100 else 1) by by_cases c : j < nr <;> simp [c] <;> omega]
            exact fun _ => d f f4
          · rw [if_neg f4]; exact fun h => absurd rfl h
      · rw [if_neg c14]; exact fun h => absurd rfl h
theorem CM_Iv {nf ns nr : Nat} {κ κ' : Kp} {v : Int32} (hI : Iv nf ns nr κ) (h : CM κ v κ') : Iv nf ns nr κ' := by
  have hI0 := hI
  obtain ⟨⟨hnf, hns, hnr, hpos⟩, ⟨c3, c4, c5⟩, hR, hZ, hM⟩ := hI
  obtain ⟨m1, m2, m3, m4, m5, m6⟩ := h
  have s5 : ∀ i, i < 6 → κ' (8 + i) 5 = κ (8 + i) 5 := fun i hi => by rw [m1 i hi]; exact fS_at κ i (by decide) (by decide)
  have ron : ∀ j, j < 16 → ∀ f, f ≠ 5 → f ≠ 4 → f ≠ 3 → κ' (14 + 2 * j) f = κ (14 + 2 * j) f := by
    intro j hj f f5 f4 f3
    by_cases c : κ (14 + 2 * j) 2 < 0
    · rw [((m2 j hj).2 c).1]
    · rw [((m2 j hj).1 c).1]; exact rowR_at κ _ j f5 f4 f3
  refine ⟨⟨hnf, hns, hnr, hpos⟩, ⟨?_, ?_, ?_⟩, ?_, ⟨fun i hi => ?_, fun j hj => ?_⟩, hM.of hns hnr s5 (fun j hj => ron j hj 2 (by decide) (by decide) (by decide))⟩
  · rw [m4, va_up_ne _ _ (by decide)]; exact c3
  · rw [m4, va_up_ne _ _ (by decide)]; exact c4
  · rw [m4, va_up_ne _ _ (by decide)]; exact c5
  · refine Rg.mk hns hnr (fun i hi => ?_) (fun i hi => ?_) (fun j hj => ?_)
    · rw [m3 i hi]
      unfold bF
      rw [va_up_self, va_up_ne _ _ (by decide), va_up_ne _ _ (by decide), va_up_self, va_up_ne _ _ (show (1 : Nat) ≠ 2 by decide), va_up_self, va_up_ne _ _ (by decide), va_up_ne _ _ (by decide), va_up_self]
      have hl := hR.logs hi
      refine ⟨nL_in hl (by split <;> decide), ?_, rfl⟩
      by_cases c : i < nf
      · rw [if_pos c]; exact mx_in _
      · have h1 := hR.heat hi
        rw [if_neg c] at h1 hl ⊢
        rw [cf_0 hI0 (by omega) hi, vp_1 hl, vp_1 h1]
        exact vin_lit (by decide)
    · rw [m1 i hi, fS_at κ i (by decide) (by decide), fS_at κ i (by decide) (by decide), fS_at κ i (by decide) (by decide)]
      refine ⟨fun q => ⟨hR.fire q hns (by omega), hR.feet q hns⟩, hR.each hi, fun q => ?_, ?_⟩
      · unfold fS
        by_cases c : κ (8 + i) 5 < 0
        · rw [if_pos c]; exact hR.count hi q
        · obtain ⟨j, q1, -⟩ := hM.hd hnr hi c
          omega
      · have hd := hR.drip hi
        unfold fS
        by_cases c : κ (8 + i) 5 < 0
        · rw [if_pos c]; exact hd
        · rw [if_neg c, rowS_4]
          by_cases cd : (dr κ i (κ (8 + i) 5).toNatClampNeg && !fu κ i) = true
          · obtain ⟨j, q1, -⟩ := hM.hd hnr hi c
            rw [if_pos cd]
            rw [if_pos q1] at hd ⊢
            rw [Bool.and_eq_true, Bool.not_eq_true'] at cd
            have hfu := cd.2
            unfold fu at hfu
            rw [Bool.not_eq_false', decide_eq_true_eq] at hfu
            obtain ⟨k, hk, e⟩ := vp_in_of hd (by decide)
            rw [e] at hfu ⊢
            have := (nIlt (a := k) (b := 20) (by omega) (by decide)).mp hfu
            rw [nI_1]
            exact vp_in_nI (by omega) (by decide)
          · rw [if_neg cd]; exact hd
    · refine ⟨fun q => ?_, ?_, ?_, fun w hw => ?_⟩
      · rw [ron j hj 1 (by decide) (by decide) (by decide)]; exact hR.pounds q hnr
      · have hs := hR.side hj
        by_cases c : κ (14 + 2 * j) 2 < 0
        · rw [((m2 j hj).2 c).1]; exact hs
        · rw [((m2 j hj).1 c).1, rowR_3]
          obtain ⟨i, q1, q2, -⟩ := hM.sp hns hj c
          rw [if_pos q2] at hs ⊢
          split
          · exact (nx_in hs).1
          · exact hs
      · have hw := hR.wet hj
        by_cases c : κ (14 + 2 * j) 2 < 0
        · rw [((m2 j hj).2 c).1]; exact hw
        · rw [((m2 j hj).1 c).1, rowR_5]
          exact wR_5 _ hw (by split <;> decide)
      · by_cases c : κ (14 + 2 * j) 2 < 0
        · rw [((m2 j hj).2 c).2]; exact hR.brown hj hw
        · rw [((m2 j hj).1 c).2]
          obtain ⟨i, q1, q2, q3, q4, q5⟩ := hM.sp hns hj c
          rw [if_pos q2]
          have hs := hR.side hj
          rw [if_pos q2] at hs
          exact (bR_in (fun w hw => by have := hR.brown hj hw; rw [if_pos q2] at this; exact this) hs (gG_in (by rw [q5]; exact gl_in hI0 q1)) w hw).1
  · rw [m1 i (by omega), fS_at κ i (by decide) (by decide)]; exact hZ.1 i hi
  · rw [ron j (by omega) 1 (by decide) (by decide) (by decide)]
    refine ⟨(hZ.2 j hj).1, ?_⟩
    have hf := (hZ.2 j hj).2
    by_cases c : κ (14 + 2 * j) 2 < 0
    · rw [((m2 j (by omega)).2 c).1]; exact hf
    · rw [((m2 j (by omega)).1 c).1, rowR_4]
      split
      · rename_i hd
        have hp := hR.pounds hj hnr
        obtain ⟨p, hp1, ep⟩ := vp_in_of hp (by decide)
        rw [ep, nI_clamp (by omega)] at hf ⊢
        obtain ⟨k, hk, h0, e⟩ := lit_n hf (by omega) (dr_fat hd)
        rw [e, nI_sub1 h0]
        exact vp_in_nI (by omega) (by omega)
      · exact hf
