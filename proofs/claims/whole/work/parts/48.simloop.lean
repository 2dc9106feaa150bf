theorem roastFor_none {κ : Kp} {k q : Nat} (h : κ q 5 = -1) : f_X1_roastForAMinute κ k q = (bi false, κ) := by
  unfold f_X1_roastForAMinute
  have e : f_X1_roastAt κ k (κ q 5) = none := by
    unfold f_X1_roastAt
    rw [h, if_pos (by decide)]
  rw [e]
  cases f_X1_fireAt κ k (κ q 0) <;> rfl
theorem mT_lp {n j : Nat} {κ : Kp} {r : Int32} : (if f_X5_sp (f_X5_letSpit κ (nI j) 3 (f_X5_sp κ (nI j) 3 + 1)) (nI j) 4 ≤ 0 then lp_X5_minuteOn_27 n (j + 1) (f_X5_letSpit κ (nI j) 3 (f_X5_sp κ (nI j) 3 + 1)) else if f_X5_sp (f_X5_letSpit κ (nI j) 3 (f_X5_sp κ (nI j) 3 + 1)) (nI j) 3 - f_X5_sp (f_X5_letSpit κ (nI j) 3 (f_X5_sp κ (nI j) 3 + 1)) (nI j) 3 / f_X5_sp (f_X5_letSpit κ (nI j) 3 (f_X5_sp κ (nI j) 3 + 1)) (nI j) 4 * f_X5_sp (f_X5_letSpit κ (nI j) 3 (f_X5_sp κ (nI j) 3 + 1)) (nI j) 4 = 0 then lp_X5_minuteOn_27 n (j + 1) (f_X5_turn (f_X5_letSpit κ (nI j) 3 (f_X5_sp κ (nI j) 3 + 1)) r) else lp_X5_minuteOn_27 n (j + 1) (f_X5_letSpit κ (nI j) 3 (f_X5_sp κ (nI j) 3 + 1))) = lp_X5_minuteOn_27 n (j + 1) (mT κ j r) := by
  unfold mT
  by_cases c1 : f_X5_sp (f_X5_letSpit κ (nI j) 3 (f_X5_sp κ (nI j) 3 + 1)) (nI j) 4 ≤ 0
  · rw [if_pos c1, if_pos c1]
  · rw [if_neg c1, if_neg c1]
    by_cases c2 : f_X5_sp (f_X5_letSpit κ (nI j) 3 (f_X5_sp κ (nI j) 3 + 1)) (nI j) 3 - f_X5_sp (f_X5_letSpit κ (nI j) 3 (f_X5_sp κ (nI j) 3 + 1)) (nI j) 3 / f_X5_sp (f_X5_letSpit κ (nI j) 3 (f_X5_sp κ (nI j) 3 + 1)) (nI j) 4 * f_X5_sp (f_X5_letSpit κ (nI j) 3 (f_X5_sp κ (nI j) 3 + 1)) (nI j) 4 = 0
    · rw [if_pos c2, if_pos c2]
    · rw [if_neg c2, if_neg c2]
section SIML
variable {k nf ns nr : Nat} {κ0 m0 : Kp}
theorem J_holds {κc κm : Kp} (h : J k nf ns nr κ0 m0 κc κm) {j : Nat} (hj : j < 6) : ∃ hd : Nat, hd ≤ nr ∧ κm 96 (7 + 5 * j + 2) = nI hd ∧ κc (k + 7 + j) 5 = nI hd - 1 ∧ (ns ≤ j → hd = 0) := by
  obtain ⟨hd, h1, h2, h3⟩ := (h.2.1 (7 + 5 * j + 2) (by omega)).2.2.2.1 j hj rfl
  exact ⟨hd, h1, h2, by rw [(RX_spit h.1 hj).2.2.1, h2], h3⟩
theorem class_rest {κc κm : Kp} (h : J k nf ns nr κ0 m0 κc κm) : ∀ (n j : Nat) (v : Int32), j + n = 6 → ns ≤ j → lp_X1_goMinute_13 k n j v κc = (v, κc) := by
  intro n
  induction n with
  | zero => intro j v hj hn; rfl
  | succ n ih =>
    intro j v hj hn
    obtain ⟨hd, h1, h2, h3, h4⟩ := J_holds h (j := j) (by omega)
    have e0 := h4 hn
    subst e0
    rw [lp_X1_goMinute_13, roastFor_none (h3.trans (by decide))]
    dsimp only
    rw [if_pos bi_f]
    exact ih (j + 1) v (by omega) (by omega)
theorem sim_spits (hB : Bs k nf ns nr κ0 m0) : ∀ (n j : Nat) (v : Int32) (κc κm : Kp), j + n = 6 → JF k nf ns nr κ0 m0 κc κm v → ∃ (v1 : Int32) (κ1 : Kp), lp_X1_goMinute_13 k n j v κc = (v1, κ1) ∧ JF k nf ns nr κ0 m0 κ1 (lp_X5_minuteOn_27 n j κm) v1 := by
  intro n
  induction n with
  | zero => intro j v κc κm hj h; exact ⟨v, κc, rfl, h⟩
  | succ n ih =>
    intro j v κc κm hj h
    have hnf := hB.2.2.1.1
    have hns := hB.2.2.1.2.1
    have hnr := hB.2.2.1.2.2
    have e91 : κm 91 2 = nI ns := by rw [h.1.2.2.2.2 91 (by decide) (by decide) (by decide)]; exact hB.2.1.2
    rw [lp_X5_minuteOn_27, e91]
    by_cases c0 : ns ≤ j
    · rw [if_pos ((nIle (by omega) (by omega)).mpr c0)]
      exact ⟨v, κc, class_rest h.1 (n + 1) j v hj c0, h⟩
    · rw [if_neg (fun q => c0 ((nIle (by omega) (by omega)).mp q))]
      have hj6 : j < 6 := by omega
      obtain ⟨hd, h1, h2, h3, h4⟩ := J_holds h.1 hj6
      have es : f_X5_sp κm (nI j) 2 = nI hd := (sp_N (w := 2) hj6 (by decide)).trans h2
      rw [es]
      cases hd with
      | zero =>
        rw [if_neg (show ¬ (0 : Int32) ≤ nI 0 - 1 by decide)]
        rw [lp_X1_goMinute_13, roastFor_none (h3.trans (by decide))]
        dsimp only
        rw [if_pos bi_f]
        exact ih (j + 1) v κc κm (by omega) h
      | succ r =>
        rw [nI_pred] at h3 ⊢
        have c9 : (0 : Int32) ≤ nI r := (nIle (a := 0) (b := r) (by decide) (by omega)).mpr (by omega)
        rw [if_pos c9]
        obtain ⟨f, hf, ef, -⟩ := J_place hB h.1 (j := j) (by omega)
        obtain ⟨gl, hgl, eg1, eg2⟩ := sim_glowOf hB h.1 (j := j) (by omega)
        obtain ⟨a, ha, ea1, hJ1, ea2, e95⟩ := sim_glow (i := r) (j := j) h.1 (by omega) hnr hgl eg2
        have hF1 := JF_of h hJ1 (fun f hf => FrK_glow (k := k + 7) (κ0 := κc) (κ := κc) (p := k + 13 + 2 * r) (a := nI gl) FrK.rfl (by omega) (k + 4 + f) (by omega)) e95 hnf
        obtain ⟨f2, hf2, ef2, em2⟩ := J_place hB hJ1 (j := j) (by omega)
        obtain ⟨b, κ1, eD, hF2⟩ := sim_D (i := r) (j := j) (f := f2) hF1 (by omega) hnr hj6 hnf ha ea2 hf2 em2
        have hF3 := sim_T (i := r) (j := j) hF2 (by omega) hnr hj6 hnf
        have eff : f2 = f := by
          have q1 : (f_X2_getGlow κc (k + 13 + 2 * r) (nI gl)).2 (k + 7 + j) 0 = κc (k + 7 + j) 0 := by
            have z1 := hJ1.2.2.1 (7 + j) 0 (stc_spit j hj6)
            have z2 := h.1.2.2.1 (7 + j) 0 (stc_spit j hj6)
            rw [show k + (7 + j) = k + 7 + j by omega] at z1 z2
            rw [z1, z2]
          rw [ef2, ef] at q1
          exact (nIeq (by omega) (by omega)).mp q1
        subst eff
        have er : f_X1_roastForAMinute κc k (k + 7 + j) = (bi b, cT κ1 (k + 7 + j) (k + 13 + 2 * r)) := by
          rw [roastFor_eq (p := k + 13 + 2 * r) (p3 := k + 4 + f2) (by rw [h3]; exact roastAt_N (J_cnt hB h.1).2.2 (by omega) hnr) (by rw [ef]; exact fireAt_N (J_cnt hB h.1).1 hf hnf), eg1, ea1, eD]
        rw [lp_X1_goMinute_13, er]
        dsimp only
        rw [mT_lp]
        cases b with
        | false =>
          rw [if_pos bi_f]
          exact ih (j + 1) v _ _ (by omega) hF3
        | true =>
          rw [if_neg bi_t]
          exact ih (j + 1) (v + 1) _ _ (by omega) hF3
end SIML
