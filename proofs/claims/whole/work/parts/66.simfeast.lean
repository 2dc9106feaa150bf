/-- many minutes, counted in the class and by the clock in the reference -/
theorem sim_minutesF {k nf ns nr : Nat} {κ0 m0 : Kp} (hB : Bs k nf ns nr κ0 m0) (a : Int32) : ∀ (n j : Nat) (v : Int32) (κc κm : Kp), J k nf ns nr κ0 m0 κc κm → (∀ f, f < 3 → κc (k + 4 + f) 2 = 0) → ∃ (v1 : Int32) (κ1 : Kp), lp_X1_goMinutes k a n j v κc = (v1, κ1) ∧ J k nf ns nr κ0 m0 κ1 (lp_X5_doneAtFeast_32 n j κm) := by
  intro n
  induction n with
  | zero => intro j v κc κm h hz; exact ⟨v, κc, rfl, h⟩
  | succ n ih =>
    intro j v κc κm h hz
    obtain ⟨v1, κ1, κ2, e1, e2, hJ, hz1⟩ := sim_minute hB h hz
    rw [lp_X1_goMinutes, lp_X5_doneAtFeast_32, e1, e2]
    dsimp only
    exact ih (j + 1) (v + v1) κ1 κ2 hJ hz1
theorem sim_count {k nf ns nr : Nat} {κ0 m0 κc κm : Kp} (hB : Bs k nf ns nr κ0 m0) (h : J k nf ns nr κ0 m0 κc κm) (h3 : κm 91 3 = nI nr) : ∀ (n j : Nat) (v : Int32), j + n = 16 → lp_X1_countDone κc k n j v = lp_X5_doneAtFeast_57 κm n j v := by
  intro n
  have hc := J_cnt hB h
  have hnr := hB.2.2.1.2.2
  induction n with
  | zero => intro j v hj; rfl
  | succ n ih =>
    intro j v hj
    rw [lp_X1_countDone, lp_X5_doneAtFeast_57, hc.2.2, h3]
    by_cases c : nI nr ≤ nI j
    · rw [if_pos c, if_pos c]
    · rw [if_neg c, if_neg c]
      rw [nIle (by omega) (by omega)] at c
      rw [sim_done hB h (i := j) (by omega), Int32.add_zero, ih (j + 1) v (by omega), ih (j + 1) (v + 1) (by omega)]
theorem sim_op_doneAtFeast : SimFe SS (fun κ => f_X4_doneAtFeast κ) (fun κ => f_X5_doneAtFeast κ) := by
  intro t κ ht hS k κ1 e
  obtain ⟨nf, ns, nr, a0, b0, c0, d0, e0, f0, g0⟩ := id hS
  obtain ⟨hnf, hns, hnr⟩ := b0.2.2.1
  have e : f_X4_doneAtFeast κ = (k, κ1) := e
  have h6 : κ 1 6 = κ 96 0 := a0.1 0 (by decide)
  -- the class's answer leaves all but the second kitchen
  have fin : ∀ (κc : Kp) (v : Int32), FrK 46 κ κc → f_X4_doneAtFeast κ = (v, κc) → (∀ m0 : Kp, m0 = up2 κc 91 0 0 → SS t m0 → (∀ q, ¬ q = 91 → ¬ (46 ≤ q ∧ q < 91) → m0 q = κ q) → (∀ j, 0 < j → m0 91 j = κ 91 j) → ∃ κm, f_X5_doneAtFeast κc = (v, κm) ∧ Lk m0 κm) → (MI κ1 ∧ (0 ≤ (κ1 96 0).toInt ∧ (κ1 96 0).toInt < 2 ^ 29) ∧ (0 ≤ (κ1 91 4).toInt ∧ (κ1 91 4).toInt < 2 ^ 29)) ∧ ∀ r κ2, f_X5_doneAtFeast κ1 = (r, κ2) → k = r ∧ SS (t + 1) κ2 := by
    intro κc v hfr ec key
    obtain ⟨rfl, rfl⟩ := Prod.mk.inj (ec.symm.trans e)
    have r0 : ∀ q, ¬ (46 ≤ q ∧ q < 91) → κc q = κ q := fun q h => hfr q (by omega)
    have hS1 : SS t κc := SS_of hS (fun q hq => r0 q (by omega)) (r0 92 (by omega)) (r0 93 (by omega)) (r0 96 (by omega)) (fun j hj => by rw [r0 91 (by omega)])
    refine ⟨⟨SS_MI hS1, by rw [r0 96 (by omega)]; exact ⟨f0.1, by have := f0.2; omega⟩, by rw [r0 91 (by omega)]; exact ⟨e0.1, by omega⟩⟩, fun r κ2 e2 => ?_⟩
    obtain ⟨κm, eX, hL⟩ := key (up2 κc 91 0 0) rfl (SS_th hS1) (fun q h1 h2 => by rw [up2_row h1]; exact r0 q h2) (fun j hj => by rw [up2_ne _ _ (Or.inr (by omega)), r0 91 (by omega)])
    rw [eX] at e2
    obtain ⟨rfl, rfl⟩ := Prod.mk.inj e2
    exact ⟨rfl, SS_mono (SS_Lk (SS_th hS1) hL)⟩
  have eM : ∀ m0 : Kp, (∀ q, ¬ q = 91 → ¬ (46 ≤ q ∧ q < 91) → m0 q = κ q) → (∀ j, 0 < j → m0 91 j = κ 91 j) → m0 91 4 - m0 96 0 = κ 1 7 - κ 1 6 := fun m0 r1 r2 => by
    rw [r2 4 (by decide), r1 96 (by decide) (by omega), d0.2, h6]
  by_cases c1 : κ 1 7 - κ 1 6 < 0
  · refine fin κ (-1) FrK.rfl ?_ (fun m0 hm0 hS0 r1 r2 => ⟨m0, ?_, Lk.rfl⟩)
    · unfold f_X4_doneAtFeast
      rw [if_pos c1]
    · unfold f_X5_doneAtFeast
      rw [← hm0]
      dsimp only
      rw [eM m0 r1 r2, isIn_f1 c1, if_pos bi_f]
  · by_cases c2 : κ 1 7 - κ 1 6 ≤ 200
    · obtain ⟨hRa, hBa, hza⟩ := sim_copy a0.1 b0 c0
      have hFa : FrK 46 κ (f_X1_copyFrom κ 46 1) := FrK_copy1 FrK.rfl
      generalize hκa : f_X1_copyFrom κ 46 1 = κa at hRa hBa hza hFa
      have hFc := FrK_minutes (κ 1 7 - κ 1 6) (κ 1 7 - κ 1 6).toNatClampNeg 0 0 κa hFa
      obtain ⟨v1, κc, hvc⟩ : ∃ v1 κc, lp_X1_goMinutes 46 (κ 1 7 - κ 1 6) (κ 1 7 - κ 1 6).toNatClampNeg 0 0 κa = (v1, κc) := ⟨_, _, rfl⟩
      rw [hvc] at hFc
      refine fin κc (f_X1_countDone κc 46) hFc ?_ (fun m0 hm0 hS0 r1 r2 => ?_)
      · unfold f_X4_doneAtFeast
        rw [if_neg c1, if_pos c2]
        dsimp only
        unfold f_X1_goMinutes
        rw [hκa, hvc]
      · have s92 : m0 92 = κ 92 := r1 92 (by decide) (by omega)
        have s93 : m0 93 = κ 93 := r1 93 (by decide) (by omega)
        have s96 : m0 96 = κ 96 := r1 96 (by decide) (by omega)
        have k96 : f_X5_keep m0 96 = κ 96 := (keep_row (by decide)).trans s96
        have k91 : f_X5_keep m0 91 = m0 91 := keep_row (by decide)
        have hBk : Bs 46 nf ns nr κa (f_X5_keep m0) := Bs_m hBa (by rw [k91]; exact r2 1 (by decide)) (by rw [k91]; exact r2 2 (by decide)) ((keep_row (by decide)).trans s92) ((keep_row (by decide)).trans s93)
        have hJk : J 46 nf ns nr κa (f_X5_keep m0) κa (f_X5_keep m0) := J_self (RX_row hRa k96) (Gs_row a0.2 k96)
        obtain ⟨v2, κc', hvc', hJ2⟩ := sim_minutesF hBk (κ 1 7 - κ 1 6) (κ 1 7 - κ 1 6).toNatClampNeg 0 0 κa (f_X5_keep m0) hJk hza
        have ec : κc' = κc := (Prod.mk.inj (hvc'.symm.trans hvc)).2
        rw [ec] at hJ2
        have en : (f_X5_keep m0 91 4 - f_X5_keep m0 96 0) = κ 1 7 - κ 1 6 := by rw [k91, k96, ← s96]; exact eM m0 r1 r2
        generalize hκ3 : lp_X5_doneAtFeast_32 (κ 1 7 - κ 1 6).toNatClampNeg 0 (f_X5_keep m0) = κ3 at hJ2
        have ro : ∀ q, ¬ q = 94 → ¬ q = 95 → ¬ q = 96 → κ3 q = f_X5_keep m0 q := fun q q1 q2 q3 => hJ2.2.2.2.2 q q1 q2 q3
        have h913 : κ3 91 3 = nI nr := by rw [ro 91 (by decide) (by decide) (by decide), k91, r2 3 (by decide)]; exact d0.1
        have hcnt := sim_count hBk hJ2 h913 16 0 0 rfl
        refine ⟨f_X5_bringBack κ3, ?_, fun q h1 h2 h3 h4 h5 => ?_, fun i n _ _ _ => ?_, fun j hj => ?_⟩
        · unfold f_X5_doneAtFeast
          rw [← hm0]
          dsimp only
          rw [eM m0 r1 r2, isIn_t c1 c2, if_neg bi_t, en, hκ3, ← hcnt]
          rfl
        · rw [show f_X5_bringBack κ3 q = κ3 q from cp_row h4, ro q h2 h3 h4]
          exact keep_row h5
        · rw [show f_X5_bringBack κ3 93 = κ3 93 from cp_row (by decide), ro 93 (by decide) (by decide) (by decide), keep_row (by decide)]
        · rw [show f_X5_bringBack κ3 96 j = κ3 97 j from cp_at hj, ro 97 (by decide) (by decide) (by decide)]
          exact keep_97 hj
    · refine fin κ (-1) FrK.rfl ?_ (fun m0 hm0 hS0 r1 r2 => ⟨m0, ?_, Lk.rfl⟩)
      · unfold f_X4_doneAtFeast
        rw [if_neg c1, if_neg c2]
      · unfold f_X5_doneAtFeast
        rw [← hm0]
        dsimp only
        rw [eM m0 r1 r2, isIn_f2 c2, if_pos bi_f]
