theorem up2_id {κ : Kp} {k j : Nat} {v : Int32} (h : κ k j = v) : up2 κ k j v = κ := by
  funext q i
  rw [up2_at]
  by_cases c : q = k ∧ i = j
  · rw [if_pos c, c.1, c.2, h]
  · rw [if_neg c]
theorem burn_id {κ : Kp} {p : Nat} {a : Int32} (h0 : κ p 0 = 0) (h1 : κ p 1 = 0) (h2 : κ p 2 = 0) : f_X0_burn κ p a = κ := by
  unfold f_X0_burn
  rw [h0, if_pos (by decide)]
  dsimp only
  rw [h1, h2]
  rw [up2_id (v := _) (show κ p 1 = _ from h1.trans (by decide))]
  exact up2_id h2
def mx (x : Int32) : Int32 := if 0 < (if x < 9 then x else 9) then (if x < 9 then x else 9) else 0
theorem mx_in (x : Int32) : vp_in (mx x) 10 := by
  unfold mx
  by_cases c : x < 9
  · rw [if_pos c]
    by_cases c2 : 0 < x
    · rw [if_pos c2, vp_in_iff]
      rw [Int32.lt_iff_toInt_lt] at c c2
      have e0 : (0 : Int32).toInt = 0 := rfl
      have e9 : (9 : Int32).toInt = 9 := rfl
      omega
    · rw [if_neg c2]; exact vin_lit (by decide)
  · rw [if_neg c, if_pos (by decide)]; exact vin_lit (by decide)
theorem l4_spec {nf : Nat} (hnf : nf ≤ 3) : ∀ (n j : Nat) (κ : Kp), j + n = 3 → κ 91 1 = nI nf → (∀ q, q ≠ 95 → lp_X5_minuteOn_4 n j κ q = κ q) ∧ (∀ f, j ≤ f → f < nf → lp_X5_minuteOn_4 n j κ 95 f = 0) ∧ (∀ f, f < j → lp_X5_minuteOn_4 n j κ 95 f = κ 95 f) := by
  intro n
  induction n with
  | zero => intro j κ hj h; exact ⟨fun q _ => rfl, fun f h1 h2 => by omega, fun f _ => rfl⟩
  | succ n ih =>
    intro j κ hj h
    rw [lp_X5_minuteOn_4, h]
    by_cases c : nf ≤ j
    · rw [if_pos ((nIle (by omega) (by omega)).mpr c)]
      exact ⟨fun q _ => rfl, fun f h1 h2 => by omega, fun f _ => rfl⟩
    · rw [if_neg (fun q => c ((nIle (by omega) (by omega)).mp q))]
      dsimp only
      obtain ⟨a1, a2, a3⟩ := ih (j + 1) (up2 κ 95 j 0) (by omega) (by rw [up2_row (by decide)]; exact h)
      refine ⟨fun q hq => by rw [a1 q hq, up2_row hq], fun f h1 h2 => ?_, fun f h1 => ?_⟩
      · by_cases e : f = j
        · subst e
          rw [a3 f (by omega), up2_self]
        · exact a2 f (by omega) h2
      · rw [a3 f (by omega), up2_ne κ _ (Or.inr (by omega))]
theorem sF_0 {κ : Kp} (n : Nat) (h : ∀ f, f < n → κ 95 f = 0) : sF κ n = 0 := by
  induction n with
  | zero => rfl
  | succ n ih =>
    show sF κ n + κ 95 n = 0
    rw [ih (fun f hf => h f (by omega)), h n (by omega)]
    decide
section SIMM
variable {k nf ns nr : Nat} {κ0 m0 : Kp}
theorem class_burn : ∀ (n j : Nat) (κc : Kp), j + n = 3 → (∀ f, j ≤ f → f < 3 → κc (k + 4 + f) 0 = 0 ∧ κc (k + 4 + f) 1 = 0 ∧ κc (k + 4 + f) 2 = 0) → lp_X1_goMinute_54 k n j κc = κc := by
  intro n
  induction n with
  | zero => intro j κc hj h; rfl
  | succ n ih =>
    intro j κc hj h
    obtain ⟨h0, h1, h2⟩ := h j (Nat.le_refl _) (by omega)
    rw [lp_X1_goMinute_54]
    dsimp only
    rw [burn_id h0 h1 h2]
    exact ih (j + 1) κc (by omega) (fun f a b => h f (by omega) b)
/-- between the fires of a minute's end -/
def JB (k nf ns nr : Nat) (κ0 m0 κc κm : Kp) (j : Nat) : Prop := J k nf ns nr κ0 m0 κc κm ∧ (∀ f, f < j → f < 3 → κc (k + 4 + f) 2 = 0) ∧ (∀ f, j ≤ f → f < nf → κc (k + 4 + f) 2 = κm 95 f) ∧ (∀ f, nf ≤ f → f < 3 → κc (k + 4 + f) 2 = 0)
theorem JB_next {κc κm κ1 κ2 : Kp} {j : Nat} (h : JB k nf ns nr κ0 m0 κc κm j) (hj : j < 3) (hJ : J k nf ns nr κ0 m0 κ1 κ2) (hc : ∀ f, f < 3 → ¬ f = j → κ1 (k + 4 + f) 2 = κc (k + 4 + f) 2) (hm : κ2 95 = κm 95) (hnf : nf ≤ 3) : JB k nf ns nr κ0 m0 (up2 κ1 (k + 4 + j) 2 0) κ2 (j + 1) := by
  have h1 := J_flare (v := 0) hJ hj
  rw [show k + (4 + j) = k + 4 + j by omega] at h1
  refine ⟨h1, fun f a b => ?_, fun f a b => ?_, fun f a b => ?_⟩
  · by_cases e : f = j
    · subst e; exact up2_self _ _ _ _
    · rw [up2_ne κ1 _ (Or.inl (by omega)), hc f b e]; exact h.2.1 f (by omega) b
  · rw [up2_ne κ1 _ (Or.inl (by omega)), hc f (by omega) (by omega), hm]; exact h.2.2.1 f (by omega) b
  · by_cases e : f = j
    · subst e; exact up2_self _ _ _ _
    · rw [up2_ne κ1 _ (Or.inl (by omega)), hc f b e]; exact h.2.2.2 f a b
theorem sim_burn (hB : Bs k nf ns nr κ0 m0) : ∀ (n j : Nat) (u : Int32) (κc κm : Kp), j + n = 3 → j ≤ nf → JB k nf ns nr κ0 m0 κc κm j → u = sF κm j → ∃ κm1 : Kp, lp_X5_minuteOn_115 n j u κm = (sF κm nf, κm1) ∧ J k nf ns nr κ0 m0 (lp_X1_goMinute_54 k n j κc) κm1 ∧ (∀ f, f < 3 → lp_X1_goMinute_54 k n j κc (k + 4 + f) 2 = 0) := by
  intro n
  have hnf := hB.2.2.1.1
  have rest : ∀ (n j : Nat) (κc κm : Kp), j + n = 3 → nf ≤ j → j ≤ nf → JB k nf ns nr κ0 m0 κc κm j → J k nf ns nr κ0 m0 (lp_X1_goMinute_54 k n j κc) κm ∧ (∀ f, f < 3 → lp_X1_goMinute_54 k n j κc (k + 4 + f) 2 = 0) := by
    intro n j κc κm hj h1 h2 h
    have e : lp_X1_goMinute_54 k n j κc = κc := class_burn n j κc hj (fun f a b => by
      have g0 := (h.1.2.1 (1 + 2 * f) (by omega)).1 f b rfl (by omega)
      have g1 := ((h.1.2.1 (1 + 2 * f + 1) (by omega)).2.1 f b rfl).2 (by omega)
      exact ⟨(RX_fire h.1.1 b (j := 0) (by decide)).trans g0, (RX_fire h.1.1 b (j := 1) (by decide)).trans g1, h.2.2.2 f (by omega) b⟩)
    rw [e]
    refine ⟨h.1, fun f hf => ?_⟩
    by_cases c : f < j
    · exact h.2.1 f c hf
    · exact h.2.2.2 f (by omega) hf
  induction n with
  | zero =>
    intro j u κc κm hj h2 h hu
    have e : nf = j := by omega
    subst e
    exact ⟨κm, by rw [hu]; rfl, rest 0 nf κc κm hj (Nat.le_refl _) h2 h⟩
  | succ n ih =>
    intro j u κc κm hj h2 h hu
    have e91 : κm 91 1 = nI nf := by rw [h.1.2.2.2.2 91 (by decide) (by decide) (by decide)]; exact hB.2.1.1
    rw [lp_X5_minuteOn_115, e91]
    by_cases c : nf ≤ j
    · rw [if_pos ((nIle (by omega) (by omega)).mpr c)]
      have e : nf = j := by omega
      subst e
      exact ⟨κm, by rw [hu], rest (n + 1) nf κc κm hj (Nat.le_refl _) h2 h⟩
    · rw [if_neg (fun q => c ((nIle (by omega) (by omega)).mp q))]
      have hj3 : j < 3 := by omega
      have l0 : κc (k + 4 + j) 0 = κm 96 (1 + 2 * j) := RX_fire h.1.1 hj3 (j := 0) (by decide)
      have l1 : κc (k + 4 + j) 1 = κm 96 (1 + 2 * j + 1) := RX_fire h.1.1 hj3 (j := 1) (by decide)
      have l2 : κc (k + 4 + j) 2 = κm 95 j := h.2.2.1 j (Nat.le_refl _) (by omega)
      have l6 : κc k 6 = κm 96 0 := h.1.1 0 (by omega)
      have f0 : f_X5_fi κm (nI j) 0 = κm 96 (1 + 2 * j) := fi_N (w := 0) hj3 (by decide)
      have f1 : f_X5_fi κm (nI j) 1 = κm 96 (1 + 2 * j + 1) := fi_N (w := 1) hj3 (by decide)
      have lf1 : ∀ (κ : Kp) (v : Int32), f_X5_letFire κ (nI j) 1 v = up2 κ 96 (1 + 2 * j + 1) v := fun κ v => letFire_N (w := 1) hj3 (by decide)
      have lf0 : ∀ (κ : Kp) (v : Int32), f_X5_letFire κ (nI j) 0 v = up2 κ 96 (1 + 2 * j) v := fun κ v => letFire_N (w := 0) hj3 (by decide)
      have as1 : ∀ d : Int32, κm 96 (1 + 2 * j + 1) + (κm 95 j + d) = κm 96 (1 + 2 * j + 1) + d + κm 95 j := fun d => by rw [Int32.add_comm (κm 95 j) d, ← Int32.add_assoc]
      have hst : ∀ (d : Int32) (κa κb : Kp), J k nf ns nr κ0 m0 κa κb → (∀ f, f < 3 → ¬ f = j → κa (k + 4 + f) 2 = κc (k + 4 + f) 2) → κb 95 = κm 95 → ∃ κm1 : Kp, lp_X5_minuteOn_115 n (j + 1) (u + (up2 κb 96 (1 + 2 * j + 1) (mx d)) 95 j) (up2 κb 96 (1 + 2 * j + 1) (mx d)) = (sF κm nf, κm1) ∧ J k nf ns nr κ0 m0 (lp_X1_goMinute_54 k n (j + 1) (up2 (up2 κa (k + 4 + j) 1 (mx d)) (k + 4 + j) 2 0)) κm1 ∧ (∀ f, f < 3 → lp_X1_goMinute_54 k n (j + 1) (up2 (up2 κa (k + 4 + j) 1 (mx d)) (k + 4 + j) 2 0) (k + 4 + f) 2 = 0) := by
        intro d κa κb hJ hc hm
        have hJ2 : J k nf ns nr κ0 m0 (up2 κa (k + 4 + j) 1 (mx d)) (up2 κb 96 (1 + 2 * j + 1) (mx d)) := J_fire (j := 1) hJ hj3 (by decide) (Gx_heat hj3 (mx_in d) (fun q => absurd q c))
        have hm2 : (up2 κb 96 (1 + 2 * j + 1) (mx d)) 95 = κm 95 := (up2_row (by decide)).trans hm
        have hN := JB_next h hj3 hJ2 (fun f a b => by rw [up2_ne κa _ (Or.inl (by omega))]; exact hc f a b) hm2 hnf
        obtain ⟨κm1, r1, r2, r3⟩ := ih (j + 1) (u + (up2 κb 96 (1 + 2 * j + 1) (mx d)) 95 j) _ _ (by omega) (by omega) hN (by
          show u + (up2 κb 96 (1 + 2 * j + 1) (mx d)) 95 j = sF (up2 κb 96 (1 + 2 * j + 1) (mx d)) j + (up2 κb 96 (1 + 2 * j + 1) (mx d)) 95 j
          rw [sF_row hm2, hu])
        exact ⟨κm1, by rw [r1, sF_row hm2], r2, r3⟩
      rw [lp_X1_goMinute_54, f0, f1]
      dsimp only
      unfold f_X0_burn
      rw [l0, l1, l2, l6]
      by_cases c1 : κm 96 (1 + 2 * j) ≤ 0
      · rw [if_pos c1, if_pos c1]
        dsimp only
        rw [lf1, as1]
        exact hst (κm 96 (1 + 2 * j + 1) + -1 + κm 95 j) κc κm h.1 (fun f a b => rfl) rfl
      · rw [if_neg c1, if_neg c1]
        by_cases c2 : κm 96 0 - κm 96 0 / 5 * 5 = 0
        · rw [if_pos c2, if_pos c2]
          dsimp only
          have hJ0 : J k nf ns nr κ0 m0 (up2 κc (k + 4 + j) 0 (κm 96 (1 + 2 * j) - 1)) (up2 κm 96 (1 + 2 * j) (κm 96 (1 + 2 * j) - 1)) := J_fire (j := 0) h.1 hj3 (by decide) (Gx_logs hj3 (fun q => absurd q c))
          rw [lf0]
          have k1 : (up2 κc (k + 4 + j) 0 (κm 96 (1 + 2 * j) - 1)) (k + 4 + j) 1 = κm 96 (1 + 2 * j + 1) := by rw [up2_ne κc _ (Or.inr (by decide))]; exact l1
          have k2 : f_X5_fi (up2 κm 96 (1 + 2 * j) (κm 96 (1 + 2 * j) - 1)) (nI j) 1 = κm 96 (1 + 2 * j + 1) := by
            rw [show f_X5_fi (up2 κm 96 (1 + 2 * j) (κm 96 (1 + 2 * j) - 1)) (nI j) 1 = (up2 κm 96 (1 + 2 * j) (κm 96 (1 + 2 * j) - 1)) 96 (1 + 2 * j + 1) from fi_N (w := 1) hj3 (by decide), up2_ne κm _ (Or.inr (by omega))]
          have k3 : (up2 κm 96 (1 + 2 * j) (κm 96 (1 + 2 * j) - 1)) 95 j = κm 95 j := by rw [up2_row (by decide)]
          rw [k1, k2, k3, lf1, as1]
          exact hst (κm 96 (1 + 2 * j + 1) + 1 + κm 95 j) _ _ hJ0 (fun f a b => up2_ne κc _ (Or.inr (by decide))) (up2_row (by decide))
        · rw [if_neg c2, if_neg c2]
          dsimp only
          rw [lf1, as1]
          exact hst (κm 96 (1 + 2 * j + 1) + 1 + κm 95 j) κc κm h.1 (fun f a b => rfl) rfl
end SIMM
