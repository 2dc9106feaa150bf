/-- the law's kitchen in m tells what the class's tells in κ -/
def Rl (nf ns nr : Nat) (κ m : Kp) : Prop :=
  (κ 1 6 = m 91 0 ∧ κ 1 7 = m 91 1) ∧
  (∀ i, i < nf → κ (5 + i) 0 = m (95 + i) 0 ∧ κ (5 + i) 1 = m (95 + i) 1) ∧
  (∀ i, i < ns → κ (8 + i) 0 = m (98 + i) 0 ∧ κ (8 + i) 1 = m (98 + i) 1 ∧ κ (8 + i) 2 = m (98 + i) 5 ∧ κ (8 + i) 3 = m (98 + i) 4 ∧ κ (8 + i) 4 = m (98 + i) 2 ∧ κ (8 + i) 5 = m (98 + i) 3) ∧
  (∀ j, j < nr → (∀ f, f < 5 → κ (14 + 2 * j) (f + 1) = m (104 + 2 * j) f) ∧ ∀ w, w < 4 → κ (15 + 2 * j) w = m (104 + 2 * j + 1) w)
section SIMP
variable {nf ns nr : Nat} {κ : Kp}
theorem sim_glow {m : Kp} (hI : Iv nf ns nr κ) (hF : ∀ i, i < nf → κ (5 + i) 1 = m (95 + i) 1) (hS : ∀ i, i < ns → κ (8 + i) 0 = m (98 + i) 0 ∧ κ (8 + i) 1 = m (98 + i) 1) {i : Nat} (hi : i < ns) : f_X6_glow m (nI i) = gl κ i := by
  obtain ⟨⟨hnf, hns, hnr, hpos⟩, -, hR, -⟩ := hI
  obtain ⟨f, hf, ef⟩ := vp_in_of (hR.fire hi hns (by omega)) (by omega)
  obtain ⟨s0, s1⟩ := hS i hi
  unfold f_X6_glow gl
  rw [nI_clamp (by omega), ← s0, ← s1, ef, nI_clamp (by omega), hF f hf]
theorem p10 (hI : Iv nf ns nr κ) : ∀ (n t : Nat) (m : Kp), t + n = ns → (∀ i, i < nf → κ (5 + i) 1 = m (95 + i) 1) → (∀ i, i < ns → κ (8 + i) 0 = m (98 + i) 0 ∧ κ (8 + i) 1 = m (98 + i) 1) → (∀ i, i < t → m 160 i = gl κ i) → (∀ i, i < ns → lp_X6_pass_10 n t m 160 i = gl κ i) ∧ ∀ q, q ≠ 160 → lp_X6_pass_10 n t m q = m q := by
  intro n
  induction n with
  | zero =>
    intro t m ht hF hS hg
    exact ⟨fun i hi => hg i (by omega), fun q _ => rfl⟩
  | succ n ih =>
    intro t m ht hF hS hg
    have hns := hI.1.2.1
    have hnf := hI.1.1
    have e : lp_X6_pass_10 (n + 1) t m = lp_X6_pass_10 n (t + 1) (up2 m 160 t (gl κ t)) := by
      show lp_X6_pass_10 n (t + 1) (up2 m 160 t (f_X6_glow m (nI t))) = _
      rw [sim_glow hI hF hS (show t < ns by omega)]
    obtain ⟨a, b⟩ := ih (t + 1) (up2 m 160 t (gl κ t)) (by omega) (fun i hi => by rw [up2_row (by omega)]; exact hF i hi) (fun i hi => by rw [up2_row (by omega)]; exact hS i hi) (fun i hi => by
      by_cases c : i = t
      · subst c; rw [up2_self]
      · rw [up2_ne m _ (Or.inr c)]; exact hg i (by omega))
    rw [e]
    exact ⟨a, fun q hq => (b q hq).trans (up2_row hq)⟩
/-- all roasts on spits get their glow -/
theorem p44 (hns : ns ≤ 6) (hnr : nr ≤ 16) (m0 : Kp) (hg : ∀ i, i < ns → m0 160 i = gl κ i) (hgi : ∀ i, i < ns → vp_in (gl κ i) 10) (hs : ∀ j, j < nr → ¬ m0 (104 + 2 * j) 1 < 0 → (m0 (104 + 2 * j) 1).toNatClampNeg < ns ∧ vp_in (m0 (104 + 2 * j) 2) 4) : ∀ (n t : Nat) (m : Kp), t + n = nr → (∀ j, t ≤ j → j < nr → m (104 + 2 * j) = m0 (104 + 2 * j) ∧ m (104 + 2 * j + 1) = m0 (104 + 2 * j + 1)) → m 160 = m0 160 →
    (∀ j, j < nr → (t ≤ j → (m0 (104 + 2 * j) 1 < 0 → lp_X6_pass_44 n t m (104 + 2 * j) = m0 (104 + 2 * j) ∧ lp_X6_pass_44 n t m (104 + 2 * j + 1) = m0 (104 + 2 * j + 1)) ∧ (¬ m0 (104 + 2 * j) 1 < 0 → lp_X6_pass_44 n t m (104 + 2 * j) = wS (m0 (104 + 2 * j)) (gl κ (m0 (104 + 2 * j) 1).toNatClampNeg) ∧ lp_X6_pass_44 n t m (104 + 2 * j + 1) = bR (m0 (104 + 2 * j + 1)) (m0 (104 + 2 * j) 2) (gG (m0 (104 + 2 * j) 4) (gl κ (m0 (104 + 2 * j) 1).toNatClampNeg)))) ∧ (j < t → lp_X6_pass_44 n t m (104 + 2 * j) = m (104 + 2 * j) ∧ lp_X6_pass_44 n t m (104 + 2 * j + 1) = m (104 + 2 * j + 1))) ∧ ∀ q, q < 104 ∨ 136 ≤ q → lp_X6_pass_44 n t m q = m q := by
  intro n
  induction n with
  | zero =>
    intro t m ht h1 h2
    exact ⟨fun j hj => ⟨fun h => by omega, fun _ => ⟨rfl, rfl⟩⟩, fun q _ => rfl⟩
  | succ n ih =>
    intro t m ht h1 h2
    obtain ⟨a1, a2⟩ := h1 t (Nat.le_refl t) (by omega)
    by_cases c : m0 (104 + 2 * t) 1 < 0
    · have e : lp_X6_pass_44 (n + 1) t m = lp_X6_pass_44 n (t + 1) m := by
        show (if m (104 + 2 * t) 1 < 0 then _ else _) = _
        rw [a1, if_pos c]
      obtain ⟨b1, b2⟩ := ih (t + 1) m (by omega) (fun j hj hj2 => h1 j (by omega) hj2) h2
      rw [e]
      refine ⟨fun j hj => ⟨fun h => ?_, fun h => (b1 j hj).2 (by omega)⟩, b2⟩
      by_cases ej : j = t
      · subst ej
        obtain ⟨d1, d2⟩ := (b1 j hj).2 (by omega)
        exact ⟨fun _ => ⟨d1.trans a1, d2.trans a2⟩, fun z => absurd c z⟩
      · exact (b1 j hj).1 (by omega)
    · obtain ⟨s1, s2⟩ := hs t (by omega) c
      have eg : m 160 (m (104 + 2 * t) 1).toNatClampNeg = gl κ (m0 (104 + 2 * t) 1).toNatClampNeg := by rw [h2, a1]; exact hg _ s1
      have e : lp_X6_pass_44 (n + 1) t m = lp_X6_pass_44 n (t + 1) (va_up (va_up m (104 + 2 * t) (wS (m0 (104 + 2 * t)) (gl κ (m0 (104 + 2 * t) 1).toNatClampNeg))) (104 + 2 * t + 1) (bR (m0 (104 + 2 * t + 1)) (m0 (104 + 2 * t) 2) (gG (m0 (104 + 2 * t) 4) (gl κ (m0 (104 + 2 * t) 1).toNatClampNeg)))) := by
        show (if m (104 + 2 * t) 1 < 0 then _ else lp_X6_pass_44 n (t + 1) (f_X5_gets m (104 + 2 * t) (m 160 (m (104 + 2 * t) 1).toNatClampNeg))) = _
        rw [eg, gets_eq (by rw [a1]; exact s2) (hgi _ s1), a1, a2, if_neg c]
      obtain ⟨κ1, hκ1⟩ : ∃ κ1 : Kp, va_up (va_up m (104 + 2 * t) (wS (m0 (104 + 2 * t)) (gl κ (m0 (104 + 2 * t) 1).toNatClampNeg))) (104 + 2 * t + 1) (bR (m0 (104 + 2 * t + 1)) (m0 (104 + 2 * t) 2) (gG (m0 (104 + 2 * t) 4) (gl κ (m0 (104 + 2 * t) 1).toNatClampNeg))) = κ1 := ⟨_, rfl⟩
      rw [hκ1] at e
      have k1 : κ1 (104 + 2 * t) = wS (m0 (104 + 2 * t)) (gl κ (m0 (104 + 2 * t) 1).toNatClampNeg) := by rw [← hκ1, va_up_ne _ _ (by omega), va_up_self]
      have k2 : κ1 (104 + 2 * t + 1) = bR (m0 (104 + 2 * t + 1)) (m0 (104 + 2 * t) 2) (gG (m0 (104 + 2 * t) 4) (gl κ (m0 (104 + 2 * t) 1).toNatClampNeg)) := by rw [← hκ1, va_up_self]
      have k3 : ∀ q, q ≠ 104 + 2 * t → q ≠ 104 + 2 * t + 1 → κ1 q = m q := fun q q1 q2 => by rw [← hκ1, va_up_ne _ _ q2, va_up_ne _ _ q1]
      obtain ⟨b1, b2⟩ := ih (t + 1) κ1 (by omega) (fun j hj hj2 => by rw [k3 _ (by omega) (by omega), k3 _ (by omega) (by omega)]; exact h1 j (by omega) hj2) (by rw [k3 _ (by omega) (by omega)]; exact h2)
      rw [e]
      refine ⟨fun j hj => ⟨fun h => ?_, fun h => ?_⟩, fun q hq => (b2 q hq).trans (k3 q (by omega) (by omega))⟩
      · by_cases ej : j = t
        · subst ej
          obtain ⟨d1, d2⟩ := (b1 j hj).2 (by omega)
          exact ⟨fun z => absurd z c, fun _ => ⟨d1.trans k1, d2.trans k2⟩⟩
        · exact (b1 j hj).1 (by omega)
      · obtain ⟨d1, d2⟩ := (b1 j hj).2 (by omega)
        exact ⟨d1.trans (k3 _ (by omega) (by omega)), d2.trans (k3 _ (by omega) (by omega))⟩
end SIMP
