/-- of the cells, only those of the kitchen at k have changed -/
def FrK (k : Nat) (κ0 κ : Kp) : Prop := ∀ q, ¬ (k ≤ q ∧ q < k + 45) → κ q = κ0 q
section FRK
variable {k p q : Nat} {κ0 κ : Kp} {a b : Int32}
theorem FrK.rfl : FrK k κ κ := fun _ _ => Eq.refl _
theorem FrK.trans {κ1 : Kp} (h : FrK k κ0 κ) (h2 : FrK k κ κ1) : FrK k κ0 κ1 := fun q hq => (h2 q hq).trans (h q hq)
theorem FrK.up {j : Nat} {v : Int32} (h : FrK k κ0 κ) (hp : k ≤ p ∧ p < k + 45) : FrK k κ0 (up2 κ p j v) := fun q hq => by rw [up2_row (by omega)]; exact h q hq
theorem FrK_copy0 (h : FrK k κ0 κ) (hp : k ≤ p ∧ p < k + 45) : FrK k κ0 (f_X0_copyFrom κ p q) := ((h.up hp).up hp).up hp
theorem FrK_copy3 (h : FrK k κ0 κ) (hp : k ≤ p ∧ p < k + 45) : FrK k κ0 (f_X3_copyFrom κ p q) := (((((h.up hp).up hp).up hp).up hp).up hp).up hp
theorem FrK_lcopy2 : ∀ (n j : Nat) (κ : Kp), FrK k κ0 κ → k ≤ p ∧ p + 1 < k + 45 → FrK k κ0 (lp_X2_copyFrom p q n j κ) := by
  intro n
  induction n with
  | zero => intro j κ h hp; exact h
  | succ n ih => intro j κ h hp; exact ih (j + 1) _ (h.up (by omega)) hp
theorem FrK_copy2 (h : FrK k κ0 κ) (hp : k ≤ p ∧ p + 1 < k + 45) : FrK k κ0 (f_X2_copyFrom κ p q) :=
  have h1 : k ≤ p ∧ p < k + 45 := by omega
  FrK_lcopy2 4 0 _ (((((h.up h1).up h1).up h1).up h1).up h1) hp
theorem FrK_l2 : ∀ (n j : Nat) (κ : Kp), j + n = 3 → FrK k κ0 κ → FrK k κ0 (lp_X1_copyFrom_2 k q n j κ) := by
  intro n
  induction n with
  | zero => intro j κ hj h; exact h
  | succ n ih => intro j κ hj h; exact ih (j + 1) _ (by omega) (FrK_copy0 h (by omega))
theorem FrK_l43 : ∀ (n j : Nat) (κ : Kp), j + n = 6 → FrK k κ0 κ → FrK k κ0 (lp_X1_copyFrom_43 k q n j κ) := by
  intro n
  induction n with
  | zero => intro j κ hj h; exact h
  | succ n ih => intro j κ hj h; exact ih (j + 1) _ (by omega) (FrK_copy3 h (by omega))
theorem FrK_l84 : ∀ (n j : Nat) (κ : Kp), j + n = 16 → FrK k κ0 κ → FrK k κ0 (lp_X1_copyFrom_84 k q n j κ) := by
  intro n
  induction n with
  | zero => intro j κ hj h; exact h
  | succ n ih => intro j κ hj h; exact ih (j + 1) _ (by omega) (FrK_copy2 h (by omega))
theorem FrK_copy1 (h : FrK k κ0 κ) : FrK k κ0 (f_X1_copyFrom κ k q) :=
  have h1 : k ≤ k ∧ k < k + 45 := by omega
  (((((FrK_l84 16 0 _ (Eq.refl _) (FrK_l43 6 0 _ (Eq.refl _) (FrK_l2 3 0 _ (Eq.refl _) h))).up h1).up h1).up h1).up h1).up h1
theorem FrK_burn (h : FrK k κ0 κ) (hp : k ≤ p ∧ p < k + 45) : FrK k κ0 (f_X0_burn κ p a) := by
  unfold f_X0_burn
  split
  · exact (h.up hp).up hp
  · split
    · exact ((h.up hp).up hp).up hp
    · exact (h.up hp).up hp
theorem FrK_brow (h : FrK k κ0 κ) (hp : k ≤ p ∧ p + 1 < k + 45) : FrK k κ0 (f_X2_getBrowner κ p a b) := by
  have h1 : k ≤ p + 1 ∧ p + 1 < k + 45 := by omega
  unfold f_X2_getBrowner
  split
  · exact h
  · split
    · exact h
    · split
      · exact h.up h1
      · exact h.up h1
theorem FrK_glow (h : FrK k κ0 κ) (hp : k ≤ p ∧ p + 1 < k + 45) : FrK k κ0 (f_X2_getGlow κ p a).2 := by
  have h1 : k ≤ p ∧ p < k + 45 := by omega
  unfold f_X2_getGlow
  by_cases c : κ p 5 ≤ 0
  · rw [if_pos c]
    dsimp only
    exact FrK_brow (FrK_brow (FrK_brow h hp) hp) hp
  · rw [if_neg c]
    dsimp only
    exact FrK_brow (FrK_brow (FrK_brow (h.up h1) hp) hp) hp
theorem FrK_drips (h : FrK k κ0 κ) (hp : k ≤ p ∧ p < k + 45) : FrK k κ0 (f_X2_drips κ p a).2 := by
  unfold f_X2_drips
  split
  · exact h
  · split
    · exact h.up hp
    · exact h
theorem FrK_turns (h : FrK k κ0 κ) (hp : k ≤ p ∧ p < k + 45) : FrK k κ0 (f_X3_countsToTurn κ p).2 := by
  unfold f_X3_countsToTurn
  dsimp only
  split
  · exact h.up hp
  · split
    · exact h.up hp
    · exact h.up hp
theorem FrK_takes (h : FrK k κ0 κ) (hp : k ≤ p ∧ p < k + 45) : FrK k κ0 (f_X3_takesDripping κ p).2 := by
  unfold f_X3_takesDripping
  split
  · exact h.up hp
  · exact h
theorem FrK_turn (h : FrK k κ0 κ) (hp : k ≤ p ∧ p < k + 45) : FrK k κ0 (f_X2_turn κ p) := h.up hp
theorem FrK_anew (h : FrK k κ0 κ) (hp : k ≤ p ∧ p < k + 45) : FrK k κ0 (f_X3_countAnew κ p a) := (h.up hp).up hp
theorem FrK_for (h : FrK k κ0 κ) (hq : k ≤ q ∧ q < k + 45) : FrK k κ0 (f_X1_roastForAMinute κ k q).2 := by
  unfold f_X1_roastForAMinute
  cases e1 : f_X1_roastAt κ k (κ q 5) with
  | none => cases e2 : f_X1_fireAt κ k (κ q 0) with
    | none => exact h
    | some p2 => exact h
  | some p1 =>
    obtain ⟨-, -, hp1, rfl⟩ := sm_X1_roastAt e1
    cases e2 : f_X1_fireAt κ k (κ q 0) with
    | none => exact h
    | some p3 =>
      obtain ⟨-, -, hp3, rfl⟩ := sm_X1_fireAt e2
      dsimp only
      have ha : k ≤ k + 13 + 2 * (κ q 5).toNatClampNeg ∧ k + 13 + 2 * (κ q 5).toNatClampNeg + 1 < k + 45 := by omega
      have hb : k ≤ k + 13 + 2 * (κ q 5).toNatClampNeg ∧ k + 13 + 2 * (κ q 5).toNatClampNeg < k + 45 := by omega
      have hc : k ≤ k + 4 + (κ q 0).toNatClampNeg ∧ k + 4 + (κ q 0).toNatClampNeg < k + 45 := by omega
      generalize k + 13 + 2 * (κ q 5).toNatClampNeg = p1 at ha hb
      generalize k + 4 + (κ q 0).toNatClampNeg = p3 at hc
      have h1 := FrK_glow (a := f_X1_glowOf κ k q) h ha
      generalize f_X2_getGlow κ p1 (f_X1_glowOf κ k q) = w1 at h1
      obtain ⟨r1, κ1⟩ := w1
      dsimp only at h1 ⊢
      have h2 := FrK_drips (a := r1) h1 hb
      generalize f_X2_drips κ1 p1 r1 = w2 at h2
      obtain ⟨r2, κ2⟩ := w2
      dsimp only at h2 ⊢
      have turns : ∀ (κ3 : Kp) (x : Int32), FrK k κ0 κ3 → FrK k κ0 (match f_X3_countsToTurn κ3 q with | (r3, κ4) => (if r3 = 0 then (x, κ4) else (x, f_X2_turn κ4 p1))).2 := by
        intro κ3 x h3
        have h4 := FrK_turns h3 hq
        generalize f_X3_countsToTurn κ3 q = w4 at h4
        obtain ⟨r4, κ4⟩ := w4
        dsimp only at h4 ⊢
        split
        · exact h4
        · exact FrK_turn h4 hb
      by_cases c2 : r2 = 0
      · rw [if_pos c2]; exact turns κ2 (bi false) h2
      · rw [if_neg c2]
        have h3 := FrK_takes h2 hq
        generalize f_X3_takesDripping κ2 q = w3 at h3
        obtain ⟨r3, κ3⟩ := w3
        dsimp only at h3 ⊢
        by_cases c3 : r3 = 0
        · rw [if_pos c3]; exact turns (up2 κ3 p3 2 (κ3 p3 2 + 1)) (bi true) (h3.up hc)
        · rw [if_neg c3]; exact turns κ3 (bi false) h3
theorem FrK_l13 : ∀ (n j : Nat) (v : Int32) (κ : Kp), j + n = 6 → FrK k κ0 κ → FrK k κ0 (lp_X1_goMinute_13 k n j v κ).2 := by
  intro n
  induction n with
  | zero => intro j v κ hj h; exact h
  | succ n ih =>
    intro j v κ hj h
    rw [lp_X1_goMinute_13]
    have h1 := FrK_for (q := k + 7 + j) h (by omega)
    generalize f_X1_roastForAMinute κ k (k + 7 + j) = w1 at h1
    obtain ⟨r1, κ1⟩ := w1
    dsimp only at h1 ⊢
    split
    · exact ih (j + 1) _ _ (by omega) h1
    · exact ih (j + 1) _ _ (by omega) h1
theorem FrK_l54 : ∀ (n j : Nat) (κ : Kp), j + n = 3 → FrK k κ0 κ → FrK k κ0 (lp_X1_goMinute_54 k n j κ) := by
  intro n
  induction n with
  | zero => intro j κ hj h; exact h
  | succ n ih => intro j κ hj h; exact ih (j + 1) _ (by omega) (FrK_burn h (by omega))
theorem FrK_minute (h : FrK k κ0 κ) : FrK k κ0 (f_X1_goMinute κ k).2 := by
  unfold f_X1_goMinute
  have h1 := FrK_l13 6 0 0 κ (Eq.refl _) h
  generalize lp_X1_goMinute_13 k 6 0 0 κ = w1 at h1
  obtain ⟨r1, κ1⟩ := w1
  dsimp only at h1 ⊢
  exact (FrK_l54 3 0 κ1 (Eq.refl _) h1).up (by omega)
theorem FrK_minutes (x : Int32) : ∀ (n j : Nat) (v : Int32) (κ : Kp), FrK k κ0 κ → FrK k κ0 (lp_X1_goMinutes k x n j v κ).2 := by
  intro n
  induction n with
  | zero => intro j v κ h; exact h
  | succ n ih =>
    intro j v κ h
    rw [lp_X1_goMinutes]
    have h1 := FrK_minute h
    generalize f_X1_goMinute κ k = w1 at h1
    obtain ⟨r1, κ1⟩ := w1
    exact ih (j + 1) _ _ h1
theorem FrK_placeRoast (h : FrK k κ0 κ) : FrK k κ0 (f_X1_placeRoast κ k a b).2 := by
  unfold f_X1_placeRoast
  cases e1 : f_X1_spitAt κ k a with
  | none => exact h
  | some p1 =>
    obtain ⟨-, -, hp1, rfl⟩ := sm_X1_spitAt e1
    dsimp only
    split
    · split
      · exact h
      · split
        · rename_i c0 c1
          have hv : (κ k 5).toNatClampNeg < 16 := vpin_lt (vpin2 (M := 16) (n := 16) (Eq.refl _) c0 c1)
          exact (((((h.up (by omega)).up (by omega)).up (by omega)).up (by omega)).up (by omega)).up (by omega)
        · exact h
    · exact h
end FRK
theorem FrK_luntil (a : Int32) (pw : Nat) {κ0 : Kp} : ∀ (n j : Nat) (κ : Kp), FrK 46 κ0 κ → (∀ u κ1, lp_X4_aheadUntilDone a pw n j κ = .inl (u, κ1) → FrK 46 κ0 κ1) ∧ (∀ κ1, lp_X4_aheadUntilDone a pw n j κ = .inr κ1 → FrK 46 κ0 κ1) := by
  intro n
  induction n with
  | zero => intro j κ h; exact ⟨fun u κ1 e => (by cases e), fun κ1 e => (by cases e; exact h)⟩
  | succ n ih =>
    intro j κ h
    rw [lp_X4_aheadUntilDone]
    split
    · split
      · have h1 := FrK_minute h
        generalize f_X1_goMinute κ 46 = w1 at h1
        obtain ⟨r1, κ1⟩ := w1
        exact ih (j + 1) κ1 h1
      · exact ⟨fun u κ1 e => (by cases e; exact h), fun κ1 e => (by cases e)⟩
    · exact ⟨fun u κ1 e => (by cases e), fun κ1 e => (by cases e; exact h)⟩
theorem FrK_until {κ0 κ : Kp} {a : Int32} (h : FrK 46 κ0 κ) : FrK 46 κ0 (f_X4_aheadUntilDone κ a).2 := by
  unfold f_X4_aheadUntilDone
  cases e1 : f_X1_roastAt κ 46 a with
  | none => exact h
  | some p1 =>
    have h1 := FrK_luntil a p1 200 0 κ h
    dsimp only
    cases e2 : lp_X4_aheadUntilDone a p1 200 0 κ with
    | inl w => obtain ⟨u, κ1⟩ := w; exact h1.1 u κ1 e2
    | inr κ1 =>
      dsimp only
      split
      · exact h1.2 κ1 e2
      · exact h1.2 κ1 e2
theorem FrK_luntilB (a : Int32) (pw : Nat) {κ0 : Kp} : ∀ (n j : Nat) (κ : Kp), FrK 46 κ0 κ → (∀ u κ1, lp_X4_aheadUntilBurnt a pw n j κ = .inl (u, κ1) → FrK 46 κ0 κ1) ∧ (∀ κ1, lp_X4_aheadUntilBurnt a pw n j κ = .inr κ1 → FrK 46 κ0 κ1) := by
  intro n
  induction n with
  | zero => intro j κ h; exact ⟨fun u κ1 e => (by cases e), fun κ1 e => (by cases e; exact h)⟩
  | succ n ih =>
    intro j κ h
    rw [lp_X4_aheadUntilBurnt]
    split
    · have h1 := FrK_minute h
      generalize f_X1_goMinute κ 46 = w1 at h1
      obtain ⟨r1, κ1⟩ := w1
      exact ih (j + 1) κ1 h1
    · exact ⟨fun u κ1 e => (by cases e; exact h), fun κ1 e => (by cases e)⟩
theorem FrK_untilB {κ0 κ : Kp} {a : Int32} (h : FrK 46 κ0 κ) : FrK 46 κ0 (f_X4_aheadUntilBurnt κ a).2 := by
  unfold f_X4_aheadUntilBurnt
  cases e1 : f_X1_roastAt κ 46 a with
  | none => exact h
  | some p1 =>
    have h1 := FrK_luntilB a p1 200 0 κ h
    dsimp only
    cases e2 : lp_X4_aheadUntilBurnt a p1 200 0 κ with
    | inl w => obtain ⟨u, κ1⟩ := w; exact h1.1 u κ1 e2
    | inr κ1 =>
      dsimp only
      split
      · exact h1.2 κ1 e2
      · exact h1.2 κ1 e2
theorem FrK_hungOn {κ0 κ : Kp} {a b : Int32} (h : FrK 46 κ0 κ) : FrK 46 κ0 (f_X4_untilDoneHungOn κ a b).2 := by
  unfold f_X4_untilDoneHungOn
  dsimp only
  have h1 := FrK_placeRoast (a := a) (b := b) (FrK_copy1 (q := 1) h)
  generalize f_X1_placeRoast (f_X1_copyFrom κ 46 1) 46 a b = w1 at h1
  obtain ⟨r1, κ1⟩ := w1
  exact FrK_until h1
theorem FrK_turnedEach {κ0 κ : Kp} {a b : Int32} (h : FrK 46 κ0 κ) : FrK 46 κ0 (f_X4_untilDoneTurnedEach κ a b).2 := by
  unfold f_X4_untilDoneTurnedEach
  dsimp only
  have h1 := FrK_copy1 (q := 1) h
  generalize f_X1_copyFrom κ 46 1 = κ1 at h1
  cases e1 : f_X1_spitAt κ1 46 a with
  | none => exact h1
  | some p1 =>
    obtain ⟨-, -, hp1, rfl⟩ := sm_X1_spitAt e1
    exact FrK_until (FrK_anew h1 (by omega))
theorem hungOn_1 {κ κ' : Kp} {a b r : Int32} (e : f_X4_untilDoneHungOn κ a b = (r, κ')) : κ' 1 = κ 1 := by
  have h := FrK_hungOn (κ0 := κ) (κ := κ) (a := a) (b := b) FrK.rfl
  rw [e] at h
  exact h 1 (by omega)
