theorem copy0_at {κ : Kp} {p q : Nat} (h : ¬ q = p) : ∀ j, j < 3 → f_X0_copyFrom κ p q p j = κ q j := by
  intro j hj
  unfold f_X0_copyFrom
  match j, hj with
  | 0, _ => simp [up2_at, h]
  | 1, _ => simp [up2_at, h]
  | 2, _ => simp [up2_at, h]
theorem copy0_row {κ : Kp} {p q r : Nat} (h : ¬ r = p) : f_X0_copyFrom κ p q r = κ r := by
  unfold f_X0_copyFrom
  dsimp only
  rw [up2_row h, up2_row h, up2_row h]
theorem copy3_at {κ : Kp} {p q : Nat} (h : ¬ q = p) : ∀ j, j < 6 → f_X3_copyFrom κ p q p j = κ q j := by
  intro j hj
  unfold f_X3_copyFrom
  match j, hj with
  | 0, _ => simp [up2_at, h]
  | 1, _ => simp [up2_at, h]
  | 2, _ => simp [up2_at, h]
  | 3, _ => simp [up2_at, h]
  | 4, _ => simp [up2_at, h]
  | 5, _ => simp [up2_at, h]
theorem copy3_row {κ : Kp} {p q r : Nat} (h : ¬ r = p) : f_X3_copyFrom κ p q r = κ r := by
  unfold f_X3_copyFrom
  dsimp only
  rw [up2_row h, up2_row h, up2_row h, up2_row h, up2_row h, up2_row h]
theorem lcopy2_spec {p q : Nat} (hpq : ¬ q = p) : ∀ (n j : Nat) (κ : Kp), j + n = 4 → (∀ i, j ≤ i → i < 4 → lp_X2_copyFrom p q n j κ (p + 1) i = κ (q + 1) i) ∧ (∀ i, i < j → lp_X2_copyFrom p q n j κ (p + 1) i = κ (p + 1) i) ∧ (∀ r, ¬ r = p + 1 → lp_X2_copyFrom p q n j κ r = κ r) := by
  intro n
  induction n with
  | zero => intro j κ hj; exact ⟨fun i a b => by omega, fun i _ => rfl, fun r _ => rfl⟩
  | succ n ih =>
    intro j κ hj
    rw [lp_X2_copyFrom]
    dsimp only
    obtain ⟨a1, a2, a3⟩ := ih (j + 1) (up2 κ (p + 1) j (κ (q + 1) j)) (by omega)
    refine ⟨fun i x y => ?_, fun i x => ?_, fun r x => ?_⟩
    · by_cases e : i = j
      · subst e; rw [a2 i (by omega), up2_self]
      · rw [a1 i (by omega) y, up2_row (by omega)]
    · rw [a2 i (by omega), up2_ne κ _ (Or.inr (by omega))]
    · rw [a3 r x, up2_row x]
theorem copy2_spec {κ : Kp} {p q : Nat} (h1 : ¬ q = p) (h2 : ¬ q = p + 1) (h3 : ¬ q + 1 = p) : (∀ j, 1 ≤ j → j < 6 → f_X2_copyFrom κ p q p j = κ q j) ∧ (∀ j, j < 4 → f_X2_copyFrom κ p q (p + 1) j = κ (q + 1) j) ∧ (∀ r, ¬ r = p → ¬ r = p + 1 → f_X2_copyFrom κ p q r = κ r) := by
  unfold f_X2_copyFrom
  dsimp only
  refine ⟨fun j ha hb => ?_, fun j hj => ?_, fun r ha hb => ?_⟩
  · rw [(lcopy2_spec h1 4 0 _ rfl).2.2 p (by omega)]
    match j, ha, hb with
    | 1, _, _ => simp [up2_at, h1]
    | 2, _, _ => simp [up2_at, h1]
    | 3, _, _ => simp [up2_at, h1]
    | 4, _, _ => simp [up2_at, h1]
    | 5, _, _ => simp [up2_at, h1]
  · rw [(lcopy2_spec h1 4 0 _ rfl).1 j (Nat.zero_le j) hj, up2_row h3, up2_row h3, up2_row h3, up2_row h3, up2_row h3]
  · rw [(lcopy2_spec h1 4 0 _ rfl).2.2 r hb, up2_row ha, up2_row ha, up2_row ha, up2_row ha, up2_row ha]
section COPYL
variable {k q : Nat}
theorem l2_spec (hd : q + 45 ≤ k) : ∀ (n j : Nat) (κ : Kp), j + n = 3 → (∀ i, j ≤ i → i < 3 → ∀ f, f < 3 → lp_X1_copyFrom_2 k q n j κ (k + 4 + i) f = κ (q + 4 + i) f) ∧ (∀ r, (∀ i, j ≤ i → i < 3 → ¬ r = k + 4 + i) → lp_X1_copyFrom_2 k q n j κ r = κ r) := by
  intro n
  induction n with
  | zero => intro j κ hj; exact ⟨fun i a b => by omega, fun r _ => rfl⟩
  | succ n ih =>
    intro j κ hj
    rw [lp_X1_copyFrom_2]
    dsimp only
    obtain ⟨a1, a2⟩ := ih (j + 1) (f_X0_copyFrom κ (k + 4 + j) (q + 4 + j)) (by omega)
    refine ⟨fun i x y f hf => ?_, fun r hr => ?_⟩
    · by_cases e : i = j
      · subst e
        rw [a2 (k + 4 + i) (fun i2 x2 y2 => by omega)]
        exact copy0_at (by omega) f hf
      · rw [a1 i (by omega) y f hf, copy0_row (by omega)]
    · rw [a2 r (fun i x y => hr i (by omega) y)]
      exact copy0_row (hr j (Nat.le_refl _) (by omega))
theorem l43_spec (hd : q + 45 ≤ k) : ∀ (n j : Nat) (κ : Kp), j + n = 6 → (∀ i, j ≤ i → i < 6 → ∀ f, f < 6 → lp_X1_copyFrom_43 k q n j κ (k + 7 + i) f = κ (q + 7 + i) f) ∧ (∀ r, (∀ i, j ≤ i → i < 6 → ¬ r = k + 7 + i) → lp_X1_copyFrom_43 k q n j κ r = κ r) := by
  intro n
  induction n with
  | zero => intro j κ hj; exact ⟨fun i a b => by omega, fun r _ => rfl⟩
  | succ n ih =>
    intro j κ hj
    rw [lp_X1_copyFrom_43]
    dsimp only
    obtain ⟨a1, a2⟩ := ih (j + 1) (f_X3_copyFrom κ (k + 7 + j) (q + 7 + j)) (by omega)
    refine ⟨fun i x y f hf => ?_, fun r hr => ?_⟩
    · by_cases e : i = j
      · subst e
        rw [a2 (k + 7 + i) (fun i2 x2 y2 => by omega)]
        exact copy3_at (by omega) f hf
      · rw [a1 i (by omega) y f hf, copy3_row (by omega)]
    · rw [a2 r (fun i x y => hr i (by omega) y)]
      exact copy3_row (hr j (Nat.le_refl _) (by omega))
theorem l84_spec (hd : q + 45 ≤ k) : ∀ (n j : Nat) (κ : Kp), j + n = 16 → (∀ i, j ≤ i → i < 16 → (∀ f, 1 ≤ f → f < 6 → lp_X1_copyFrom_84 k q n j κ (k + 13 + 2 * i) f = κ (q + 13 + 2 * i) f) ∧ (∀ f, f < 4 → lp_X1_copyFrom_84 k q n j κ (k + 13 + 2 * i + 1) f = κ (q + 13 + 2 * i + 1) f)) ∧ (∀ r, (∀ i, j ≤ i → i < 16 → ¬ r = k + 13 + 2 * i ∧ ¬ r = k + 13 + 2 * i + 1) → lp_X1_copyFrom_84 k q n j κ r = κ r) := by
  intro n
  induction n with
  | zero => intro j κ hj; exact ⟨fun i a b => by omega, fun r _ => rfl⟩
  | succ n ih =>
    intro j κ hj
    rw [lp_X1_copyFrom_84]
    dsimp only
    obtain ⟨a1, a2⟩ := ih (j + 1) (f_X2_copyFrom κ (k + 13 + 2 * j) (q + 13 + 2 * j)) (by omega)
    obtain ⟨c1, c2, c3⟩ := copy2_spec (κ := κ) (p := k + 13 + 2 * j) (q := q + 13 + 2 * j) (by omega) (by omega) (by omega)
    refine ⟨fun i x y => ⟨fun f hf hg => ?_, fun f hf => ?_⟩, fun r hr => ?_⟩
    · by_cases e : i = j
      · subst e
        rw [a2 (k + 13 + 2 * i) (fun i2 x2 y2 => by omega)]
        exact c1 f hf hg
      · rw [(a1 i (by omega) y).1 f hf hg, c3 _ (by omega) (by omega)]
    · by_cases e : i = j
      · subst e
        rw [a2 (k + 13 + 2 * i + 1) (fun i2 x2 y2 => by omega)]
        exact c2 f hf
      · rw [(a1 i (by omega) y).2 f hf, c3 _ (by omega) (by omega)]
    · rw [a2 r (fun i x y => hr i (by omega) y)]
      exact c3 r (hr j (Nat.le_refl _) (by omega)).1 (hr j (Nat.le_refl _) (by omega)).2
/-- a kitchen filled from another -/
theorem copy1_spec (hd : q + 45 ≤ k) (κ : Kp) : (∀ f, 3 ≤ f → f < 8 → f_X1_copyFrom κ k q k f = κ q f) ∧ (∀ i, i < 3 → ∀ f, f < 3 → f_X1_copyFrom κ k q (k + 4 + i) f = κ (q + 4 + i) f) ∧ (∀ i, i < 6 → ∀ f, f < 6 → f_X1_copyFrom κ k q (k + 7 + i) f = κ (q + 7 + i) f) ∧ (∀ i, i < 16 → (∀ f, 1 ≤ f → f < 6 → f_X1_copyFrom κ k q (k + 13 + 2 * i) f = κ (q + 13 + 2 * i) f) ∧ (∀ f, f < 4 → f_X1_copyFrom κ k q (k + 13 + 2 * i + 1) f = κ (q + 13 + 2 * i + 1) f)) := by
  unfold f_X1_copyFrom
  dsimp only
  obtain ⟨a1, a2⟩ := l2_spec hd 3 0 κ rfl
  generalize lp_X1_copyFrom_2 k q 3 0 κ = κ1 at a1 a2
  obtain ⟨b1, b2⟩ := l43_spec hd 6 0 κ1 rfl
  generalize lp_X1_copyFrom_43 k q 6 0 κ1 = κ2 at b1 b2
  obtain ⟨c1, c2⟩ := l84_spec hd 16 0 κ2 rfl
  generalize lp_X1_copyFrom_84 k q 16 0 κ2 = κ3 at c1 c2
  have lo : ∀ r, r < q + 45 → κ3 r = κ r := fun r hr => by
    rw [c2 r (fun i x y => by omega), b2 r (fun i x y => by omega), a2 r (fun i x y => by omega)]
  have hq : ¬ q = k := by omega
  refine ⟨fun f hf hg => ?_, fun i hi f hf => ?_, fun i hi f hf => ?_, fun i hi => ⟨fun f hf hg => ?_, fun f hf => ?_⟩⟩
  · match f, hf, hg with
    | 3, _, _ => simp [up2_at, hq, lo q (by omega)]
    | 4, _, _ => simp [up2_at, hq, lo q (by omega)]
    | 5, _, _ => simp [up2_at, hq, lo q (by omega)]
    | 6, _, _ => simp [up2_at, hq, lo q (by omega)]
    | 7, _, _ => simp [up2_at, hq, lo q (by omega)]
  · have e : ¬ k + 4 + i = k := by omega
    rw [up2_row e, up2_row e, up2_row e, up2_row e, up2_row e, c2 _ (fun i2 x y => by omega), b2 _ (fun i2 x y => by omega)]
    exact a1 i (Nat.zero_le i) hi f hf
  · have e : ¬ k + 7 + i = k := by omega
    rw [up2_row e, up2_row e, up2_row e, up2_row e, up2_row e, c2 _ (fun i2 x y => by omega), b1 i (Nat.zero_le i) hi f hf, a2 _ (fun i2 x y => by omega)]
  · have e : ¬ k + 13 + 2 * i = k := by omega
    rw [up2_row e, up2_row e, up2_row e, up2_row e, up2_row e, (c1 i (Nat.zero_le i) hi).1 f hf hg, b2 _ (fun i2 x y => by omega), a2 _ (fun i2 x y => by omega)]
  · have e : ¬ k + 13 + 2 * i + 1 = k := by omega
    rw [up2_row e, up2_row e, up2_row e, up2_row e, up2_row e, (c1 i (Nat.zero_le i) hi).2 f hf, b2 _ (fun i2 x y => by omega), a2 _ (fun i2 x y => by omega)]
end COPYL
