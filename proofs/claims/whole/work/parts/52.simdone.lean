section SIMB
variable {k nf ns nr : Nat} {κ0 m0 κc κm : Kp}
theorem J_base (h : J k nf ns nr κ0 m0 κc κm) : J k nf ns nr κc κm κc κm := by
  obtain ⟨h1, h2, -, -, -⟩ := h
  refine ⟨h1, fun x hx => ?_, fun o f _ => rfl, FrK.rfl, fun q _ _ _ => rfl⟩
  obtain ⟨a, b, c, d, e⟩ := h2 x hx
  exact ⟨a, b, c, d, fun i hi w hw ex => ⟨(e i hi w hw ex).1, (e i hi w hw ex).2.1, (e i hi w hw ex).2.2.1, fun q => ⟨((e i hi w hw ex).2.2.2 q).1, Int.le_refl _⟩⟩⟩
theorem stc_pounds : ∀ i, i < 16 → stc (13 + 2 * i) 1 = true := by decide
theorem J_pounds (hB : Bs k nf ns nr κ0 m0) (h : J k nf ns nr κ0 m0 κc κm) {i : Nat} (hi : i < nr) : κc (k + 13 + 2 * i) 1 = κm 93 i := by
  have hnr := hB.2.2.1.2.2
  have h1 := h.2.2.1 (13 + 2 * i) 1 (stc_pounds i (by omega))
  rw [show k + (13 + 2 * i) = k + 13 + 2 * i by omega] at h1
  rw [h1, h.2.2.2.2 93 (by decide) (by decide) (by decide)]
  exact hB.2.2.2.2.2 i hi
theorem Bs_base (hB : Bs k nf ns nr κ0 m0) (h : J k nf ns nr κ0 m0 κc κm) : Bs k nf ns nr κc κm := by
  have hns := hB.2.2.1.2.1
  refine ⟨J_cnt hB h, ?_, hB.2.2.1, fun i hi => ?_, fun i hi => ?_, fun i hi => J_pounds hB h hi⟩
  · rw [h.2.2.2.2 91 (by decide) (by decide) (by decide)]; exact hB.2.1
  · have h1 := h.2.2.1 (7 + i) 0 (stc_spit i hi)
    rw [show k + (7 + i) = k + 7 + i by omega] at h1
    rw [h1, h.2.2.2.2 92 (by decide) (by decide) (by decide)]
    exact hB.2.2.2.1 i hi
  · rw [h.2.2.2.2 92 (by decide) (by decide) (by decide)]
    exact hB.2.2.2.2.1 i hi
theorem sim_done (hB : Bs k nf ns nr κ0 m0) (h : J k nf ns nr κ0 m0 κc κm) {i : Nat} (hi : i < nr) : f_X2_done κc (k + 13 + 2 * i) = f_X5_done κm (nI i) := by
  have hnr := hB.2.2.1.2.2
  have hp := J_pounds hB h hi
  have key : ∀ (n j : Nat), j + n = 4 → lp_X2_done κc (k + 13 + 2 * i) n j = lp_X5_done κm (nI i) n j := by
    intro n
    induction n with
    | zero => intro j hj; rfl
    | succ n ih =>
      intro j hj
      rw [lp_X2_done, lp_X5_done, hp, RX_brown h.1 (i := i) (w := j) (by omega) (by omega), ih (j + 1) (by omega), ro_N (i := i) (w := 4 + j) (by omega) (by omega), nI_clamp (by omega)]
      unfold f_X5_most
      rw [nI_clamp (by omega), show 37 + 8 * i + (4 + j) = 37 + 8 * i + 4 + j by omega]
  unfold f_X2_done f_X5_done
  rw [key 4 0 rfl]
  cases lp_X5_done κm (nI i) 4 0 <;> rfl
theorem sim_burnt (hB : Bs k nf ns nr κ0 m0) (h : J k nf ns nr κ0 m0 κc κm) {i : Nat} (hi : i < nr) : f_X2_burnt κc (k + 13 + 2 * i) = f_X5_burnt κm (nI i) := by
  have hnr := hB.2.2.1.2.2
  have hp := J_pounds hB h hi
  have key : ∀ (n j : Nat), j + n = 4 → lp_X2_burnt κc (k + 13 + 2 * i) n j = lp_X5_burnt κm (nI i) n j := by
    intro n
    induction n with
    | zero => intro j hj; rfl
    | succ n ih =>
      intro j hj
      rw [lp_X2_burnt, lp_X5_burnt, hp, RX_brown h.1 (i := i) (w := j) (by omega) (by omega), ih (j + 1) (by omega), ro_N (i := i) (w := 4 + j) (by omega) (by omega)]
      unfold f_X5_most
      rw [nI_clamp (by omega), show 37 + 8 * i + (4 + j) = 37 + 8 * i + 4 + j by omega]
  unfold f_X2_burnt f_X5_burnt
  rw [key 4 0 rfl]
  cases lp_X5_burnt κm (nI i) 4 0 <;> rfl
end SIMB
theorem lburnt_iff {κ : Kp} {a : Int32} : ∀ (n j : Nat), lp_X5_burnt κ a n j = true ↔ ∃ w, j ≤ w ∧ w < j + n ∧ ¬ f_X5_ro κ a (nI (4 + w)) ≤ f_X5_most κ a := by
  intro n
  induction n with
  | zero => intro j; exact ⟨fun h => (by cases h), fun ⟨w, h1, h2, _⟩ => (by omega)⟩
  | succ n ih =>
    intro j
    rw [lp_X5_burnt]
    by_cases c : f_X5_ro κ a (nI (4 + j)) ≤ f_X5_most κ a
    · rw [if_pos c, ih (j + 1)]
      constructor
      · rintro ⟨w, h1, h2, h3⟩
        exact ⟨w, by omega, by omega, h3⟩
      · rintro ⟨w, h1, h2, h3⟩
        by_cases e : w = j
        · subst e; exact absurd c h3
        · exact ⟨w, by omega, by omega, h3⟩
    · rw [if_neg c]
      exact ⟨fun _ => ⟨j, by omega, by omega, c⟩, fun _ => rfl⟩
theorem burnt_iff {κ : Kp} {a : Int32} : f_X5_burnt κ a = true ↔ ∃ w, w < 4 ∧ ¬ f_X5_ro κ a (nI (4 + w)) ≤ f_X5_most κ a := by
  have e : f_X5_burnt κ a = lp_X5_burnt κ a 4 0 := by
    unfold f_X5_burnt
    cases lp_X5_burnt κ a 4 0 <;> rfl
  rw [e, lburnt_iff 4 0]
  exact ⟨fun ⟨w, _, h2, h3⟩ => ⟨w, by omega, h3⟩, fun ⟨w, h2, h3⟩ => ⟨w, by omega, by omega, h3⟩⟩
theorem ldone_le {κ : Kp} {a : Int32} : ∀ (n j : Nat), lp_X5_done κ a n j = true → ∀ w, j ≤ w → w < j + n → f_X5_ro κ a (nI (4 + w)) ≤ f_X5_most κ a := by
  intro n
  induction n with
  | zero => intro j _ w h1 h2; omega
  | succ n ih =>
    intro j h w h1 h2
    rw [lp_X5_done] at h
    by_cases c1 : f_X5_ro κ a (nI (4 + j)) < 3 * κ 93 a.toNatClampNeg
    · rw [if_pos c1] at h; cases h
    · rw [if_neg c1] at h
      by_cases c2 : f_X5_ro κ a (nI (4 + j)) ≤ f_X5_most κ a
      · rw [if_pos c2] at h
        by_cases e : w = j
        · subst e; exact c2
        · exact ih (j + 1) h w (by omega) (by omega)
      · rw [if_neg c2] at h; cases h
theorem burnt_not_done {κ : Kp} {a : Int32} (h : f_X5_burnt κ a = true) : f_X5_done κ a = false := by
  obtain ⟨w, h1, h2⟩ := burnt_iff.mp h
  have e : f_X5_done κ a = lp_X5_done κ a 4 0 := by
    unfold f_X5_done
    cases lp_X5_done κ a 4 0 <;> rfl
  cases hd : f_X5_done κ a with
  | false => rfl
  | true =>
    rw [e] at hd
    exact absurd (ldone_le 4 0 hd w (Nat.zero_le w) (by omega)) h2
theorem burnt_stays {k nf ns nr : Nat} {κ0 m0 κc κm : Kp} (h : J k nf ns nr κ0 m0 κc κm) {i : Nat} (hi : i < 16) (hb : f_X5_burnt m0 (nI i) = true) : f_X5_burnt κm (nI i) = true := by
  obtain ⟨w, h1, h2⟩ := burnt_iff.mp hb
  refine burnt_iff.mpr ⟨w, h1, fun q => h2 ?_⟩
  have hm := (((h.2.1 (37 + 8 * i + (4 + w)) (by omega)).2.2.2.2 i hi (4 + w) (by omega) rfl).2.2.2 (by omega)).2
  have e93 : κm 93 = m0 93 := h.2.2.2.2 93 (by decide) (by decide) (by decide)
  have em : f_X5_most κm (nI i) = f_X5_most m0 (nI i) := by unfold f_X5_most; rw [e93]
  rw [em, ro_N hi (by omega)] at q
  rw [ro_N hi (by omega)]
  rw [Int32.le_iff_toInt_le] at q ⊢
  omega
