section SIMT
variable {nf ns nr : Nat} {κ : Kp}
def TI (ns nr : Nat) (κ b : Kp) (t : Nat) (m : Kp) : Prop :=
  (∀ i, i < ns → (i < t ∧ ¬ κ (8 + i) 5 < 0 → m (98 + i) = va_up (b (98 + i)) 4 (κ (8 + i) 3 + 1)) ∧ (¬ (i < t ∧ ¬ κ (8 + i) 5 < 0) → m (98 + i) = b (98 + i))) ∧
  (∀ j, j < nr → (onT κ j t ∧ tu κ (κ (14 + 2 * j) 2).toNatClampNeg = true → m (104 + 2 * j) = va_up (b (104 + 2 * j)) 2 (f_X2_nextSide (κ (14 + 2 * j) 3))) ∧ (¬ (onT κ j t ∧ tu κ (κ (14 + 2 * j) 2).toNatClampNeg = true) → m (104 + 2 * j) = b (104 + 2 * j))) ∧
  (∀ q, ¬ (98 ≤ q ∧ q < 136 ∧ (q < 104 ∨ q % 2 = 0)) → m q = b q)
theorem TI_step {b m : Kp} {t : Nat} (hI : Iv nf ns nr κ) (hb1 : ∀ j, j < nr → b (104 + 2 * j) 2 = κ (14 + 2 * j) 3) (hb2 : ∀ i, i < ns → b (98 + i) 3 = κ (8 + i) 5 ∧ b (98 + i) 4 = κ (8 + i) 3 ∧ b (98 + i) 5 = κ (8 + i) 2) (h : TI ns nr κ b t m) (ht : t < ns) (n : Nat) : ∃ m' : Kp, lp_X6_pass_224 (n + 1) t m = lp_X6_pass_224 n (t + 1) m' ∧ TI ns nr κ b (t + 1) m' := by
  obtain ⟨⟨hnf, hns, hnr, hpos⟩, -, hR, hZ, hM⟩ := hI
  obtain ⟨q1, q2, q3⟩ := h
  obtain ⟨z3, z4, z5⟩ := hb2 t ht
  have emt : m (98 + t) = b (98 + t) := (q1 t ht).2 (fun z => by omega)
  have onO : ∀ j, j < nr → κ (14 + 2 * j) 2 ≠ nI t → (onT κ j (t + 1) ↔ onT κ j t) := by
    intro j hj hne
    unfold onT
    constructor
    · rintro ⟨a, b⟩
      refine ⟨a, ?_⟩
      obtain ⟨i, w1, w2, w3, w4, w5⟩ := hM.sp hns (by omega) a
      rw [w5] at b ⊢
      rcases Nat.lt_or_ge i t with z | z
      · exact z
      · have : i = t := by omega
        subst this
        exact absurd w3 hne
    · rintro ⟨a, b⟩
      exact ⟨a, by omega⟩
  have estep : lp_X6_pass_224 (n + 1) t m = if 0 ≤ m (98 + t) 3 then (fun κ1 : Kp => if κ1 (98 + t) 5 ≤ 0 then lp_X6_pass_224 n (t + 1) κ1 else if κ1 (98 + t) 4 - κ1 (98 + t) 4 / κ1 (98 + t) 5 * κ1 (98 + t) 5 = 0 then lp_X6_pass_224 n (t + 1) (up2 κ1 (104 + 2 * (κ1 (98 + t) 3).toNatClampNeg) 2 ((κ1 (104 + 2 * (κ1 (98 + t) 3).toNatClampNeg) 2 + 1) - (κ1 (104 + 2 * (κ1 (98 + t) 3).toNatClampNeg) 2 + 1) / 4 * 4)) else lp_X6_pass_224 n (t + 1) κ1) (up2 m (98 + t) 4 (m (98 + t) 4 + 1)) else lp_X6_pass_224 n (t + 1) m := rfl
  rw [estep, emt, z3, z4]
  by_cases c : κ (8 + t) 5 < 0
  · rw [if_neg (Int32.not_le.mpr c)]
    refine ⟨m, rfl, fun i hi => ?_, fun j hj => ?_, q3⟩
    · have e : (i < t + 1 ∧ ¬ κ (8 + i) 5 < 0) ↔ (i < t ∧ ¬ κ (8 + i) 5 < 0) := by
        constructor
        · rintro ⟨a, b⟩
          refine ⟨?_, b⟩
          rcases Nat.lt_or_ge i t with z | z
          · exact z
          · have : i = t := by omega
            subst this
            exact absurd c b
        · rintro ⟨a, b⟩
          exact ⟨by omega, b⟩
      rw [e]; exact q1 i hi
    · rw [onO j hj (fun z => ?_)]
      · exact q2 j hj
      · rcases hM.2 j (by omega) with y | ⟨a, i, y1, y2, y3⟩
        · rw [y] at z
          have := congrArg (fun x => decide (x < 0)) z
          rw [decide_eq_true n1_neg, decide_eq_false (nI0 (by omega))] at this
          cases this
        · rw [y2] at z
          have := (nIeq (by omega) (by omega)).mp z
          subst this
          rw [y3] at c
          exact absurd c (nI0 (by omega))
  · rw [if_pos (Int32.not_lt.mp c)]
    obtain ⟨j, w1, w2, w3, w4, w5⟩ := hM.hd hnr (by omega) c
    obtain ⟨κ1, hκ1⟩ : ∃ κ1 : Kp, up2 m (98 + t) 4 (κ (8 + t) 3 + 1) = κ1 := ⟨_, rfl⟩
    rw [hκ1]
    dsimp only
    have k1 : κ1 (98 + t) = va_up (b (98 + t)) 4 (κ (8 + t) 3 + 1) := by
      rw [← hκ1]
      show va_up m (98 + t) (va_up (m (98 + t)) 4 (κ (8 + t) 3 + 1)) (98 + t) = _
      rw [va_up_self, emt]
    have k2 : ∀ q, q ≠ 98 + t → κ1 q = m q := fun q hq => by rw [← hκ1]; exact up2_row hq
    have k3 : κ1 (98 + t) 3 = κ (8 + t) 5 := by rw [k1, va_up_ne _ _ (by decide), z3]
    have k4 : κ1 (98 + t) 4 = κ (8 + t) 3 + 1 := by rw [k1, va_up_self]
    have k5 : κ1 (98 + t) 5 = κ (8 + t) 2 := by rw [k1, va_up_ne _ _ (by decide), z5]
    have hnon : ¬ onT κ j t := fun z => by
      have := z.2
      rw [w4, nI_clamp (by omega)] at this
      omega
    have eside : κ1 (104 + 2 * j) 2 = κ (14 + 2 * j) 3 := by
      rw [k2 _ (by omega), (q2 j w2).2 (fun z => hnon z.1)]
      exact hb1 j w2
    have hs : vp_in (κ (14 + 2 * j) 3) 4 := by
      have := hR.side (j := j) (by omega)
      rw [if_pos w2] at this; exact this
    rw [k3, k4, k5, w5, eside, (nx_law hs).2.2]
    have ii : ∀ i, i < ns → i ≠ t → ((i < t + 1 ∧ ¬ κ (8 + i) 5 < 0) ↔ (i < t ∧ ¬ κ (8 + i) 5 < 0)) := fun i hi hne => ⟨fun z => ⟨by omega, z.2⟩, fun z => ⟨by omega, z.2⟩⟩
    have hsp : (κ (14 + 2 * j) 2).toNatClampNeg = t := by rw [w4, nI_clamp (by omega)]
    have hon : onT κ j (t + 1) := ⟨by rw [w4]; exact nI0 (by omega), by rw [hsp]; omega⟩
    have hne : ∀ j2, j2 < nr → j2 ≠ j → κ (14 + 2 * j2) 2 ≠ nI t := by
      intro j2 hj2 hne z
      rcases hM.2 j2 (by omega) with y | ⟨a, i, y1, y2, y3⟩
      · rw [y] at z
        have := congrArg (fun x => decide (x < 0)) z
        rw [decide_eq_true n1_neg, decide_eq_false (nI0 (by omega))] at this
        cases this
      · rw [y2] at z
        have := (nIeq (by omega) (by omega)).mp z
        subst this
        rw [w3] at y3
        have := (nIeq (by omega) (by omega)).mp y3
        omega
    have spits : ∀ κ2 : Kp, (∀ q, q < 104 → κ2 q = κ1 q) → ∀ i, i < ns → (i < t + 1 ∧ ¬ κ (8 + i) 5 < 0 → κ2 (98 + i) = va_up (b (98 + i)) 4 (κ (8 + i) 3 + 1)) ∧ (¬ (i < t + 1 ∧ ¬ κ (8 + i) 5 < 0) → κ2 (98 + i) = b (98 + i)) := by
      intro κ2 h2 i hi
      rw [h2 _ (by omega)]
      by_cases e : i = t
      · subst e
        exact ⟨fun _ => k1, fun z => absurd ⟨Nat.lt_succ_self i, c⟩ z⟩
      · rw [ii i hi e, k2 _ (by omega)]; exact q1 i hi
    have notu : tu κ t = false → ∀ j2, j2 < nr → (onT κ j2 (t + 1) ∧ tu κ (κ (14 + 2 * j2) 2).toNatClampNeg = true → κ1 (104 + 2 * j2) = va_up (b (104 + 2 * j2)) 2 (f_X2_nextSide (κ (14 + 2 * j2) 3))) ∧ (¬ (onT κ j2 (t + 1) ∧ tu κ (κ (14 + 2 * j2) 2).toNatClampNeg = true) → κ1 (104 + 2 * j2) = b (104 + 2 * j2)) := by
      intro ht j2 hj2
      rw [k2 _ (by omega)]
      by_cases e : j2 = j
      · subst e
        refine ⟨fun z => ?_, fun _ => (q2 j2 hj2).2 (fun z => hnon z.1)⟩
        rw [hsp, ht] at z
        exact absurd z.2 (by decide)
      · rw [onO j2 hj2 (hne j2 hj2 e)]; exact q2 j2 hj2
    have rest : ∀ q, ¬ (98 ≤ q ∧ q < 136 ∧ (q < 104 ∨ q % 2 = 0)) → κ1 q = b q := fun q hq => by rw [k2 q (by omega)]; exact q3 q hq
    by_cases c1 : κ (8 + t) 2 ≤ 0
    · have ht : tu κ t = false := by unfold tu; rw [decide_eq_false (fun z => z c1)]; rfl
      rw [if_pos c1]
      exact ⟨κ1, rfl, spits κ1 (fun _ _ => rfl), notu ht, rest⟩
    · rw [if_neg c1]
      by_cases c2 : (κ (8 + t) 3 + 1) - (κ (8 + t) 3 + 1) / κ (8 + t) 2 * κ (8 + t) 2 = 0
      · have ht : tu κ t = true := by unfold tu; rw [decide_eq_true c1, decide_eq_true c2]; rfl
        rw [if_pos c2]
        refine ⟨_, rfl, spits _ (fun q hq => up2_row (by omega)), fun j2 hj2 => ?_, fun q hq => ?_⟩
        · by_cases e : j2 = j
          · subst e
            refine ⟨fun _ => ?_, fun z => absurd ⟨hon, by rw [hsp]; exact ht⟩ z⟩
            show va_up κ1 (104 + 2 * j2) (va_up (κ1 (104 + 2 * j2)) 2 _) (104 + 2 * j2) = _
            rw [va_up_self, k2 _ (by omega), (q2 j2 hj2).2 (fun z => hnon z.1)]
          · rw [up2_row (by omega), k2 _ (by omega), onO j2 hj2 (hne j2 hj2 e)]; exact q2 j2 hj2
        · rw [up2_row (by omega)]; exact rest q hq
      · have ht : tu κ t = false := by unfold tu; rw [decide_eq_true c1, decide_eq_false c2]; rfl
        rw [if_neg c2]
        exact ⟨κ1, rfl, spits κ1 (fun _ _ => rfl), notu ht, rest⟩
theorem TI_all {b : Kp} (hI : Iv nf ns nr κ) (hb1 : ∀ j, j < nr → b (104 + 2 * j) 2 = κ (14 + 2 * j) 3) (hb2 : ∀ i, i < ns → b (98 + i) 3 = κ (8 + i) 5 ∧ b (98 + i) 4 = κ (8 + i) 3 ∧ b (98 + i) 5 = κ (8 + i) 2) : ∀ (n t : Nat) (m : Kp), t + n = ns → TI ns nr κ b t m → TI ns nr κ b ns (lp_X6_pass_224 n t m) := by
  intro n
  induction n with
  | zero =>
    intro t m ht h
    have : t = ns := by omega
    subst this
    exact h
  | succ n ih =>
    intro t m ht h
    obtain ⟨m1, e, h1⟩ := TI_step hI hb1 hb2 h (by omega) n
    rw [e]
    exact ih (t + 1) m1 (by omega) h1
theorem mx_law (x : Int32) : (if 0 ≤ x then (if x ≤ 9 then x else 9) else 0) = mx x := by
  unfold mx
  by_cases c9 : x < 9
  · rw [if_pos c9]
    by_cases c0 : 0 < x
    · rw [if_pos c0, if_pos (Int32.le_of_lt c0), if_pos (Int32.le_of_lt c9)]
    · rw [if_neg c0]
      by_cases c1 : 0 ≤ x
      · have : x = 0 := Int32.le_antisymm (Int32.not_lt.mp c0) c1
        subst this
        rfl
      · rw [if_neg c1]
  · rw [if_neg c9, if_pos (Int32.le_trans (by decide : (0 : Int32) ≤ 9) (Int32.not_lt.mp c9)), if_pos (by decide : (0 : Int32) < 9)]
    by_cases c1 : x ≤ 9
    · rw [if_pos c1]; exact Int32.le_antisymm c1 (Int32.not_lt.mp c9)
    · rw [if_neg c1]
/-- a fire of the law, behind a minute -/
def lF (r : Nat → Int32) (fl mn : Int32) : Nat → Int32 := va_up (va_up r 0 (nL (r 0) mn)) 1 (nH (r 0) (r 1) fl)
theorem lF_step {m : Kp} {t : Nat} (n : Nat) : lp_X6_pass_312 (n + 1) t m = lp_X6_pass_312 n (t + 1) (va_up m (95 + t) (lF (m (95 + t)) (m 161 t) (m 91 0))) := by
  have as : ∀ d : Int32, m (95 + t) 1 + m 161 t + d = m (95 + t) 1 + (m 161 t + d) := fun d => Int32.add_assoc _ _ _
  have pick : ∀ (x : Int32) (κa : Kp), (if 0 ≤ x then (if x ≤ 9 then lp_X6_pass_312 n (t + 1) (up2 κa (95 + t) 1 x) else lp_X6_pass_312 n (t + 1) (up2 κa (95 + t) 1 9)) else lp_X6_pass_312 n (t + 1) (up2 κa (95 + t) 1 0)) = lp_X6_pass_312 n (t + 1) (up2 κa (95 + t) 1 (mx x)) := by
    intro x κa
    rw [← mx_law x]
    by_cases c : 0 ≤ x
    · rw [if_pos c, if_pos c]
      by_cases c2 : x ≤ 9
      · rw [if_pos c2, if_pos c2]
      · rw [if_neg c2, if_neg c2]
    · rw [if_neg c, if_neg c]
  have estep : lp_X6_pass_312 (n + 1) t m = if m (95 + t) 0 ≤ 0 then (if 0 ≤ m (95 + t) 1 + m 161 t + -1 then (if m (95 + t) 1 + m 161 t + -1 ≤ 9 then lp_X6_pass_312 n (t + 1) (up2 m (95 + t) 1 (m (95 + t) 1 + m 161 t + -1)) else lp_X6_pass_312 n (t + 1) (up2 m (95 + t) 1 9)) else lp_X6_pass_312 n (t + 1) (up2 m (95 + t) 1 0)) else if m 91 0 - m 91 0 / 5 * 5 = 0 then (fun κ7 : Kp => if 0 ≤ m (95 + t) 1 + m 161 t + 1 then (if m (95 + t) 1 + m 161 t + 1 ≤ 9 then lp_X6_pass_312 n (t + 1) (up2 κ7 (95 + t) 1 (m (95 + t) 1 + m 161 t + 1)) else lp_X6_pass_312 n (t + 1) (up2 κ7 (95 + t) 1 9)) else lp_X6_pass_312 n (t + 1) (up2 κ7 (95 + t) 1 0)) (up2 m (95 + t) 0 (m (95 + t) 0 - 1)) else (if 0 ≤ m (95 + t) 1 + m 161 t + 1 then (if m (95 + t) 1 + m 161 t + 1 ≤ 9 then lp_X6_pass_312 n (t + 1) (up2 m (95 + t) 1 (m (95 + t) 1 + m 161 t + 1)) else lp_X6_pass_312 n (t + 1) (up2 m (95 + t) 1 9)) else lp_X6_pass_312 n (t + 1) (up2 m (95 + t) 1 0)) := rfl
  rw [estep]
  unfold lF nL nH
  by_cases c : m (95 + t) 0 ≤ 0
  · rw [if_pos c, pick, if_pos c, if_pos c, va_up_id, as]; rfl
  · rw [if_neg c, if_neg c, if_neg c]
    by_cases c2 : m 91 0 - m 91 0 / 5 * 5 = 0
    · rw [if_pos c2, if_pos c2]
      dsimp only
      rw [pick, as]
      show lp_X6_pass_312 n (t + 1) (va_up (up2 m (95 + t) 0 (m (95 + t) 0 - 1)) (95 + t) (va_up (up2 m (95 + t) 0 (m (95 + t) 0 - 1) (95 + t)) 1 _)) = _
      rw [show up2 m (95 + t) 0 (m (95 + t) 0 - 1) (95 + t) = va_up (m (95 + t)) 0 (m (95 + t) 0 - 1) from va_up_self _ _ _]
      unfold up2
      rw [va_up_up]
    · rw [if_neg c2, if_neg c2, pick, va_up_id, as]; rfl
theorem p312 : ∀ (n t : Nat) (m : Kp), t + n = nf → nf ≤ 3 → (∀ f, f < nf → lp_X6_pass_312 n t m (95 + f) = if t ≤ f then lF (m (95 + f)) (m 161 f) (m 91 0) else m (95 + f)) ∧ ∀ q, q < 95 ∨ 95 + nf ≤ q → lp_X6_pass_312 n t m q = m q := by
  intro n
  induction n with
  | zero =>
    intro t m ht hnf
    refine ⟨fun f hf => ?_, fun q _ => rfl⟩
    rw [if_neg (by omega)]; rfl
  | succ n ih =>
    intro t m ht hnf
    rw [lF_step]
    obtain ⟨h1, h2⟩ := ih (t + 1) (va_up m (95 + t) (lF (m (95 + t)) (m 161 t) (m 91 0))) (by omega) hnf
    refine ⟨fun f hf => ?_, fun q hq => ?_⟩
    · rw [h1 f hf, va_up_ne m _ (show (161 : Nat) ≠ 95 + t by omega), va_up_ne m _ (show (91 : Nat) ≠ 95 + t by omega)]
      by_cases c : f = t
      · subst c
        rw [if_neg (by omega), if_pos (Nat.le_refl f), va_up_self]
      · rw [va_up_ne m _ (show 95 + f ≠ 95 + t by omega)]
        by_cases c2 : t ≤ f
        · rw [if_pos (by omega), if_pos c2]
        · rw [if_neg (by omega), if_neg c2]
    · rw [h2 q hq, va_up_ne m _ (by omega)]
end SIMT
