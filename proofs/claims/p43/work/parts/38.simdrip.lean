section SIMQ
variable {nf ns nr : Nat} {κ : Kp}
/-- roast j drips; the dripping of spit i's roast falls into the pan -/
def dP (κ : Kp) (j : Nat) : Prop := ¬ κ (14 + 2 * j) 2 < 0 ∧ dr κ (κ (14 + 2 * j) 2).toNatClampNeg j = true
def pP (κ : Kp) (i t : Nat) : Prop := ¬ κ (8 + i) 5 < 0 ∧ (κ (8 + i) 5).toNatClampNeg < t ∧ (dr κ i (κ (8 + i) 5).toNatClampNeg && !fu κ i) = true
def QI (nf ns nr : Nat) (κ b : Kp) (t : Nat) (v : Int32) (m : Kp) : Prop :=
  (∀ j, j < nr → (j < t ∧ dP κ j → m (104 + 2 * j) = va_up (b (104 + 2 * j)) 3 (b (104 + 2 * j) 3 - 1)) ∧ (¬ (j < t ∧ dP κ j) → m (104 + 2 * j) = b (104 + 2 * j))) ∧
  (∀ i, i < ns → (pP κ i t → m (98 + i) = va_up (b (98 + i)) 2 (b (98 + i) 2 + 1)) ∧ (¬ pP κ i t → m (98 + i) = b (98 + i))) ∧
  (∀ f, f < nf → m 161 f = nI (rf κ f t)) ∧ (∀ q, q ≠ 161 → ¬ (98 ≤ q ∧ q < 136 ∧ (q < 104 ∨ q % 2 = 0)) → m q = b q) ∧ v = nI (sm (fR κ) t)
theorem neg_nI {x : Int32} {i j : Nat} (hi : i < 2 ^ 31) (hx : x = nI i) : ¬ x < 0 ∧ x.toNatClampNeg = i := by
  subst hx; exact ⟨nI0 hi, nI_clamp hi⟩
theorem QI_step {b m : Kp} {t : Nat} {v : Int32} (hI : Iv nf ns nr κ) (hb1 : ∀ j, j < nr → b (104 + 2 * j) 1 = κ (14 + 2 * j) 2 ∧ b (104 + 2 * j) 3 = κ (14 + 2 * j) 4 ∧ (¬ κ (14 + 2 * j) 2 < 0 → b (104 + 2 * j) 5 = gt κ (κ (14 + 2 * j) 2).toNatClampNeg j)) (hb2 : ∀ i, i < ns → b (98 + i) 0 = κ (8 + i) 0 ∧ b (98 + i) 2 = κ (8 + i) 4) (h : QI nf ns nr κ b t v m) (ht : t < nr) (n : Nat) : ∃ (v' : Int32) (m' : Kp), lp_X6_pass_106 (n + 1) t v m = lp_X6_pass_106 n (t + 1) v' m' ∧ QI nf ns nr κ b (t + 1) v' m' := by
  obtain ⟨⟨hnf, hns, hnr, hpos⟩, -, hR, hZ, hM⟩ := hI
  obtain ⟨q1, q2, q3, q4, q5⟩ := h
  obtain ⟨z1, z3, z5⟩ := hb1 t ht
  have emt : m (104 + 2 * t) = b (104 + 2 * t) := (q1 t ht).2 (fun z => by omega)
  -- nothing happens
  have stay : ¬ dP κ t → QI nf ns nr κ b (t + 1) v m := by
    intro hd
    have hfR : fR κ t = 0 := by
      unfold fR
      by_cases c : κ (14 + 2 * t) 2 < 0
      · rw [if_pos c]
      · rw [if_neg c, if_neg]
        intro z
        rw [Bool.and_eq_true] at z
        exact hd ⟨c, z.1⟩
    refine ⟨fun j hj => ?_, fun i hi => ?_, fun f hf => ?_, q4, ?_⟩
    · have e : (j < t + 1 ∧ dP κ j) ↔ (j < t ∧ dP κ j) := by
        constructor
        · rintro ⟨a, b⟩
          refine ⟨?_, b⟩
          rcases Nat.lt_or_ge j t with z | z
          · exact z
          · have : j = t := by omega
            subst this
            exact absurd b hd
        · rintro ⟨a, b⟩
          exact ⟨by omega, b⟩
      rw [e]; exact q1 j hj
    · have e : pP κ i (t + 1) ↔ pP κ i t := by
        unfold pP
        constructor
        · rintro ⟨a, b, c⟩
          refine ⟨a, ?_, c⟩
          obtain ⟨j, w1, w2, w3, w4, w5⟩ := hM.hd hnr (by omega) a
          rw [w5] at b c ⊢
          rcases Nat.lt_or_ge j t with z | z
          · exact z
          · have : j = t := by omega
            subst this
            rw [Bool.and_eq_true] at c
            exact absurd ⟨by rw [w4]; exact nI0 (by omega), by rw [w4, nI_clamp (by omega)]; exact c.1⟩ hd
        · rintro ⟨a, b, c⟩
          exact ⟨a, by omega, c⟩
      rw [e]; exact q2 i hi
    · show m 161 f = nI (rf κ f t + (if κ (14 + 2 * t) 2 < 0 then 0 else if κ (8 + (κ (14 + 2 * t) 2).toNatClampNeg) 0 = nI f then fR κ t else 0))
      rw [hfR, ite_self, ite_self, Nat.add_zero]
      exact q3 f hf
    · show v = nI (sm (fR κ) t + fR κ t)
      rw [hfR]; exact q5
  have estep : lp_X6_pass_106 (n + 1) t v m = if m (104 + 2 * t) 1 < 0 then lp_X6_pass_106 n (t + 1) v m else if m (104 + 2 * t) 5 < 2 then lp_X6_pass_106 n (t + 1) v m else if m (104 + 2 * t) 3 = 0 then lp_X6_pass_106 n (t + 1) v m else (fun κ1 : Kp => if 20 ≤ κ1 (98 + (κ1 (104 + 2 * t) 1).toNatClampNeg) 2 then lp_X6_pass_106 n (t + 1) (v + 1) (up2 κ1 161 (κ1 (98 + (κ1 (104 + 2 * t) 1).toNatClampNeg) 0).toNatClampNeg (κ1 161 (κ1 (98 + (κ1 (104 + 2 * t) 1).toNatClampNeg) 0).toNatClampNeg + 1)) else lp_X6_pass_106 n (t + 1) v (up2 κ1 (98 + (κ1 (104 + 2 * t) 1).toNatClampNeg) 2 (κ1 (98 + (κ1 (104 + 2 * t) 1).toNatClampNeg) 2 + 1))) (up2 m (104 + 2 * t) 3 (m (104 + 2 * t) 3 - 1)) := rfl
  rw [estep, emt, z1, z3]
  by_cases c : κ (14 + 2 * t) 2 < 0
  · rw [if_pos c]
    exact ⟨v, m, rfl, stay (fun z => z.1 c)⟩
  · rw [if_neg c]
    obtain ⟨i, w1, w2, w3, w4, w5⟩ := hM.sp hns (by omega) c
    have z5' := z5 c
    rw [w5] at z5'
    rw [z5']
    by_cases cg : gt κ i t < 2
    · rw [if_pos cg]
      refine ⟨v, m, rfl, stay (fun z => ?_)⟩
      have := z.2
      unfold dr at this
      rw [w5, decide_eq_true cg] at this
      cases this
    · rw [if_neg cg]
      by_cases cfat : κ (14 + 2 * t) 4 = 0
      · rw [if_pos cfat]
        refine ⟨v, m, rfl, stay (fun z => ?_)⟩
        have := dr_fat z.2
        rw [cfat] at this
        exact absurd this (by decide)
      · rw [if_neg cfat]
        have hfat : 0 < κ (14 + 2 * t) 4 := by
          have hf := (hZ.2 t ht).2
          obtain ⟨p, hp1, ep⟩ := vp_in_of (hR.pounds ht hnr) (by decide)
          rw [ep, nI_clamp (by omega)] at hf
          obtain ⟨k, hk, e⟩ := vp_in_of hf (by omega)
          rw [e] at cfat ⊢
          have : k ≠ 0 := fun z => cfat (by rw [z]; rfl)
          exact (nIlt (a := 0) (b := k) (by decide) (by omega)).mpr (by omega)
        have hdr : dr κ i t = true := by
          unfold dr
          rw [decide_eq_false cg, decide_eq_true hfat]; rfl
        have hdP : dP κ t := ⟨c, by rw [w5]; exact hdr⟩
        obtain ⟨κ1, hκ1⟩ : ∃ κ1 : Kp, up2 m (104 + 2 * t) 3 (κ (14 + 2 * t) 4 - 1) = κ1 := ⟨_, rfl⟩
        rw [hκ1]
        dsimp only
        have k1 : κ1 (104 + 2 * t) = va_up (b (104 + 2 * t)) 3 (b (104 + 2 * t) 3 - 1) := by
          rw [← hκ1]
          show va_up m (104 + 2 * t) (va_up (m (104 + 2 * t)) 3 (κ (14 + 2 * t) 4 - 1)) (104 + 2 * t) = _
          rw [va_up_self, emt, z3]
        have k2 : ∀ q, q ≠ 104 + 2 * t → κ1 q = m q := fun q hq => by rw [← hκ1]; exact up2_row hq
        have k3 : (κ1 (104 + 2 * t) 1).toNatClampNeg = i := by rw [k1, va_up_ne _ _ (by decide), z1, w5]
        have npi : ¬ pP κ i t := fun z => by
          have := z.2.1
          rw [w4, nI_clamp (by omega)] at this
          omega
        have k4 : κ1 (98 + i) = b (98 + i) := by rw [k2 _ (by omega)]; exact (q2 i w1).2 npi
        obtain ⟨d0, d2⟩ := hb2 i w1
        rw [k3, k4, d0, d2]
        obtain ⟨f, hf, ef⟩ := vp_in_of (hR.fire w1 hns (by omega)) (by omega)
        rw [ef, nI_clamp (by omega)]
        have k161 : κ1 161 = m 161 := k2 161 (by omega)
        rw [k161]
        have jj : ∀ j, j < nr → j ≠ t → ((j < t + 1 ∧ dP κ j) ↔ (j < t ∧ dP κ j)) := fun j hj hjt => ⟨fun z => ⟨by omega, z.2⟩, fun z => ⟨by omega, z.2⟩⟩
        have ii : ∀ i2, i2 < ns → i2 ≠ i → (pP κ i2 (t + 1) ↔ pP κ i2 t) := by
          intro i2 hi2 hne
          unfold pP
          constructor
          · rintro ⟨a, b, d⟩
            refine ⟨a, ?_, d⟩
            obtain ⟨j, y1, y2, y3, y4, y5⟩ := hM.hd hnr (by omega) a
            rw [y5] at b ⊢
            rcases Nat.lt_or_ge j t with z | z
            · exact z
            · have : j = t := by omega
              subst this
              rw [w3] at y4
              have := (nIeq (by omega) (by omega)).mp y4
              omega
          · rintro ⟨a, b, d⟩
            exact ⟨a, by omega, d⟩
        by_cases c20 : (20 : Int32) ≤ κ (8 + i) 4
        · have hfu : fu κ i = true := by
            unfold fu
            rw [decide_eq_false (Int32.not_lt.mpr c20)]; rfl
          have hfR : fR κ t = 1 := by
            unfold fR
            rw [if_neg c, w5, hdr, hfu]; rfl
          have hpn : ¬ pP κ i (t + 1) := fun z => by
            have := z.2.2
            rw [hfu, Bool.not_true, Bool.and_false] at this
            cases this
          rw [if_pos c20]
          refine ⟨_, _, rfl, fun j hj => ?_, fun i2 hi2 => ?_, fun f2 hf2 => ?_, fun q hq1 hq2 => ?_, ?_⟩
          · rw [up2_row (by omega)]
            by_cases e : j = t
            · subst e
              exact ⟨fun _ => k1, fun z => absurd ⟨Nat.lt_succ_self j, hdP⟩ z⟩
            · rw [jj j hj e, k2 _ (by omega)]; exact q1 j hj
          · rw [up2_row (by omega)]
            by_cases e : i2 = i
            · subst e
              exact ⟨fun z => absurd z hpn, fun _ => k4⟩
            · rw [ii i2 hi2 e, k2 _ (by omega)]; exact q2 i2 hi2
          · show _ = nI (rf κ f2 t + (if κ (14 + 2 * t) 2 < 0 then 0 else if κ (8 + (κ (14 + 2 * t) 2).toNatClampNeg) 0 = nI f2 then fR κ t else 0))
            rw [if_neg c, w5, ef, hfR]
            by_cases e : f2 = f
            · subst e
              rw [if_pos rfl, up2_self, q3 f2 hf2, nI_1]
            · rw [up2_ne _ _ (Or.inr e), if_neg (fun z => e ((nIeq (by omega) (by omega)).mp z).symm), k161]
              exact q3 f2 hf2
          · rw [up2_row hq1, k2 q (by omega)]; exact q4 q hq1 hq2
          · show v + 1 = nI (sm (fR κ) t + fR κ t)
            rw [hfR, q5, nI_1]
        · have hfu : fu κ i = false := by
            unfold fu
            rw [decide_eq_true (Int32.not_le.mp c20)]; rfl
          have hfR : fR κ t = 0 := by
            unfold fR
            rw [if_neg c, w5, hdr, hfu]; rfl
          have hpp : pP κ i (t + 1) := ⟨by rw [w4]; exact nI0 (by omega), by rw [w4, nI_clamp (by omega)]; omega, by rw [w4, nI_clamp (by omega), hdr, hfu]; rfl⟩
          rw [if_neg c20]
          refine ⟨_, _, rfl, fun j hj => ?_, fun i2 hi2 => ?_, fun f2 hf2 => ?_, fun q hq1 hq2 => ?_, ?_⟩
          · rw [up2_row (by omega)]
            by_cases e : j = t
            · subst e
              exact ⟨fun _ => k1, fun z => absurd ⟨Nat.lt_succ_self j, hdP⟩ z⟩
            · rw [jj j hj e, k2 _ (by omega)]; exact q1 j hj
          · by_cases e : i2 = i
            · subst e
              refine ⟨fun _ => ?_, fun z => absurd hpp z⟩
              show va_up κ1 (98 + i2) (va_up (κ1 (98 + i2)) 2 (κ (8 + i2) 4 + 1)) (98 + i2) = _
              rw [va_up_self, k4, d2]
            · rw [up2_row (by omega), ii i2 hi2 e, k2 _ (by omega)]; exact q2 i2 hi2
          · show _ = nI (rf κ f2 t + (if κ (14 + 2 * t) 2 < 0 then 0 else if κ (8 + (κ (14 + 2 * t) 2).toNatClampNeg) 0 = nI f2 then fR κ t else 0))
            rw [hfR, ite_self, ite_self, up2_row (by omega), k161]
            exact q3 f2 hf2
          · rw [up2_row (by omega), k2 q (by omega)]; exact q4 q hq1 hq2
          · show v = nI (sm (fR κ) t + fR κ t)
            rw [hfR]; exact q5
theorem QI_all {b : Kp} (hI : Iv nf ns nr κ) (hb1 : ∀ j, j < nr → b (104 + 2 * j) 1 = κ (14 + 2 * j) 2 ∧ b (104 + 2 * j) 3 = κ (14 + 2 * j) 4 ∧ (¬ κ (14 + 2 * j) 2 < 0 → b (104 + 2 * j) 5 = gt κ (κ (14 + 2 * j) 2).toNatClampNeg j)) (hb2 : ∀ i, i < ns → b (98 + i) 0 = κ (8 + i) 0 ∧ b (98 + i) 2 = κ (8 + i) 4) : ∀ (n t : Nat) (v : Int32) (m : Kp), t + n = nr → QI nf ns nr κ b t v m → ∃ (v' : Int32) (m' : Kp), lp_X6_pass_106 n t v m = (v', m') ∧ QI nf ns nr κ b nr v' m' := by
  intro n
  induction n with
  | zero =>
    intro t v m ht h
    have : t = nr := by omega
    subst this
    exact ⟨v, m, rfl, h⟩
  | succ n ih =>
    intro t v m ht h
    obtain ⟨v1, m1, e, h1⟩ := QI_step hI hb1 hb2 h (by omega) n
    rw [e]
    exact ih (t + 1) v1 m1 (by omega) h1
end SIMQ
