theorem up2_row2 {κ : Kp} {k j k2 j2 q : Nat} {v w : Int32} (h : ¬ q = k) (h2 : ¬ q = k2) : up2 (up2 κ k j v) k2 j2 w q = κ q := by rw [up2_row h2, up2_row h]
theorem sim_op_fireOf (a : Int32) : SimOp SS (fun κ => f_L_fireOf κ a) (fun κ => f_X5_fireOf κ a) := by
  intro t κ ht hS k κ1 e
  obtain ⟨nf, ns, nr, a0, b, c0, d, -⟩ := id hS
  obtain ⟨hnf, hns, hnr⟩ := b.2.2.1
  rcases spit_cases a b.1.2.1 b.2.1.2 hns with ⟨i, hi, rfl, hn, hf⟩ | ⟨hn, hf⟩
  · refine rd_yes (v := κ (1 + 7 + i) 0) (fL := fun κ => f_L_fireOf κ (nI i)) (fX := fun κ => f_X5_fireOf κ (nI i)) hS ?_ ?_ e
    · show f_L_fireOf κ (nI i) = _
      unfold f_L_fireOf f_X4_fireOf
      rw [hn]
    · show f_X5_fireOf (up2 κ 98 0 (κ (1 + 7 + i) 0)) (nI i) = _
      unfold f_X5_fireOf
      dsimp only
      have hf2 : f_X5_isSpit (up2 (up2 κ 98 0 (κ (1 + 7 + i) 0)) 91 0 0) (nI i) = true := hf
      rw [hf2, if_neg bi_t]
      have hv : κ (1 + 7 + i) 0 = κ 92 i := b.2.2.2.1 i (by omega)
      rw [nI_clamp (by omega), up2_row (by decide), up2_row (by decide), hv]
  · refine rd_no (fL := fun κ => f_L_fireOf κ a) (fX := fun κ => f_X5_fireOf κ a) hS ?_ ?_ e
    · show f_L_fireOf κ a = _
      unfold f_L_fireOf f_X4_fireOf
      rw [hn]
    · show f_X5_fireOf κ a = _
      unfold f_X5_fireOf
      dsimp only
      have hf2 : f_X5_isSpit (up2 κ 91 0 0) a = false := hf
      rw [hf2, if_pos bi_f]
      rfl
theorem sim_op_roastOn (a : Int32) : SimOp SS (fun κ => f_L_roastOn κ a) (fun κ => f_X5_roastOn κ a) := by
  intro t κ ht hS k κ1 e
  obtain ⟨nf, ns, nr, a0, b, c0, d, -⟩ := id hS
  obtain ⟨hnf, hns, hnr⟩ := b.2.2.1
  rcases spit_cases a b.1.2.1 b.2.1.2 hns with ⟨i, hi, rfl, hn, hf⟩ | ⟨hn, hf⟩
  · refine rd_yes (v := κ (1 + 7 + i) 5) (fL := fun κ => f_L_roastOn κ (nI i)) (fX := fun κ => f_X5_roastOn κ (nI i)) hS ?_ ?_ e
    · show f_L_roastOn κ (nI i) = _
      unfold f_L_roastOn f_X4_roastOn
      rw [hn]
    · show f_X5_roastOn (up2 κ 98 0 (κ (1 + 7 + i) 5)) (nI i) = _
      unfold f_X5_roastOn
      dsimp only
      have hf2 : f_X5_isSpit (up2 (up2 κ 98 0 (κ (1 + 7 + i) 5)) 91 0 0) (nI i) = true := hf
      rw [hf2, if_neg bi_t]
      have hv : κ (1 + 7 + i) 5 = κ 96 (7 + 5 * i + 2) - 1 := (RX_spit a0.1 (i := i) (by omega)).2.2.1
      rw [show f_X5_sp (up2 (up2 κ 98 0 (κ (1 + 7 + i) 5)) 91 0 0) (nI i) 2 = (up2 (up2 κ 98 0 (κ (1 + 7 + i) 5)) 91 0 0) 96 (7 + 5 * i + 2) from sp_N (w := 2) (by omega) (by decide), up2_row (by decide), up2_row (by decide), hv]
  · refine rd_no (fL := fun κ => f_L_roastOn κ a) (fX := fun κ => f_X5_roastOn κ a) hS ?_ ?_ e
    · show f_L_roastOn κ a = _
      unfold f_L_roastOn f_X4_roastOn
      rw [hn]
    · show f_X5_roastOn κ a = _
      unfold f_X5_roastOn
      dsimp only
      have hf2 : f_X5_isSpit (up2 κ 91 0 0) a = false := hf
      rw [hf2, if_pos bi_f]
      rfl
theorem sim_op_poundsOf (a : Int32) : SimOp SS (fun κ => f_L_poundsOf κ a) (fun κ => f_X5_poundsOf κ a) := by
  intro t κ ht hS k κ1 e
  obtain ⟨nf, ns, nr, a0, b, c0, d, -⟩ := id hS
  obtain ⟨hnf, hns, hnr⟩ := b.2.2.1
  rcases roast_cases a b.1.2.2 d.1 hnr with ⟨i, hi, rfl, hn, hf⟩ | ⟨hn, hf⟩
  · refine rd_yes (v := κ (1 + 13 + 2 * i) 1) (fL := fun κ => f_L_poundsOf κ (nI i)) (fX := fun κ => f_X5_poundsOf κ (nI i)) hS ?_ ?_ e
    · show f_L_poundsOf κ (nI i) = _
      unfold f_L_poundsOf f_X4_poundsOf
      rw [hn]
    · show f_X5_poundsOf (up2 κ 98 0 (κ (1 + 13 + 2 * i) 1)) (nI i) = _
      unfold f_X5_poundsOf
      dsimp only
      have hf2 : f_X5_isRoast (up2 (up2 κ 98 0 (κ (1 + 13 + 2 * i) 1)) 91 0 0) (nI i) = true := hf
      rw [hf2, if_neg bi_t]
      have hv : κ (1 + 13 + 2 * i) 1 = κ 93 i := b.2.2.2.2.2 i hi
      rw [nI_clamp (by omega), up2_row (by decide), up2_row (by decide), hv]
  · refine rd_no (fL := fun κ => f_L_poundsOf κ a) (fX := fun κ => f_X5_poundsOf κ a) hS ?_ ?_ e
    · show f_L_poundsOf κ a = _
      unfold f_L_poundsOf f_X4_poundsOf
      rw [hn]
    · show f_X5_poundsOf κ a = _
      unfold f_X5_poundsOf
      dsimp only
      have hf2 : f_X5_isRoast (up2 κ 91 0 0) a = false := hf
      rw [hf2, if_pos bi_f]
      rfl
theorem sim_op_spitOf (a : Int32) : SimOp SS (fun κ => f_L_spitOf κ a) (fun κ => f_X5_spitOf κ a) := by
  intro t κ ht hS k κ1 e
  obtain ⟨nf, ns, nr, a0, b, c0, d, -⟩ := id hS
  obtain ⟨hnf, hns, hnr⟩ := b.2.2.1
  rcases roast_cases a b.1.2.2 d.1 hnr with ⟨i, hi, rfl, hn, hf⟩ | ⟨hn, hf⟩
  · refine rd_yes (v := κ (1 + 13 + 2 * i) 2) (fL := fun κ => f_L_spitOf κ (nI i)) (fX := fun κ => f_X5_spitOf κ (nI i)) hS ?_ ?_ e
    · show f_L_spitOf κ (nI i) = _
      unfold f_L_spitOf f_X4_spitOf
      rw [hn]
    · show f_X5_spitOf (up2 κ 98 0 (κ (1 + 13 + 2 * i) 2)) (nI i) = _
      unfold f_X5_spitOf
      dsimp only
      have hf2 : f_X5_isRoast (up2 (up2 κ 98 0 (κ (1 + 13 + 2 * i) 2)) 91 0 0) (nI i) = true := hf
      rw [hf2, if_neg bi_t]
      have hv : κ (1 + 13 + 2 * i) 2 = κ 96 (37 + 8 * i) - 1 := RX_on a0.1 (i := i) (by omega)
      rw [show f_X5_ro (up2 (up2 κ 98 0 (κ (1 + 13 + 2 * i) 2)) 91 0 0) (nI i) 0 = (up2 (up2 κ 98 0 (κ (1 + 13 + 2 * i) 2)) 91 0 0) 96 (37 + 8 * i) from ro_N (w := 0) (by omega) (by decide), up2_row (by decide), up2_row (by decide), hv]
  · refine rd_no (fL := fun κ => f_L_spitOf κ a) (fX := fun κ => f_X5_spitOf κ a) hS ?_ ?_ e
    · show f_L_spitOf κ a = _
      unfold f_L_spitOf f_X4_spitOf
      rw [hn]
    · show f_X5_spitOf κ a = _
      unfold f_X5_spitOf
      dsimp only
      have hf2 : f_X5_isRoast (up2 κ 91 0 0) a = false := hf
      rw [hf2, if_pos bi_f]
      rfl
theorem glow_of {κ m : Kp} {a : Int32} (h1 : m 92 = κ 92) (h2 : m 96 = κ 96) : f_X5_glow m a = f_X5_glow κ a := by
  unfold f_X5_glow f_X5_fi f_X5_sp
  rw [h1, h2]
theorem sim_op_glowAt (a : Int32) : SimOp SS (fun κ => f_L_glowAt κ a) (fun κ => f_X5_glowAt κ a) := by
  intro t κ ht hS k κ1 e
  obtain ⟨nf, ns, nr, a0, b, c0, d, -⟩ := id hS
  obtain ⟨hnf, hns, hnr⟩ := b.2.2.1
  rcases spit_cases a b.1.2.1 b.2.1.2 hns with ⟨i, hi, rfl, hn, hf⟩ | ⟨hn, hf⟩
  · refine rd_yes (v := f_X1_glowOf κ 1 (1 + 7 + i)) (fL := fun κ => f_L_glowAt κ (nI i)) (fX := fun κ => f_X5_glowAt κ (nI i)) hS ?_ ?_ e
    · show f_L_glowAt κ (nI i) = _
      unfold f_L_glowAt f_X4_glowAt
      rw [hn]
    · show f_X5_glowAt (up2 κ 98 0 (f_X1_glowOf κ 1 (1 + 7 + i))) (nI i) = _
      unfold f_X5_glowAt
      dsimp only
      have hf2 : f_X5_isSpit (up2 (up2 κ 98 0 (f_X1_glowOf κ 1 (1 + 7 + i))) 91 0 0) (nI i) = true := hf
      rw [hf2, if_neg bi_t]
      have hv : f_X1_glowOf κ 1 (1 + 7 + i) = f_X5_glow κ (nI i) := by
        obtain ⟨gl, -, g1, g2⟩ := sim_glowOf b (SS_J a0) hi
        exact g1.trans g2.symm
      rw [glow_of (κ := κ) (m := up2 (up2 κ 98 0 (f_X1_glowOf κ 1 (1 + 7 + i))) 91 0 0) (up2_row2 (by decide) (by decide)) (up2_row2 (by decide) (by decide)), hv]
  · refine rd_no (fL := fun κ => f_L_glowAt κ a) (fX := fun κ => f_X5_glowAt κ a) hS ?_ ?_ e
    · show f_L_glowAt κ a = _
      unfold f_L_glowAt f_X4_glowAt
      rw [hn]
    · show f_X5_glowAt κ a = _
      unfold f_X5_glowAt
      dsimp only
      have hf2 : f_X5_isSpit (up2 κ 91 0 0) a = false := hf
      rw [hf2, if_pos bi_f]
      rfl
theorem sim_op_brownOf (a b1 : Int32) : SimOp SS (fun κ => f_L_brownOf κ a b1) (fun κ => f_X5_brownOf κ a b1) := by
  intro t κ ht hS k κ1 e
  obtain ⟨nf, ns, nr, a0, b, c0, d, -⟩ := id hS
  obtain ⟨hnf, hns, hnr⟩ := b.2.2.1
  rcases roast_cases a b.1.2.2 d.1 hnr with ⟨i, hi, rfl, hn, hf⟩ | ⟨hn, hf⟩
  · by_cases c : vp_in b1 4
    · obtain ⟨w, hw, rfl⟩ := vp_in_of c (by decide)
      have k0 : ¬ nI w < 0 := nI0 (by omega)
      have k4 : nI w < 4 := (nIlt (a := w) (b := 4) (by omega) (by decide)).mpr hw
      have k3 : nI w ≤ 3 := (nIle (a := w) (b := 3) (by omega) (by decide)).mpr (by omega)
      refine rd_yes (v := κ (1 + 13 + 2 * i + 1) w) (fL := fun κ => f_L_brownOf κ (nI i) (nI w)) (fX := fun κ => f_X5_brownOf κ (nI i) (nI w)) hS ?_ ?_ e
      · show f_L_brownOf κ (nI i) (nI w) = _
        unfold f_L_brownOf f_X4_brownOf
        rw [hn]
        dsimp only
        rw [if_neg k0, if_pos k4, nI_clamp (by omega)]
      · show f_X5_brownOf (up2 κ 98 0 (κ (1 + 13 + 2 * i + 1) w)) (nI i) (nI w) = _
        unfold f_X5_brownOf
        dsimp only
        have hf2 : f_X5_isRoast (up2 (up2 κ 98 0 (κ (1 + 13 + 2 * i + 1) w)) 91 0 0) (nI i) = true := hf
        rw [hf2, if_neg bi_t, isIn_t k0 k3, if_neg bi_t]
        have hv : κ (1 + 13 + 2 * i + 1) w = κ 96 (37 + 8 * i + 4 + w) := RX_brown a0.1 (by omega) hw
        have e4 : (4 + nI w : Int32) = nI (4 + w) := nI_add 4 w
        rw [e4, ro_N (w := 4 + w) (by omega) (by omega), up2_row2 (by decide) (by decide), hv, show 37 + 8 * i + (4 + w) = 37 + 8 * i + 4 + w by omega]
    · have hno : (b1 < 0) ∨ (¬ b1 < 0 ∧ ¬ b1 < 4) := by
        by_cases c0 : b1 < 0
        · exact Or.inl c0
        · refine Or.inr ⟨c0, fun c4 => c ?_⟩
          rw [vp_in_iff]
          rw [Int32.lt_iff_toInt_lt] at c0 c4
          rw [show (0 : Int32).toInt = 0 from rfl] at c0
          rw [show (4 : Int32).toInt = 4 from rfl] at c4
          omega
      have hin : f_X5_isIn b1 0 3 = false := by
        rcases hno with h | ⟨h1, h2⟩
        · exact isIn_f1 h
        · refine isIn_f2 (fun q => h2 ?_)
          rw [Int32.le_iff_toInt_le, show (3 : Int32).toInt = 3 from rfl] at q
          rw [Int32.lt_iff_toInt_lt, show (4 : Int32).toInt = 4 from rfl]
          omega
      refine rd_no (fL := fun κ => f_L_brownOf κ (nI i) b1) (fX := fun κ => f_X5_brownOf κ (nI i) b1) hS ?_ ?_ e
      · show f_L_brownOf κ (nI i) b1 = _
        unfold f_L_brownOf f_X4_brownOf
        rw [hn]
        dsimp only
        rcases hno with h | ⟨h1, h2⟩
        · rw [if_pos h]
        · rw [if_neg h1, if_neg h2]
      · show f_X5_brownOf κ (nI i) b1 = _
        unfold f_X5_brownOf
        dsimp only
        have hf2 : f_X5_isRoast (up2 κ 91 0 0) (nI i) = true := hf
        rw [hf2, if_neg bi_t, hin, if_pos bi_f]
        rfl
  · refine rd_no (fL := fun κ => f_L_brownOf κ a b1) (fX := fun κ => f_X5_brownOf κ a b1) hS ?_ ?_ e
    · show f_L_brownOf κ a b1 = _
      unfold f_L_brownOf f_X4_brownOf
      rw [hn]
    · show f_X5_brownOf κ a b1 = _
      unfold f_X5_brownOf
      dsimp only
      have hf2 : f_X5_isRoast (up2 κ 91 0 0) a = false := hf
      rw [hf2, if_pos bi_f]
      rfl
theorem ldone_of {κ m : Kp} {a : Int32} (h1 : m 93 = κ 93) (h2 : m 96 = κ 96) : ∀ n j, lp_X5_done m a n j = lp_X5_done κ a n j := by
  intro n
  induction n with
  | zero => intro j; rfl
  | succ n ih =>
    intro j
    rw [lp_X5_done, lp_X5_done, ih (j + 1)]
    unfold f_X5_most f_X5_ro
    rw [h1, h2]
theorem lburnt_of {κ m : Kp} {a : Int32} (h1 : m 93 = κ 93) (h2 : m 96 = κ 96) : ∀ n j, lp_X5_burnt m a n j = lp_X5_burnt κ a n j := by
  intro n
  induction n with
  | zero => intro j; rfl
  | succ n ih =>
    intro j
    rw [lp_X5_burnt, lp_X5_burnt, ih (j + 1)]
    unfold f_X5_most f_X5_ro
    rw [h1, h2]
theorem done_of {κ m : Kp} {a : Int32} (h1 : m 93 = κ 93) (h2 : m 96 = κ 96) : f_X5_done m a = f_X5_done κ a := by
  unfold f_X5_done
  rw [ldone_of h1 h2]
theorem burnt_of {κ m : Kp} {a : Int32} (h1 : m 93 = κ 93) (h2 : m 96 = κ 96) : f_X5_burnt m a = f_X5_burnt κ a := by
  unfold f_X5_burnt
  rw [lburnt_of h1 h2]
theorem bi_01 (b : Bool) : bi b = 0 ∨ bi b = 1 := by cases b <;> decide
theorem sim_op_isDone (a : Int32) : SimOz SS (fun κ => f_L_isDone κ a) (fun κ => f_X5_isDone κ a) := by
  refine ⟨?_, fun κ r κ2 e => ?_⟩
  · intro t κ ht hS k κ1 e
    obtain ⟨nf, ns, nr, a0, b, c0, d, -⟩ := id hS
    obtain ⟨hnf, hns, hnr⟩ := b.2.2.1
    rcases roast_cases a b.1.2.2 d.1 hnr with ⟨i, hi, rfl, hn, hf⟩ | ⟨hn, hf⟩
    · have hd := sim_done b (SS_J a0) hi
      refine rd_yes (v := bi (f_X5_done κ (nI i))) (fL := fun κ => f_L_isDone κ (nI i)) (fX := fun κ => f_X5_isDone κ (nI i)) hS ?_ ?_ e
      · show f_L_isDone κ (nI i) = _
        unfold f_L_isDone f_X4_isDone
        rw [hn]
        dsimp only
        rw [hd]
        cases f_X5_done κ (nI i) with
        | false => rw [if_pos bi_f]; rfl
        | true => rw [if_neg bi_t]; rfl
      · show f_X5_isDone (up2 κ 98 0 (bi (f_X5_done κ (nI i)))) (nI i) = _
        unfold f_X5_isDone
        dsimp only
        have hf2 : f_X5_isRoast (up2 κ 98 0 (bi (f_X5_done κ (nI i)))) (nI i) = true := hf
        rw [hf2, if_neg bi_t, done_of (κ := κ) (m := up2 (up2 κ 98 0 (bi (f_X5_done κ (nI i)))) 91 0 0) (up2_row2 (by decide) (by decide)) (up2_row2 (by decide) (by decide))]
        cases f_X5_done κ (nI i) with
        | false => rw [if_pos bi_f]
        | true => rw [if_neg bi_t]
    · refine op_th (n := 1) (r0 := 0) (fL := fun κ => f_L_isDone κ a) (fX := fun κ => f_X5_isDone κ a) hS (by decide) ?_ ?_ th1 e
      · show f_L_isDone κ a = _
        unfold f_L_isDone f_X4_isDone
        rw [hn]
      · show f_X5_isDone κ a = _
        unfold f_X5_isDone
        rw [hf, if_pos bi_f]
        rfl
  · have e2 : f_X5_isDone κ a = (r, κ2) := e
    have e3 := congrArg Prod.fst e2
    unfold f_X5_isDone at e3
    by_cases c : bi (f_X5_isRoast κ a) = 0
    · rw [if_pos c] at e3
      exact Or.inl e3.symm
    · rw [if_neg c] at e3
      dsimp only at e3
      by_cases c2 : bi (f_X5_done (up2 κ 91 0 0) a) = 0
      · rw [if_pos c2] at e3
        exact Or.inl e3.symm
      · rw [if_neg c2] at e3
        exact Or.inr e3.symm
theorem sim_op_isBurnt (a : Int32) : SimOz SS (fun κ => f_L_isBurnt κ a) (fun κ => f_X5_isBurnt κ a) := by
  refine ⟨?_, fun κ r κ2 e => ?_⟩
  · intro t κ ht hS k κ1 e
    obtain ⟨nf, ns, nr, a0, b, c0, d, -⟩ := id hS
    obtain ⟨hnf, hns, hnr⟩ := b.2.2.1
    rcases roast_cases a b.1.2.2 d.1 hnr with ⟨i, hi, rfl, hn, hf⟩ | ⟨hn, hf⟩
    · have hd := sim_burnt b (SS_J a0) hi
      refine rd_yes (v := bi (f_X5_burnt κ (nI i))) (fL := fun κ => f_L_isBurnt κ (nI i)) (fX := fun κ => f_X5_isBurnt κ (nI i)) hS ?_ ?_ e
      · show f_L_isBurnt κ (nI i) = _
        unfold f_L_isBurnt f_X4_isBurnt
        rw [hn]
        dsimp only
        rw [hd]
        cases f_X5_burnt κ (nI i) with
        | false => rw [if_pos bi_f]; rfl
        | true => rw [if_neg bi_t]; rfl
      · show f_X5_isBurnt (up2 κ 98 0 (bi (f_X5_burnt κ (nI i)))) (nI i) = _
        unfold f_X5_isBurnt
        dsimp only
        have hf2 : f_X5_isRoast (up2 κ 98 0 (bi (f_X5_burnt κ (nI i)))) (nI i) = true := hf
        rw [hf2, if_neg bi_t, burnt_of (κ := κ) (m := up2 (up2 κ 98 0 (bi (f_X5_burnt κ (nI i)))) 91 0 0) (up2_row2 (by decide) (by decide)) (up2_row2 (by decide) (by decide))]
        cases f_X5_burnt κ (nI i) with
        | false => rw [if_pos bi_f]
        | true => rw [if_neg bi_t]
    · refine op_th (n := 1) (r0 := 0) (fL := fun κ => f_L_isBurnt κ a) (fX := fun κ => f_X5_isBurnt κ a) hS (by decide) ?_ ?_ th1 e
      · show f_L_isBurnt κ a = _
        unfold f_L_isBurnt f_X4_isBurnt
        rw [hn]
      · show f_X5_isBurnt κ a = _
        unfold f_X5_isBurnt
        rw [hf, if_pos bi_f]
        rfl
  · have e2 : f_X5_isBurnt κ a = (r, κ2) := e
    have e3 := congrArg Prod.fst e2
    unfold f_X5_isBurnt at e3
    by_cases c : bi (f_X5_isRoast κ a) = 0
    · rw [if_pos c] at e3
      exact Or.inl e3.symm
    · rw [if_neg c] at e3
      dsimp only at e3
      by_cases c2 : bi (f_X5_burnt (up2 κ 91 0 0) a) = 0
      · rw [if_pos c2] at e3
        exact Or.inl e3.symm
      · rw [if_neg c2] at e3
        exact Or.inr e3.symm
