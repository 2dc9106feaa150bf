/-- the law's invariant out of its pieces: the class's kitchen in κc, the rest in κm -/
theorem SS_mk {t nf ns nr : Nat} {κc κm : Kp} {μ : Nat → Int32} (rl : ∀ q, q < 46 → κm q = κc q) (hR : RX 1 κc κm) (hG : Gs nf ns nr μ κm) (hB : Bs 1 nf ns nr κc κm) (hz : ∀ f, f < 3 → κc (1 + 4 + f) 2 = 0) (h3 : κm 91 3 = nI nr) (h7 : κc 1 7 = κm 91 4) (he : 0 ≤ (κm 91 4).toInt ∧ (κm 91 4).toInt ≤ 5000) (hf : 0 ≤ (κm 96 0).toInt ∧ (κm 96 0).toInt ≤ 200 * t) (hg : ∀ i, i < 6 → vp_in (κm 92 i) 3) : SS t κm := by
  have hnr := hB.2.2.1.2.2
  refine ⟨nf, ns, nr, ⟨fun x hx => ?_, fun x hx => ?_⟩, ⟨⟨?_, ?_, ?_⟩, hB.2.1, hB.2.2.1, fun i hi => ?_, hB.2.2.2.2.1, fun i hi => ?_⟩, fun f hf => ?_, ⟨h3, ?_⟩, he, hf, hg⟩
  · have := oC_lt x hx
    rw [rl (1 + oC x) (by omega)]; exact hR x hx
  · obtain ⟨a, b, c, d, e⟩ := hG x hx
    exact ⟨a, b, c, d, fun i hi w hw ex => ⟨(e i hi w hw ex).1, (e i hi w hw ex).2.1, (e i hi w hw ex).2.2.1, fun q => ⟨((e i hi w hw ex).2.2.2 q).1, Int.le_refl _⟩⟩⟩
  · rw [rl 1 (by decide)]; exact hB.1.1
  · rw [rl 1 (by decide)]; exact hB.1.2.1
  · rw [rl 1 (by decide)]; exact hB.1.2.2
  · rw [rl (1 + 7 + i) (by omega)]; exact hB.2.2.2.1 i hi
  · rw [rl (1 + 13 + 2 * i) (by omega)]; exact hB.2.2.2.2.2 i hi
  · rw [rl (1 + 4 + f) (by omega)]; exact hz f hf
  · rw [rl 1 (by decide)]; exact h7
/-- a call that changes the kitchen, counts and all -/
theorem op_g {t : Nat} {κ κ1 κc : Kp} {k v : Int32} {fL fX : Kp → Int32 × Kp} (hS : SS t κ) (hfr : ∀ q, 46 ≤ q → κc q = κ q) (eL : fL κ = (0, up2 κc 98 0 v))
    (key : ∀ m1 m0 : Kp, m1 = up2 κc 98 0 v → m0 = up2 m1 91 0 0 → (∀ q, ¬ q = 98 → ¬ q = 91 → 46 ≤ q → m0 q = κ q) → (∀ j, 0 < j → m0 91 j = κ 91 j) → (∀ q, q < 46 → m0 q = κc q) → ∃ κm, fX m1 = (v, κm) ∧ (κm 91 0 = m0 91 0 ∧ κm 98 = m0 98) ∧ SS (t + 1) κm)
    (e : fL κ = (k, κ1)) : MI κ1 ∧ ∀ r κ2, fX κ1 = (r, κ2) → f_X5_thrown κ2 = k ∧ (k = 0 → κ2 98 0 = r) ∧ SS (t + 1) κ2 := by
  rw [eL] at e
  cases e
  refine ⟨MIr_of (SS_MI hS) (by rw [up2_row (by decide)]; exact hfr 91 (by decide)) (by rw [up2_row (by decide)]; exact hfr 92 (by decide)) (fun j hj => by rw [up2_row (by decide), hfr 96 (by decide)]), fun r κ2 e2 => ?_⟩
  obtain ⟨m1, hm1⟩ : ∃ m1, m1 = up2 κc 98 0 v := ⟨_, rfl⟩
  obtain ⟨m0, hm0⟩ : ∃ m0, m0 = up2 m1 91 0 0 := ⟨_, rfl⟩
  have r0 : ∀ q, ¬ q = 98 → ¬ q = 91 → m0 q = κc q := fun q h1 h2 => by rw [hm0, up2_row h2, hm1, up2_row h1]
  obtain ⟨κm, eX, ⟨h91, h98⟩, hS2⟩ := key m1 m0 hm1 hm0 (fun q h1 h2 h3 => (r0 q h1 h2).trans (hfr q h3)) (fun j hj => by rw [hm0, up2_ne m1 0 (Or.inr (by omega)), hm1, up2_row (by decide), hfr 91 (by decide)]) (fun q hq => r0 q (by omega) (by omega))
  rw [← hm1, eX] at e2
  obtain ⟨rfl, rfl⟩ := Prod.mk.inj e2
  refine ⟨?_, fun _ => ?_, hS2⟩
  · show κm 91 0 = 0
    rw [h91, hm0, up2_self]
  · rw [h98, hm0, up2_row (by decide), hm1, up2_self]
theorem nI_i32 {x : Int32} {n : Nat} (h : x = nI n) : x + 1 = nI (n + 1) := by rw [h, nI_1]
theorem nI_n1 {n : Nat} (h : n < 2 ^ 30) : ¬ nI n = -1 := fun q => by
  have h2 := congrArg Int32.toInt q
  rw [nI_toInt (by omega), show (-1 : Int32).toInt = -1 from rfl] at h2
  omega
theorem Gs_mono {nf ns nr nf' nr' : Nat} {μ : Nat → Int32} {m : Kp} (h : Gs nf ns nr μ m) (h1 : nf ≤ nf') (h2 : nr ≤ nr') : Gs nf' ns nr' μ m := by
  intro x hx
  obtain ⟨a, b, c, d, e⟩ := h x hx
  refine ⟨fun i hi ex hn => a i hi ex (by omega), fun i hi ex => ⟨(b i hi ex).1, fun hn => (b i hi ex).2 (by omega)⟩, c, fun i hi ex => ?_, fun i hi w hw ex => ⟨fun hn => (e i hi w hw ex).1 (by omega), (e i hi w hw ex).2⟩⟩
  obtain ⟨q, q1, q2, q3⟩ := d i hi ex
  exact ⟨q, by omega, q2, q3⟩
theorem oC_no03 : ¬ (oC (iC 0 3) = 0 ∧ fC (iC 0 3) = 3) := by decide
theorem oC_no04 : ¬ (oC (iC 0 4) = 0 ∧ fC (iC 0 4) = 4) := by decide
theorem oC_no05 : ¬ (oC (iC 0 5) = 0 ∧ fC (iC 0 5) = 5) := by decide
theorem oC_no07 : ¬ (oC (iC 0 7) = 0 ∧ fC (iC 0 7) = 7) := by decide
theorem oC_noS : ∀ i, i < 6 → ¬ (oC (iC (7 + i) 0) = 7 + i ∧ fC (iC (7 + i) 0) = 0) := by decide
theorem oC_noR : ∀ i, i < 16 → ¬ (oC (iC (13 + 2 * i) 1) = 13 + 2 * i ∧ fC (iC (13 + 2 * i) 1) = 1) := by decide
theorem RX_row {k : Nat} {κc κm κm' : Kp} (h : RX k κc κm) (e : κm' 96 = κm 96) : RX k κc κm' := fun x hx => by rw [e]; exact h x hx
theorem Gs_row {nf ns nr : Nat} {μ : Nat → Int32} {m m' : Kp} (h : Gs nf ns nr μ m) (e : m' 96 = m 96) : Gs nf ns nr μ m' := fun x hx => by rw [e]; exact h x hx
theorem sim_op_addFire : SimOp SS (fun κ => f_L_addFire κ) (fun κ => f_X5_addFire κ) := by
  intro t κ ht hS k κ1 e
  obtain ⟨nf, ns, nr, a0, b0, c0, d0, e0, f0, g0⟩ := id hS
  obtain ⟨hnf, hns, hnr⟩ := b0.2.2.1
  have h13 := b0.1.1
  by_cases c : nf < 3
  · have c3 : κ 1 3 < 3 := by rw [h13]; exact (nIlt (a := nf) (b := 3) (by omega) (by decide)).mpr c
    refine op_g (κc := up2 κ 1 3 (nI (nf + 1))) (v := nI nf) (fL := fun κ => f_L_addFire κ) (fX := fun κ => f_X5_addFire κ) hS (fun q hq => up2_row (by omega)) ?_ ?_ e
    · show f_L_addFire κ = _
      unfold f_L_addFire f_X4_addFire f_X1_placeFire
      rw [if_pos c3]
      dsimp only
      rw [nI_i32 h13, up2_self, nI_less, if_neg (nI_n1 (by omega))]
    · intro m1 m0 hm1 hm0 r1 r2 rl
      have e911 : m0 91 1 = nI nf := (r2 1 (by decide)).trans b0.2.1.1
      refine ⟨up2 m0 91 1 (nI (nf + 1)), ?_, ⟨up2_ne _ _ (Or.inr (by decide)), up2_row (by decide)⟩, ?_⟩
      · show f_X5_addFire m1 = _
        unfold f_X5_addFire
        rw [← hm0]
        dsimp only
        rw [e911, if_neg (fun q => by
          have := (nIeq (a := nf) (b := 3) (by omega) (by decide)).mp q
          omega), nI_1, up2_self, nI_less]
      · have e96 : (up2 m0 91 1 (nI (nf + 1))) 96 = κ 96 := (up2_row (by decide)).trans (r1 96 (by decide) (by decide) (by decide))
        have e92 : (up2 m0 91 1 (nI (nf + 1))) 92 = κ 92 := (up2_row (by decide)).trans (r1 92 (by decide) (by decide) (by decide))
        have e93 : (up2 m0 91 1 (nI (nf + 1))) 93 = κ 93 := (up2_row (by decide)).trans (r1 93 (by decide) (by decide) (by decide))
        have e91 : ∀ j, 1 < j → (up2 m0 91 1 (nI (nf + 1))) 91 j = κ 91 j := fun j hj => (up2_ne _ _ (Or.inr (by omega))).trans (r2 j (by omega))
        have hc : ∀ q, ¬ q = 1 → (up2 κ 1 3 (nI (nf + 1))) q = κ q := fun q hq => up2_row hq
        have hc1 : ∀ j, ¬ j = 3 → (up2 κ 1 3 (nI (nf + 1))) 1 j = κ 1 j := fun j hj => up2_ne _ _ (Or.inr hj)
        refine SS_mk (nf := nf + 1) (ns := ns) (nr := nr) (κc := up2 κ 1 3 (nI (nf + 1))) (fun q hq => (up2_row (by omega)).trans (rl q hq)) (RX_row (RX_upC (o := 0) a0.1 oC_no03) e96) (Gs_row (Gs_mono a0.2 (by omega) (by omega)) e96) ⟨⟨up2_self _ _ _ _, (hc1 4 (by decide)).trans b0.1.2.1, (hc1 5 (by decide)).trans b0.1.2.2⟩, ⟨up2_self _ _ _ _, (e91 2 (by decide)).trans b0.2.1.2⟩, ⟨by omega, hns, hnr⟩, fun i hi => ?_, fun i hi => ?_, fun i hi => ?_⟩ (fun f hf => ?_) ((e91 3 (by decide)).trans d0.1) ?_ (by rw [e91 4 (by decide)]; exact e0) (by rw [e96]; exact ⟨f0.1, by omega⟩) (fun i hi => by rw [e92]; exact g0 i hi)
        · rw [hc _ (by omega), e92]; exact b0.2.2.2.1 i hi
        · rw [e92]
          obtain ⟨f, hf, ef⟩ := b0.2.2.2.2.1 i hi
          exact ⟨f, by omega, ef⟩
        · rw [hc _ (by omega), e93]; exact b0.2.2.2.2.2 i hi
        · rw [hc _ (by omega)]; exact c0 f hf
        · rw [hc1 7 (by decide), e91 4 (by decide)]; exact d0.2
  · have e3 : nf = 3 := by omega
    subst e3
    have c3 : ¬ κ 1 3 < 3 := by rw [h13]; exact (by decide : ¬ nI 3 < 3)
    refine op_th (n := 1) (r0 := 0) (fL := fun κ => f_L_addFire κ) (fX := fun κ => f_X5_addFire κ) hS (by decide) ?_ ?_ th2 e
    · show f_L_addFire κ = _
      unfold f_L_addFire f_X4_addFire f_X1_placeFire
      rw [if_neg c3]
      dsimp only
      rw [if_pos rfl]
    · show f_X5_addFire κ = _
      unfold f_X5_addFire
      dsimp only
      have h1 : (up2 κ 91 0 0) 91 1 = 3 := by rw [up2_ne _ _ (Or.inr (by decide)), b0.2.1.1]; rfl
      rw [if_pos h1]
      rfl
theorem sim_op_setFeast (a : Int32) : SimOp SS (fun κ => f_L_setFeast κ a) (fun κ => f_X5_setFeast κ a) := by
  intro t κ ht hS k κ1 e
  obtain ⟨nf, ns, nr, a0, b0, c0, d0, e0, f0, g0⟩ := id hS
  obtain ⟨hnf, hns, hnr⟩ := b0.2.2.1
  by_cases c1 : a < 0
  · refine op_th (n := 1) (r0 := 0) (fL := fun κ => f_L_setFeast κ a) (fX := fun κ => f_X5_setFeast κ a) hS (by decide) ?_ ?_ th2 e
    · show f_L_setFeast κ a = _
      unfold f_L_setFeast f_X4_setFeast
      rw [if_pos c1]
    · show f_X5_setFeast κ a = _
      unfold f_X5_setFeast
      dsimp only
      rw [isIn_f1 c1, if_pos bi_f]
      rfl
  · by_cases c2 : a ≤ 5000
    · refine op_g (κc := up2 κ 1 7 a) (v := κ 1 7) (fL := fun κ => f_L_setFeast κ a) (fX := fun κ => f_X5_setFeast κ a) hS (fun q hq => up2_row (by omega)) ?_ ?_ e
      · show f_L_setFeast κ a = _
        unfold f_L_setFeast f_X4_setFeast
        rw [if_neg c1, if_pos c2]
      · intro m1 m0 hm1 hm0 r1 r2 rl
        refine ⟨up2 m0 91 4 a, ?_, ⟨up2_ne _ _ (Or.inr (by decide)), up2_row (by decide)⟩, ?_⟩
        · show f_X5_setFeast m1 a = _
          unfold f_X5_setFeast
          rw [← hm0]
          dsimp only
          rw [isIn_t c1 c2, if_neg bi_t, r2 4 (by decide), d0.2]
        · have e96 : (up2 m0 91 4 a) 96 = κ 96 := (up2_row (by decide)).trans (r1 96 (by decide) (by decide) (by decide))
          have e92 : (up2 m0 91 4 a) 92 = κ 92 := (up2_row (by decide)).trans (r1 92 (by decide) (by decide) (by decide))
          have e93 : (up2 m0 91 4 a) 93 = κ 93 := (up2_row (by decide)).trans (r1 93 (by decide) (by decide) (by decide))
          have e91 : ∀ j, 0 < j → ¬ j = 4 → (up2 m0 91 4 a) 91 j = κ 91 j := fun j h0 hj => (up2_ne _ _ (Or.inr hj)).trans (r2 j h0)
          have hc : ∀ q, ¬ q = 1 → (up2 κ 1 7 a) q = κ q := fun q hq => up2_row hq
          have hc1 : ∀ j, ¬ j = 7 → (up2 κ 1 7 a) 1 j = κ 1 j := fun j hj => up2_ne _ _ (Or.inr hj)
          rw [Int32.lt_iff_toInt_lt, show (0 : Int32).toInt = 0 from rfl] at c1
          rw [Int32.le_iff_toInt_le, show (5000 : Int32).toInt = 5000 from rfl] at c2
          refine SS_mk (nf := nf) (ns := ns) (nr := nr) (κc := up2 κ 1 7 a) (fun q hq => (up2_row (by omega)).trans (rl q hq)) (RX_row (RX_upC (o := 0) a0.1 oC_no07) e96) (Gs_row a0.2 e96) ⟨⟨(hc1 3 (by decide)).trans b0.1.1, (hc1 4 (by decide)).trans b0.1.2.1, (hc1 5 (by decide)).trans b0.1.2.2⟩, ⟨(e91 1 (by decide) (by decide)).trans b0.2.1.1, (e91 2 (by decide) (by decide)).trans b0.2.1.2⟩, ⟨hnf, hns, hnr⟩, fun i hi => ?_, fun i hi => ?_, fun i hi => ?_⟩ (fun f hf => ?_) ((e91 3 (by decide) (by decide)).trans d0.1) ?_ (by rw [up2_self]; exact ⟨by omega, c2⟩) (by rw [e96]; exact ⟨f0.1, by omega⟩) (fun i hi => by rw [e92]; exact g0 i hi)
          · rw [hc _ (by omega), e92]; exact b0.2.2.2.1 i hi
          · rw [e92]; exact b0.2.2.2.2.1 i hi
          · rw [hc _ (by omega), e93]; exact b0.2.2.2.2.2 i hi
          · rw [hc _ (by omega)]; exact c0 f hf
          · rw [up2_self, up2_self]
    · refine op_th (n := 1) (r0 := 0) (fL := fun κ => f_L_setFeast κ a) (fX := fun κ => f_X5_setFeast κ a) hS (by decide) ?_ ?_ th2 e
      · show f_L_setFeast κ a = _
        unfold f_L_setFeast f_X4_setFeast
        rw [if_neg c1, if_neg c2]
      · show f_X5_setFeast κ a = _
        unfold f_X5_setFeast
        dsimp only
        rw [isIn_f2 c2, if_pos bi_f]
        rfl
