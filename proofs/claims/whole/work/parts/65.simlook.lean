/-- all that the invariant looks at, and no more -/
theorem SS_of3 {t : Nat} {κ κ' : Kp} (h : SS t κ) (h1 : ∀ q, q < 46 → κ' q = κ q) (h2 : κ' 92 = κ 92) (h3 : ∀ i nr : Nat, κ 91 3 = nI nr → nr ≤ 16 → i < nr → κ' 93 i = κ 93 i) (h4 : ∀ j, j < 165 → κ' 96 j = κ 96 j) (h5 : ∀ j, 0 < j → κ' 91 j = κ 91 j) : SS t κ' := by
  obtain ⟨nf, ns, nr, a, b, c, d, e, f, g⟩ := h
  obtain ⟨hnf, hns, hnr⟩ := b.2.2.1
  refine ⟨nf, ns, nr, ⟨fun x hx => ?_, fun x hx => ?_⟩, ⟨⟨?_, ?_, ?_⟩, ⟨?_, ?_⟩, b.2.2.1, fun i hi => ?_, fun i hi => ?_, fun i hi => ?_⟩, fun i hi => ?_, ⟨?_, ?_⟩, ?_, ?_, fun i hi => ?_⟩
  · have := oC_lt x hx
    rw [h1 (1 + oC x) (by omega), h4 x hx]; exact a.1 x hx
  · rw [h4 x hx]
    obtain ⟨a, b, c, d, e⟩ := a.2 x hx
    exact ⟨a, b, c, d, fun i hi w hw ex => ⟨(e i hi w hw ex).1, (e i hi w hw ex).2.1, (e i hi w hw ex).2.2.1, fun q => ⟨((e i hi w hw ex).2.2.2 q).1, by rw [h4 x hx]; exact Int.le_refl _⟩⟩⟩
  · rw [h1 1 (by decide)]; exact b.1.1
  · rw [h1 1 (by decide)]; exact b.1.2.1
  · rw [h1 1 (by decide)]; exact b.1.2.2
  · rw [h5 1 (by decide)]; exact b.2.1.1
  · rw [h5 2 (by decide)]; exact b.2.1.2
  · rw [h1 (1 + 7 + i) (by omega), h2]; exact b.2.2.2.1 i hi
  · rw [h2]; exact b.2.2.2.2.1 i hi
  · rw [h1 (1 + 13 + 2 * i) (by omega), h3 i nr d.1 hnr hi]; exact b.2.2.2.2.2 i hi
  · rw [h1 (1 + 4 + i) (by omega)]; exact c i hi
  · rw [h5 3 (by decide)]; exact d.1
  · rw [h1 1 (by decide), h5 4 (by decide)]; exact d.2
  · rw [h5 4 (by decide)]; exact e
  · rw [h4 0 (by decide)]; exact f
  · rw [h2]; exact g i hi
/-- what a look ahead may leave behind in the reference -/
def Lk (m κm : Kp) : Prop := (∀ q, ¬ q = 93 → ¬ q = 94 → ¬ q = 95 → ¬ q = 96 → ¬ q = 97 → κm q = m q) ∧ (∀ i nr : Nat, m 91 3 = nI nr → nr ≤ 16 → i < nr → κm 93 i = m 93 i) ∧ (∀ j, j < 165 → κm 96 j = m 96 j)
theorem Lk.rfl {m : Kp} : Lk m m := ⟨fun _ _ _ _ _ _ => Eq.refl _, fun _ _ _ _ _ => Eq.refl _, fun _ _ => Eq.refl _⟩
theorem Lk.trans {m m1 m2 : Kp} (h : Lk m m1) (h2 : Lk m1 m2) : Lk m m2 := by
  refine ⟨fun q a b c d e => (h2.1 q a b c d e).trans (h.1 q a b c d e), fun i nr a b c => ?_, fun j hj => (h2.2.2 j hj).trans (h.2.2 j hj)⟩
  rw [h2.2.1 i nr (by rw [h.1 91 (by decide) (by decide) (by decide) (by decide) (by decide)]; exact a) b c]
  exact h.2.1 i nr a b c
theorem SS_Lk {t : Nat} {m κm : Kp} (h : SS t m) (hL : Lk m κm) : SS t κm :=
  SS_of3 h (fun q hq => hL.1 q (by omega) (by omega) (by omega) (by omega) (by omega)) (hL.1 92 (by decide) (by decide) (by decide) (by decide) (by decide)) hL.2.1 hL.2.2 (fun j hj => by rw [hL.1 91 (by decide) (by decide) (by decide) (by decide) (by decide)])
/-- a look ahead: the class changes its second kitchen alone -/
theorem op_l {t : Nat} {κ κ1 κc : Kp} {k v : Int32} {fL fX : Kp → Int32 × Kp} (hS : SS t κ) (hfr : FrK 46 κ κc) (eL : fL κ = (0, up2 κc 98 0 v))
    (key : ∀ m1 m0 : Kp, m0 = up2 m1 91 0 0 → (∀ q, ¬ q = 98 → ¬ (46 ≤ q ∧ q < 91) → m1 q = κ q) → SS t m0 → ∃ κm, fX m1 = (v, κm) ∧ Lk m0 κm)
    (e : fL κ = (k, κ1)) : MI κ1 ∧ ∀ r κ2, fX κ1 = (r, κ2) → f_X5_thrown κ2 = k ∧ (k = 0 → κ2 98 0 = r) ∧ SS (t + 1) κ2 := by
  rw [eL] at e
  cases e
  obtain ⟨m1, hm1⟩ : ∃ m1, m1 = up2 κc 98 0 v := ⟨_, rfl⟩
  obtain ⟨m0, hm0⟩ : ∃ m0, m0 = up2 m1 91 0 0 := ⟨_, rfl⟩
  have r0 : ∀ q, ¬ q = 98 → ¬ (46 ≤ q ∧ q < 91) → m1 q = κ q := fun q h1 h2 => by rw [hm1, up2_row h1]; exact hfr q (by omega)
  have hS1 : SS t m1 := SS_of hS (fun q hq => r0 q (by omega) (by omega)) (r0 92 (by decide) (by omega)) (r0 93 (by decide) (by omega)) (r0 96 (by decide) (by omega)) (fun j hj => by rw [r0 91 (by decide) (by omega)])
  have hS0 : SS t m0 := by rw [hm0]; exact SS_th hS1
  rw [← hm1]
  refine ⟨SS_MI hS1, fun r κ2 e2 => ?_⟩
  obtain ⟨κm, eX, hL⟩ := key m1 m0 hm0 r0 hS0
  rw [eX] at e2
  obtain ⟨rfl, rfl⟩ := Prod.mk.inj e2
  refine ⟨?_, fun _ => ?_, SS_mono (SS_Lk hS0 hL)⟩
  · show κm 91 0 = 0
    rw [hL.1 91 (by decide) (by decide) (by decide) (by decide) (by decide), hm0, up2_self]
  · rw [hL.1 98 (by decide) (by decide) (by decide) (by decide) (by decide), hm0, up2_row (by decide), hm1, up2_self]
theorem oC_form : ∀ x, x < 165 → (oC x = 0 ∧ fC x = 6) ∨ (4 ≤ oC x ∧ oC x - 4 < 3 ∧ fC x < 3) ∨ (7 ≤ oC x ∧ oC x - 7 < 6 ∧ fC x < 6) ∨ (13 ≤ oC x ∧ (oC x - 13) / 2 < 16 ∧ (oC x - 13) % 2 = 0 ∧ 1 ≤ fC x ∧ fC x < 6) ∨ (13 ≤ oC x ∧ (oC x - 13) / 2 < 16 ∧ (oC x - 13) % 2 = 1 ∧ fC x < 4) := by decide +kernel
/-- the second kitchen, filled from the first -/
theorem sim_copy {nf ns nr : Nat} {κ m : Kp} (hR : RX 1 κ m) (hB : Bs 1 nf ns nr κ m) (hz : ∀ f, f < 3 → κ (1 + 4 + f) 2 = 0) : RX 46 (f_X1_copyFrom κ 46 1) m ∧ Bs 46 nf ns nr (f_X1_copyFrom κ 46 1) m ∧ (∀ f, f < 3 → f_X1_copyFrom κ 46 1 (46 + 4 + f) 2 = 0) := by
  obtain ⟨h0, h1, h2, h3⟩ := copy1_spec (k := 46) (q := 1) (by decide) κ
  have hnr := hB.2.2.1.2.2
  generalize f_X1_copyFrom κ 46 1 = κa at h0 h1 h2 h3
  refine ⟨fun x hx => ?_, ⟨⟨?_, ?_, ?_⟩, hB.2.1, hB.2.2.1, fun i hi => ?_, hB.2.2.2.2.1, fun i hi => ?_⟩, fun f hf => ?_⟩
  · have hx1 := hR x hx
    rw [← hx1]
    rcases oC_form x hx with ⟨a, b⟩ | ⟨a, b, c⟩ | ⟨a, b, c⟩ | ⟨a, b, c, d, e⟩ | ⟨a, b, c, d⟩
    · rw [a, b]; exact h0 6 (by decide) (by decide)
    · have := h1 (oC x - 4) b (fC x) c
      rw [show 46 + 4 + (oC x - 4) = 46 + oC x by omega, show 1 + 4 + (oC x - 4) = 1 + oC x by omega] at this
      exact this
    · have := h2 (oC x - 7) b (fC x) c
      rw [show 46 + 7 + (oC x - 7) = 46 + oC x by omega, show 1 + 7 + (oC x - 7) = 1 + oC x by omega] at this
      exact this
    · have := (h3 ((oC x - 13) / 2) b).1 (fC x) d e
      rw [show 46 + 13 + 2 * ((oC x - 13) / 2) = 46 + oC x by omega, show 1 + 13 + 2 * ((oC x - 13) / 2) = 1 + oC x by omega] at this
      exact this
    · have := (h3 ((oC x - 13) / 2) b).2 (fC x) d
      rw [show 46 + 13 + 2 * ((oC x - 13) / 2) + 1 = 46 + oC x by omega, show 1 + 13 + 2 * ((oC x - 13) / 2) + 1 = 1 + oC x by omega] at this
      exact this
  · rw [h0 3 (by decide) (by decide)]; exact hB.1.1
  · rw [h0 4 (by decide) (by decide)]; exact hB.1.2.1
  · rw [h0 5 (by decide) (by decide)]; exact hB.1.2.2
  · rw [h2 i hi 0 (by decide)]; exact hB.2.2.2.1 i hi
  · rw [(h3 i (by omega)).1 1 (by decide) (by decide)]; exact hB.2.2.2.2.2 i hi
  · rw [h1 f hf 2 (by decide)]; exact hz f hf
theorem J_self {k nf ns nr : Nat} {μ : Nat → Int32} {κ m : Kp} (hR : RX k κ m) (hG : Gs nf ns nr μ m) : J k nf ns nr κ m κ m := by
  refine ⟨hR, fun x hx => ?_, fun _ _ _ => rfl, FrK.rfl, fun _ _ _ _ => rfl⟩
  obtain ⟨a, b, c, d, e⟩ := hG x hx
  exact ⟨a, b, c, d, fun i hi w hw ex => ⟨(e i hi w hw ex).1, (e i hi w hw ex).2.1, (e i hi w hw ex).2.2.1, fun q => ⟨((e i hi w hw ex).2.2.2 q).1, Int.le_refl _⟩⟩⟩
theorem ahead_fst {κ : Kp} {a : Int32} {p : Nat} (h : f_X1_roastAt κ 46 a = some p) : (f_X4_aheadUntilDone κ a).1 = ansD p (lp_X4_aheadUntilDone a p 200 0 κ) := by
  unfold f_X4_aheadUntilDone ansD
  rw [h]
  dsimp only
  cases lp_X4_aheadUntilDone a p 200 0 κ with
  | inl w => rfl
  | inr κ2 =>
    dsimp only
    split <;> rfl
theorem ahead_none {κ : Kp} {a : Int32} (h : f_X1_roastAt κ 46 a = none) : f_X4_aheadUntilDone κ a = (-1, κ) := by
  unfold f_X4_aheadUntilDone
  rw [h]
theorem aheadB_fst {κ : Kp} {a : Int32} {p : Nat} (h : f_X1_roastAt κ 46 a = some p) : (f_X4_aheadUntilBurnt κ a).1 = ansB p (lp_X4_aheadUntilBurnt a p 200 0 κ) := by
  unfold f_X4_aheadUntilBurnt ansB
  rw [h]
  dsimp only
  cases lp_X4_aheadUntilBurnt a p 200 0 κ with
  | inl w => rfl
  | inr κ2 =>
    dsimp only
    split <;> rfl
theorem until_fst {κ : Kp} {a b : Int32} : (f_X5_until κ a b).1 = ansM (lp_X5_until a b 201 0 κ) := by
  unfold f_X5_until ansM
  dsimp only
  split <;> rfl
/-- the reference's look: kept, and brought back -/
theorem keep_row {m : Kp} {q : Nat} (h : ¬ q = 97) : f_X5_keep m q = m q := cp_row h
theorem keep_97 {m : Kp} {j : Nat} (h : j < 165) : f_X5_keep m 97 j = m 96 j := cp_at h
theorem look_Lk {m κm : Kp} {a b r : Int32} (hM : MI m) (e : f_X5_until (f_X5_keep m) a b = (r, κm)) : Lk m κm := by
  obtain ⟨f1, f2⟩ := until_spec e (MI_keep hM)
  refine ⟨fun q h1 h2 h3 h4 h5 => (f1 q h2 h3 h4).trans (keep_row h5), fun i nr _ _ _ => ?_, fun j hj => (f2 j hj).trans (keep_97 hj)⟩
  rw [f1 93 (by decide) (by decide) (by decide), keep_row (by decide)]
theorem sim_op_minutesUntilDone (a : Int32) : SimOp SS (fun κ => f_L_minutesUntilDone κ a) (fun κ => f_X5_minutesUntilDone κ a) := by
  intro t κ ht hS k κ1 e
  obtain ⟨nf, ns, nr, a0, b0, c0, d0, e0, f0, g0⟩ := id hS
  obtain ⟨hnf, hns, hnr⟩ := b0.2.2.1
  rcases roast_cases a b0.1.2.2 d0.1 hnr with ⟨i, hi, rfl, hn, hf⟩ | ⟨hn, hf⟩
  · obtain ⟨hRa, hBa, hza⟩ := sim_copy a0.1 b0 c0
    have hFa : FrK 46 κ (f_X1_copyFrom κ 46 1) := FrK_copy1 FrK.rfl
    generalize hκa : f_X1_copyFrom κ 46 1 = κa at hRa hBa hza hFa
    have hrA := roastAt_N hBa.1.2.2 hi hnr
    have hfst := ahead_fst hrA
    have hFc := FrK_until (a := nI i) hFa
    obtain ⟨r1, κc, hrc⟩ : ∃ r1 κc, f_X4_aheadUntilDone κa (nI i) = (r1, κc) := ⟨_, _, rfl⟩
    rw [hrc] at hfst hFc
    refine op_l (κc := κc) (v := r1) (fL := fun κ => f_L_minutesUntilDone κ (nI i)) (fX := fun κ => f_X5_minutesUntilDone κ (nI i)) hS hFc ?_ ?_ e
    · show f_L_minutesUntilDone κ (nI i) = _
      unfold f_L_minutesUntilDone f_X4_minutesUntilDone
      rw [hn]
      dsimp only
      rw [hκa, hrc]
    · intro m1 m0 hm0 r0 hS0
      have s92 : m0 92 = κ 92 := by rw [hm0, up2_row (by decide)]; exact r0 92 (by decide) (by omega)
      have s93 : m0 93 = κ 93 := by rw [hm0, up2_row (by decide)]; exact r0 93 (by decide) (by omega)
      have s96 : m0 96 = κ 96 := by rw [hm0, up2_row (by decide)]; exact r0 96 (by decide) (by omega)
      have s91 : ∀ j, 0 < j → m0 91 j = κ 91 j := fun j hj => by rw [hm0, up2_ne _ _ (Or.inr (by omega)), r0 91 (by decide) (by omega)]
      have k96 : f_X5_keep m0 96 = κ 96 := (keep_row (by decide)).trans s96
      have hBk : Bs 46 nf ns nr κa (f_X5_keep m0) := Bs_m hBa (by rw [keep_row (by decide)]; exact s91 1 (by decide)) (by rw [keep_row (by decide)]; exact s91 2 (by decide)) ((keep_row (by decide)).trans s92) ((keep_row (by decide)).trans s93)
      have hJk : J 46 nf ns nr κa (f_X5_keep m0) κa (f_X5_keep m0) := J_self (RX_row hRa k96) (Gs_row a0.2 k96)
      have hu := sim_until hBk hi (nI i) 200 0 κa (f_X5_keep m0) rfl hJk hza
      rw [← hfst, ← until_fst] at hu
      obtain ⟨r2, κm, hum⟩ : ∃ r2 κm, f_X5_until (f_X5_keep m0) (nI i) 0 = (r2, κm) := ⟨_, _, rfl⟩
      have hL := look_Lk (SS_MI hS0) hum
      rw [hum] at hu
      refine ⟨κm, ?_, hL⟩
      show f_X5_minutesUntilDone m1 (nI i) = _
      unfold f_X5_minutesUntilDone
      rw [← hm0]
      dsimp only
      rw [isRoast_of hf (s91 3 (by decide)), if_neg bi_t, hum]
      dsimp only at hu ⊢
      rw [hu]
  · refine op_th (n := 1) (r0 := 0) (fL := fun κ => f_L_minutesUntilDone κ a) (fX := fun κ => f_X5_minutesUntilDone κ a) hS (by decide) ?_ ?_ th2 e
    · show f_L_minutesUntilDone κ a = _
      unfold f_L_minutesUntilDone f_X4_minutesUntilDone
      rw [hn]
    · show f_X5_minutesUntilDone κ a = _
      unfold f_X5_minutesUntilDone
      dsimp only
      have hf2 : f_X5_isRoast (up2 κ 91 0 0) a = false := hf
      rw [hf2, if_pos bi_f]
      rfl
theorem sim_op_minutesUntilBurnt (a : Int32) : SimOp SS (fun κ => f_L_minutesUntilBurnt κ a) (fun κ => f_X5_minutesUntilBurnt κ a) := by
  intro t κ ht hS k κ1 e
  obtain ⟨nf, ns, nr, a0, b0, c0, d0, e0, f0, g0⟩ := id hS
  obtain ⟨hnf, hns, hnr⟩ := b0.2.2.1
  rcases roast_cases a b0.1.2.2 d0.1 hnr with ⟨i, hi, rfl, hn, hf⟩ | ⟨hn, hf⟩
  · obtain ⟨hRa, hBa, hza⟩ := sim_copy a0.1 b0 c0
    have hFa : FrK 46 κ (f_X1_copyFrom κ 46 1) := FrK_copy1 FrK.rfl
    generalize hκa : f_X1_copyFrom κ 46 1 = κa at hRa hBa hza hFa
    have hrA := roastAt_N hBa.1.2.2 hi hnr
    have hfst := aheadB_fst hrA
    have hFc := FrK_untilB (a := nI i) hFa
    obtain ⟨r1, κc, hrc⟩ : ∃ r1 κc, f_X4_aheadUntilBurnt κa (nI i) = (r1, κc) := ⟨_, _, rfl⟩
    rw [hrc] at hfst hFc
    refine op_l (κc := κc) (v := r1) (fL := fun κ => f_L_minutesUntilBurnt κ (nI i)) (fX := fun κ => f_X5_minutesUntilBurnt κ (nI i)) hS hFc ?_ ?_ e
    · show f_L_minutesUntilBurnt κ (nI i) = _
      unfold f_L_minutesUntilBurnt f_X4_minutesUntilBurnt
      rw [hn]
      dsimp only
      rw [hκa, hrc]
    · intro m1 m0 hm0 r0 hS0
      have s92 : m0 92 = κ 92 := by rw [hm0, up2_row (by decide)]; exact r0 92 (by decide) (by omega)
      have s93 : m0 93 = κ 93 := by rw [hm0, up2_row (by decide)]; exact r0 93 (by decide) (by omega)
      have s96 : m0 96 = κ 96 := by rw [hm0, up2_row (by decide)]; exact r0 96 (by decide) (by omega)
      have s91 : ∀ j, 0 < j → m0 91 j = κ 91 j := fun j hj => by rw [hm0, up2_ne _ _ (Or.inr (by omega)), r0 91 (by decide) (by omega)]
      have k96 : f_X5_keep m0 96 = κ 96 := (keep_row (by decide)).trans s96
      have hBk : Bs 46 nf ns nr κa (f_X5_keep m0) := Bs_m hBa (by rw [keep_row (by decide)]; exact s91 1 (by decide)) (by rw [keep_row (by decide)]; exact s91 2 (by decide)) ((keep_row (by decide)).trans s92) ((keep_row (by decide)).trans s93)
      have hJk : J 46 nf ns nr κa (f_X5_keep m0) κa (f_X5_keep m0) := J_self (RX_row hRa k96) (Gs_row a0.2 k96)
      have hu := sim_untilB hBk hi (nI i) 200 0 κa (f_X5_keep m0) rfl hJk hza
      rw [← hfst, ← until_fst] at hu
      obtain ⟨r2, κm, hum⟩ : ∃ r2 κm, f_X5_until (f_X5_keep m0) (nI i) 1 = (r2, κm) := ⟨_, _, rfl⟩
      have hL := look_Lk (SS_MI hS0) hum
      rw [hum] at hu
      refine ⟨κm, ?_, hL⟩
      show f_X5_minutesUntilBurnt m1 (nI i) = _
      unfold f_X5_minutesUntilBurnt
      rw [← hm0]
      dsimp only
      rw [isRoast_of hf (s91 3 (by decide)), if_neg bi_t, hum]
      dsimp only at hu ⊢
      rw [hu]
  · refine op_th (n := 1) (r0 := 0) (fL := fun κ => f_L_minutesUntilBurnt κ a) (fX := fun κ => f_X5_minutesUntilBurnt κ a) hS (by decide) ?_ ?_ th2 e
    · show f_L_minutesUntilBurnt κ a = _
      unfold f_L_minutesUntilBurnt f_X4_minutesUntilBurnt
      rw [hn]
    · show f_X5_minutesUntilBurnt κ a = _
      unfold f_X5_minutesUntilBurnt
      dsimp only
      have hf2 : f_X5_isRoast (up2 κ 91 0 0) a = false := hf
      rw [hf2, if_pos bi_f]
      rfl
