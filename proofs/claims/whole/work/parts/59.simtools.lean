theorem nIAE_ne : ¬ nIAE = nIOE := by decide +kernel
theorem nISE_ne : ¬ nISE = nIOE := by decide +kernel
theorem nISE_ne2 : ¬ nISE = nIAE := by decide +kernel
theorem nIOE_eq : nIOE = nIOE := rfl
theorem nIAE_eq : nIAE = nIAE := rfl
theorem th2 {κ : Kp} {n : Int32} : (∀ q, ¬ q = 91 → (up2 (up2 κ 91 0 0) 91 0 n) q = κ q) ∧ (∀ j, 0 < j → (up2 (up2 κ 91 0 0) 91 0 n) 91 j = κ 91 j) ∧ (up2 (up2 κ 91 0 0) 91 0 n) 91 0 = n :=
  ⟨fun q hq => by rw [up2_row hq, up2_row hq], fun j hj => by rw [up2_ne _ _ (Or.inr (by omega)), up2_ne _ _ (Or.inr (by omega))], up2_self _ _ _ _⟩
theorem th1 {κ : Kp} {n : Int32} : (∀ q, ¬ q = 91 → (up2 κ 91 0 n) q = κ q) ∧ (∀ j, 0 < j → (up2 κ 91 0 n) 91 j = κ 91 j) ∧ (up2 κ 91 0 n) 91 0 = n :=
  ⟨fun q hq => by rw [up2_row hq], fun j hj => by rw [up2_ne _ _ (Or.inr (by omega))], up2_self _ _ _ _⟩
/-- a call that throws: the thrown number alone moves -/
theorem op_th {t : Nat} {κ κ1 κ3 : Kp} {k r0 n : Int32} {fL fX : Kp → Int32 × Kp} (hS : SS t κ) (hn : ¬ n = 0) (eL : fL κ = (n, κ)) (eX : fX κ = (r0, κ3)) (h3 : (∀ q, ¬ q = 91 → κ3 q = κ q) ∧ (∀ j, 0 < j → κ3 91 j = κ 91 j) ∧ κ3 91 0 = n) (e : fL κ = (k, κ1)) : MI κ1 ∧ ∀ r κ2, fX κ1 = (r, κ2) → f_X5_thrown κ2 = k ∧ (k = 0 → κ2 98 0 = r) ∧ SS (t + 1) κ2 := by
  rw [eL] at e
  cases e
  refine ⟨SS_MI hS, fun r κ2 e2 => ?_⟩
  rw [eX] at e2
  cases e2
  exact ⟨h3.2.2, fun q => absurd q hn, SS_of (SS_mono hS) (fun q hq => h3.1 q (by omega)) (h3.1 92 (by decide)) (h3.1 93 (by decide)) (h3.1 96 (by decide)) h3.2.1⟩
/-- a call that changes the kitchen, but no count -/
theorem op_ch {t : Nat} {κ κ1 κc : Kp} {k v : Int32} {fL fX : Kp → Int32 × Kp} {nf ns nr : Nat} (hS : SS t κ) (a : RX 1 κ κ ∧ Gs nf ns nr (κ 96) κ) (b : Bs 1 nf ns nr κ κ) (d : κ 91 3 = nI nr ∧ κ 1 7 = κ 91 4) (e0 : 0 ≤ (κ 91 4).toInt ∧ (κ 91 4).toInt ≤ 5000) (g : ∀ i, i < 6 → vp_in (κ 92 i) 3)
    (hfr : FrK 1 κ κc) (eL : fL κ = (0, up2 κc 98 0 v))
    (key : ∀ m1 m0 : Kp, m1 = up2 κc 98 0 v → m0 = up2 m1 91 0 0 → (∀ q, ¬ q = 98 → ¬ q = 91 → 46 ≤ q → m0 q = κ q) → (∀ j, 0 < j → m0 91 j = κ 91 j) → Bs 1 nf ns nr κ m0 → J 1 nf ns nr κ m0 κ m0 → ∃ κm, fX m1 = (v, κm) ∧ J 1 nf ns nr κ m0 κc κm ∧ (∀ f, f < 3 → κc (1 + 4 + f) 2 = 0) ∧ 0 ≤ (κm 96 0).toInt ∧ (κm 96 0).toInt ≤ 200 * (t + 1))
    (e : fL κ = (k, κ1)) : MI κ1 ∧ ∀ r κ2, fX κ1 = (r, κ2) → f_X5_thrown κ2 = k ∧ (k = 0 → κ2 98 0 = r) ∧ SS (t + 1) κ2 := by
  rw [eL] at e
  cases e
  have hM0 : ∀ q, 46 ≤ q → κc q = κ q := fun q hq => hfr q (by omega)
  refine ⟨MIr_of (SS_MI hS) (by rw [up2_row (by decide)]; exact hM0 91 (by decide)) (by rw [up2_row (by decide)]; exact hM0 92 (by decide)) (fun j hj => by rw [up2_row (by decide), hM0 96 (by decide)]), fun r κ2 e2 => ?_⟩
  obtain ⟨m1, hm1⟩ : ∃ m1, m1 = up2 κc 98 0 v := ⟨_, rfl⟩
  obtain ⟨m0, hm0⟩ : ∃ m0, m0 = up2 m1 91 0 0 := ⟨_, rfl⟩
  have r0 : ∀ q, ¬ q = 98 → ¬ q = 91 → m0 q = κc q := fun q h1 h2 => by rw [hm0, up2_row h2, hm1, up2_row h1]
  have r1 : ∀ q, ¬ q = 98 → ¬ q = 91 → 46 ≤ q → m0 q = κ q := fun q h1 h2 h3 => (r0 q h1 h2).trans (hM0 q h3)
  have r2 : ∀ j, 0 < j → m0 91 j = κ 91 j := fun j hj => by rw [hm0, up2_ne m1 0 (Or.inr (by omega)), hm1, up2_row (by decide), hM0 91 (by decide)]
  have hB : Bs 1 nf ns nr κ m0 := by
    refine ⟨b.1, ⟨by rw [r2 1 (by decide)]; exact b.2.1.1, by rw [r2 2 (by decide)]; exact b.2.1.2⟩, b.2.2.1, fun i hi => ?_, fun i hi => ?_, fun i hi => ?_⟩
    · rw [r1 92 (by decide) (by decide) (by decide)]; exact b.2.2.2.1 i hi
    · rw [r1 92 (by decide) (by decide) (by decide)]; exact b.2.2.2.2.1 i hi
    · rw [r1 93 (by decide) (by decide) (by decide)]; exact b.2.2.2.2.2 i hi
  have e96 := r1 96 (by decide) (by decide) (by decide)
  have hJ : J 1 nf ns nr κ m0 κ m0 := ⟨fun x hx => by rw [e96]; exact a.1 x hx, fun x hx => by rw [e96]; exact a.2 x hx, fun _ _ _ => rfl, FrK.rfl, fun _ _ _ _ => rfl⟩
  obtain ⟨κm, eX, hJ2, hz, ht0, ht1⟩ := key m1 m0 hm1 hm0 r1 r2 hB hJ
  rw [← hm1, eX] at e2
  obtain ⟨rfl, rfl⟩ := Prod.mk.inj e2
  have rm : ∀ q, ¬ q = 94 → ¬ q = 95 → ¬ q = 96 → κm q = m0 q := fun q h1 h2 h3 => hJ2.2.2.2.2 q h1 h2 h3
  have rl : ∀ q, q < 46 → κm q = κc q := fun q hq => (rm q (by omega) (by omega) (by omega)).trans (r0 q (by omega) (by omega))
  have hB2 := Bs_base hB hJ2
  have hG := (J_base hJ2).2.1
  have hnr := hB.2.2.1.2.2
  refine ⟨?_, fun _ => ?_, nf, ns, nr, ⟨fun x hx => ?_, hG⟩, ⟨⟨?_, ?_, ?_⟩, hB2.2.1, hB2.2.2.1, fun i hi => ?_, hB2.2.2.2.2.1, fun i hi => ?_⟩, fun f hf => ?_, ⟨?_, ?_⟩, ?_, ⟨ht0, by omega⟩, fun i hi => ?_⟩
  · show κm 91 0 = 0
    rw [rm 91 (by decide) (by decide) (by decide), hm0, up2_self]
  · rw [rm 98 (by decide) (by decide) (by decide), hm0, up2_row (by decide), hm1, up2_self]
  · have := oC_lt x hx
    rw [rl (1 + oC x) (by omega)]; exact hJ2.1 x hx
  · rw [rl 1 (by decide)]; exact hB2.1.1
  · rw [rl 1 (by decide)]; exact hB2.1.2.1
  · rw [rl 1 (by decide)]; exact hB2.1.2.2
  · rw [rl (1 + 7 + i) (by omega)]; exact hB2.2.2.2.1 i hi
  · rw [rl (1 + 13 + 2 * i) (by omega)]; exact hB2.2.2.2.2.2 i hi
  · rw [rl (1 + 4 + f) (by omega)]; exact hz f hf
  · rw [rm 91 (by decide) (by decide) (by decide), r2 3 (by decide)]; exact d.1
  · rw [rl 1 (by decide), rm 91 (by decide) (by decide) (by decide), r2 4 (by decide)]
    exact (hJ2.2.2.1 0 7 rfl).trans d.2
  · rw [rm 91 (by decide) (by decide) (by decide), r2 4 (by decide)]; exact e0
  · rw [rm 92 (by decide) (by decide) (by decide), r1 92 (by decide) (by decide) (by decide)]; exact g i hi
theorem isIn_t {a lo hi : Int32} (h1 : ¬ a < lo) (h2 : a ≤ hi) : f_X5_isIn a lo hi = true := by
  unfold f_X5_isIn
  rw [if_neg h1, if_neg (by rw [Int32.lt_iff_toInt_lt]; rw [Int32.le_iff_toInt_le] at h2; omega)]
theorem isIn_f1 {a lo hi : Int32} (h1 : a < lo) : f_X5_isIn a lo hi = false := by
  unfold f_X5_isIn
  rw [if_pos h1]
theorem isIn_f2 {a lo hi : Int32} (h2 : ¬ a ≤ hi) : f_X5_isIn a lo hi = false := by
  unfold f_X5_isIn
  have h3 : hi < a := by rw [Int32.lt_iff_toInt_lt]; rw [Int32.le_iff_toInt_le] at h2; omega
  rw [if_pos h3]
  split <;> rfl
theorem up2_comm {κ : Kp} {k1 j1 k2 j2 : Nat} {v1 v2 : Int32} (h : ¬ (k1 = k2 ∧ j1 = j2)) : up2 (up2 κ k1 j1 v1) k2 j2 v2 = up2 (up2 κ k2 j2 v2) k1 j1 v1 := by
  funext q i
  simp only [up2_at]
  by_cases c1 : q = k1 ∧ i = j1
  · by_cases c2 : q = k2 ∧ i = j2
    · exact absurd ⟨c1.1.symm.trans c2.1, c1.2.symm.trans c2.2⟩ h
    · rw [if_neg c2, if_pos c1, if_pos c1]
  · by_cases c2 : q = k2 ∧ i = j2
    · rw [if_pos c2, if_neg c1, if_pos c2]
    · rw [if_neg c2, if_neg c1, if_neg c1, if_neg c2]
theorem isFire_of {κ m : Kp} {a : Int32} {b : Bool} (h : f_X5_isFire κ a = b) (h2 : m 91 1 = κ 91 1) : f_X5_isFire m a = b := by
  unfold f_X5_isFire at h ⊢
  rw [h2]; exact h
theorem isSpit_of {κ m : Kp} {a : Int32} {b : Bool} (h : f_X5_isSpit κ a = b) (h2 : m 91 2 = κ 91 2) : f_X5_isSpit m a = b := by
  unfold f_X5_isSpit at h ⊢
  rw [h2]; exact h
theorem isRoast_of {κ m : Kp} {a : Int32} {b : Bool} (h : f_X5_isRoast κ a = b) (h2 : m 91 3 = κ 91 3) : f_X5_isRoast m a = b := by
  unfold f_X5_isRoast at h ⊢
  rw [h2]; exact h
