theorem fireAt_N {κ : Kp} {k f nf : Nat} (h : κ k 3 = nI nf) (hf : f < nf) (hnf : nf ≤ 3) : f_X1_fireAt κ k (nI f) = some (k + 4 + f) := by
  unfold f_X1_fireAt
  have c3 : ¬ (3 : Int32) ≤ nI f := fun q => by
    have := (nIle (a := 3) (b := f) (by decide) (by omega)).mp q
    omega
  rw [if_neg (nI0 (by omega)), h, if_neg (by rw [nIle (by omega) (by omega)]; omega), if_neg c3, nI_clamp (by omega)]
theorem roastAt_N {κ : Kp} {k r nr : Nat} (h : κ k 5 = nI nr) (hr : r < nr) (hnr : nr ≤ 16) : f_X1_roastAt κ k (nI r) = some (k + 13 + 2 * r) := by
  unfold f_X1_roastAt
  have c3 : ¬ (16 : Int32) ≤ nI r := fun q => by
    have := (nIle (a := 16) (b := r) (by decide) (by omega)).mp q
    omega
  rw [if_neg (nI0 (by omega)), h, if_neg (by rw [nIle (by omega) (by omega)]; omega), if_neg c3, nI_clamp (by omega)]
/-- the flares of the first n fires, together -/
def sF (κ : Kp) : Nat → Int32
  | 0 => 0
  | n + 1 => sF κ n + κ 95 n
theorem sF_row {κ κ' : Kp} (h : κ' 95 = κ 95) (n : Nat) : sF κ' n = sF κ n := by
  induction n with
  | zero => rfl
  | succ n ih => show sF κ' n + κ' 95 n = sF κ n + κ 95 n; rw [ih, h]
theorem sF_up0 {κ : Kp} {f : Nat} {v : Int32} (n : Nat) (h : n ≤ f) : sF (up2 κ 95 f v) n = sF κ n := by
  induction n with
  | zero => rfl
  | succ n ih =>
    show sF (up2 κ 95 f v) n + (up2 κ 95 f v) 95 n = sF κ n + κ 95 n
    rw [ih (by omega), up2_ne κ v (Or.inr (by omega))]
theorem sF_up {κ : Kp} {f : Nat} (n : Nat) (h : f < n) : sF (up2 κ 95 f (κ 95 f + 1)) n = sF κ n + 1 := by
  induction n with
  | zero => omega
  | succ n ih =>
    show sF (up2 κ 95 f (κ 95 f + 1)) n + (up2 κ 95 f (κ 95 f + 1)) 95 n = sF κ n + κ 95 n + 1
    by_cases e : f = n
    · subst e
      rw [sF_up0 f (Nat.le_refl _), up2_self, Int32.add_assoc]
    · rw [ih (by omega), up2_ne κ _ (Or.inr (by omega)), Int32.add_assoc, Int32.add_comm 1, ← Int32.add_assoc]
/-- in a minute: besides, the flares as they are so far -/
def JF (k nf ns nr : Nat) (κ0 m0 κc κm : Kp) (v : Int32) : Prop := J k nf ns nr κ0 m0 κc κm ∧ (∀ f, f < nf → κc (k + 4 + f) 2 = κm 95 f) ∧ (∀ f, nf ≤ f → f < 3 → κc (k + 4 + f) 2 = 0) ∧ v = sF κm nf
/-- what the start of a minute gives -/
def Bs (k nf ns nr : Nat) (κ0 m0 : Kp) : Prop := (κ0 k 3 = nI nf ∧ κ0 k 4 = nI ns ∧ κ0 k 5 = nI nr) ∧ (m0 91 1 = nI nf ∧ m0 91 2 = nI ns) ∧ (nf ≤ 3 ∧ ns ≤ 6 ∧ nr ≤ 16) ∧ (∀ i, i < 6 → κ0 (k + 7 + i) 0 = m0 92 i) ∧ (∀ i, i < ns → ∃ f, f < nf ∧ m0 92 i = nI f) ∧ (∀ i, i < nr → κ0 (k + 13 + 2 * i) 1 = m0 93 i)
section SIMS
variable {k nf ns nr : Nat} {κ0 m0 κc κm : Kp} {v : Int32}
theorem J_cnt (hB : Bs k nf ns nr κ0 m0) (h : J k nf ns nr κ0 m0 κc κm) : κc k 3 = nI nf ∧ κc k 4 = nI ns ∧ κc k 5 = nI nr := by
  have h3 := h.2.2.1 0 3 rfl
  have h4 := h.2.2.1 0 4 rfl
  have h5 := h.2.2.1 0 5 rfl
  exact ⟨h3.trans hB.1.1, h4.trans hB.1.2.1, h5.trans hB.1.2.2⟩
theorem stc_spit : ∀ i, i < 6 → stc (7 + i) 0 = true := by decide
theorem J_place (hB : Bs k nf ns nr κ0 m0) (h : J k nf ns nr κ0 m0 κc κm) {j : Nat} (hj : j < ns) : ∃ f, f < nf ∧ κc (k + 7 + j) 0 = nI f ∧ κm 92 j = nI f := by
  have hns := hB.2.2.1.2.1
  obtain ⟨f, hf, e⟩ := hB.2.2.2.2.1 j hj
  have h1 := h.2.2.1 (7 + j) 0 (stc_spit j (by omega))
  rw [show k + (7 + j) = k + 7 + j by omega] at h1
  refine ⟨f, hf, ?_, ?_⟩
  · rw [h1, hB.2.2.2.1 j (by omega), e]
  · rw [h.2.2.2.2 92 (by decide) (by decide) (by decide), e]
theorem sim_glowOf (hB : Bs k nf ns nr κ0 m0) (h : J k nf ns nr κ0 m0 κc κm) {j : Nat} (hj : j < ns) : ∃ gl : Nat, gl ≤ 9 ∧ f_X1_glowOf κc k (k + 7 + j) = nI gl ∧ f_X5_glow κm (nI j) = nI gl := by
  obtain ⟨f, hf, e1, e2⟩ := J_place hB h hj
  have hnf := hB.2.2.1.1
  have hns := hB.2.2.1.2.1
  obtain ⟨w, hw1, hw3, ew⟩ := (h.2.1 (7 + 5 * j) (by omega)).2.2.1 j (by omega) rfl hj
  obtain ⟨t, ht, et⟩ := vp_in_of ((h.2.1 (1 + 2 * f + 1) (by omega)).2.1 f (by omega) rfl).1 (by decide)
  have c1 : κc (k + 7 + j) 1 = nI w := (RX_spit h.1 (by omega)).1.trans ew
  have c2 : κc (k + 4 + f) 1 = nI t := (RX_fire h.1 (by omega) (j := 1) (by decide)).trans et
  have ed : (nI t / nI w : Int32) = nI (t / w) := pk_div (by omega) (by omega) (by omega)
  have hle : t / w ≤ t := Nat.div_le_self t w
  refine ⟨t / w, by omega, ?_, ?_⟩
  · unfold f_X1_glowOf
    rw [e1, fireAt_N (J_cnt hB h).1 hf hnf]
    dsimp only
    have cp : (0 : Int32) < nI w := (nIlt (a := 0) (b := w) (by decide) (by omega)).mpr (by omega)
    rw [c1, c2, if_pos cp, ed]
  · unfold f_X5_glow
    rw [nI_clamp (by omega), e2, show f_X5_fi κm (nI f) 1 = κm 96 (1 + 2 * f + 1) from fi_N (w := 1) (by omega) (by decide), show f_X5_sp κm (nI j) 0 = κm 96 (7 + 5 * j) from sp_N (w := 0) (by omega) (by decide), et, ew, ed]
theorem JF_of {κc' κm' : Kp} (h : JF k nf ns nr κ0 m0 κc κm v) (hJ : J k nf ns nr κ0 m0 κc' κm') (hc : ∀ f, f < 3 → κc' (k + 4 + f) = κc (k + 4 + f)) (hm : κm' 95 = κm 95) (hnf : nf ≤ 3) : JF k nf ns nr κ0 m0 κc' κm' v :=
  ⟨hJ, fun f hf => by rw [hc f (by omega), hm]; exact h.2.1 f hf, fun f h1 h2 => by rw [hc f h2]; exact h.2.2.1 f h1 h2, by rw [sF_row hm]; exact h.2.2.2⟩
def cT (κ : Kp) (q p : Nat) : Kp := match f_X3_countsToTurn κ q with | (r3, κ4) => if r3 = 0 then κ4 else f_X2_turn κ4 p
def mT (κ : Kp) (j : Nat) (r : Int32) : Kp := if f_X5_sp (f_X5_letSpit κ (nI j) 3 (f_X5_sp κ (nI j) 3 + 1)) (nI j) 4 ≤ 0 then f_X5_letSpit κ (nI j) 3 (f_X5_sp κ (nI j) 3 + 1) else if f_X5_sp (f_X5_letSpit κ (nI j) 3 (f_X5_sp κ (nI j) 3 + 1)) (nI j) 3 - f_X5_sp (f_X5_letSpit κ (nI j) 3 (f_X5_sp κ (nI j) 3 + 1)) (nI j) 3 / f_X5_sp (f_X5_letSpit κ (nI j) 3 (f_X5_sp κ (nI j) 3 + 1)) (nI j) 4 * f_X5_sp (f_X5_letSpit κ (nI j) 3 (f_X5_sp κ (nI j) 3 + 1)) (nI j) 4 = 0 then f_X5_turn (f_X5_letSpit κ (nI j) 3 (f_X5_sp κ (nI j) 3 + 1)) r else f_X5_letSpit κ (nI j) 3 (f_X5_sp κ (nI j) 3 + 1)
theorem turn_eq {κ : Kp} {i sd : Nat} (hi : i < 16) (hs : sd < 4) (e : κ 96 (37 + 8 * i + 1) = nI sd) : f_X5_turn κ (nI i) = up2 κ 96 (37 + 8 * i + 1) (nI ((sd + 1) % 4)) := by
  have er : f_X5_ro κ (nI i) 1 = nI sd := (ro_N (w := 1) hi (by decide)).trans e
  have e1 : (nI sd + 1 : Int32) = nI (sd + 1) := by rw [← nI_add]; rfl
  have e2 : (nI (sd + 1) - nI (sd + 1) / 4 * 4 : Int32) = nI ((sd + 1) % 4) := pk_rem (a := sd + 1) (d := 4) (by omega) (by decide) (by decide)
  unfold f_X5_turn
  dsimp only
  rw [er, e1, e2]
  exact let_N (w := 1) hi (by decide)
theorem sim_turn {i : Nat} (h : J k nf ns nr κ0 m0 κc κm) (hi : i < nr) (hnr : nr ≤ 16) : J k nf ns nr κ0 m0 (f_X2_turn κc (k + 13 + 2 * i)) (f_X5_turn κm (nI i)) := by
  obtain ⟨sd, hsd, es, ec⟩ := J_sd h (i := i) (by omega)
  rw [turn_eq (by omega) hsd es]
  unfold f_X2_turn
  dsimp only
  rw [ec, (next_N sd hsd).1]
  exact J_roast (w := 1) h (by omega) (by decide) (by decide) (Gx_roast (by omega) (by decide) (fun q => by omega) (fun _ => vp_in_nI (Nat.mod_lt _ (by decide)) (by decide)) (fun q => by omega) (fun q => by omega))
theorem sim_T {i j : Nat} (h : JF k nf ns nr κ0 m0 κc κm v) (hi : i < nr) (hnr : nr ≤ 16) (hj : j < 6) (hnf : nf ≤ 3) : JF k nf ns nr κ0 m0 (cT κc (k + 7 + j) (k + 13 + 2 * i)) (mT κm j (nI i)) v := by
  unfold cT mT f_X3_countsToTurn
  have ec : κc (k + 7 + j) 3 = κm 96 (7 + 5 * j + 3) := (RX_spit h.1.1 hj).2.2.2.1
  have e3 : f_X5_sp κm (nI j) 3 = κm 96 (7 + 5 * j + 3) := sp_N (w := 3) hj (by decide)
  rw [e3, show f_X5_letSpit κm (nI j) 3 (κm 96 (7 + 5 * j + 3) + 1) = up2 κm 96 (7 + 5 * j + 3) (κm 96 (7 + 5 * j + 3) + 1) from letSpit_N (w := 3) hj (by decide), ec]
  have hJ : J k nf ns nr κ0 m0 (up2 κc (k + 7 + j) 3 (κm 96 (7 + 5 * j + 3) + 1)) (up2 κm 96 (7 + 5 * j + 3) (κm 96 (7 + 5 * j + 3) + 1)) := J_count h.1 hj
  have hF : JF k nf ns nr κ0 m0 (up2 κc (k + 7 + j) 3 (κm 96 (7 + 5 * j + 3) + 1)) (up2 κm 96 (7 + 5 * j + 3) (κm 96 (7 + 5 * j + 3) + 1)) v := JF_of h hJ (fun f hf => up2_row (by omega)) (up2_row (by decide)) hnf
  generalize up2 κc (k + 7 + j) 3 (κm 96 (7 + 5 * j + 3) + 1) = κ1 at hJ hF
  generalize up2 κm 96 (7 + 5 * j + 3) (κm 96 (7 + 5 * j + 3) + 1) = κ2 at hJ hF
  dsimp only
  have g2 : κ1 (k + 7 + j) 2 = κ2 96 (7 + 5 * j + 4) := (RX_spit hJ.1 hj).2.2.2.2
  have g3 : κ1 (k + 7 + j) 3 = κ2 96 (7 + 5 * j + 3) := (RX_spit hJ.1 hj).2.2.2.1
  have s4 : f_X5_sp κ2 (nI j) 4 = κ2 96 (7 + 5 * j + 4) := sp_N (w := 4) hj (by decide)
  have s3 : f_X5_sp κ2 (nI j) 3 = κ2 96 (7 + 5 * j + 3) := sp_N (w := 3) hj (by decide)
  rw [g2, g3, s4, s3]
  by_cases c1 : κ2 96 (7 + 5 * j + 4) ≤ 0
  · rw [if_pos c1, if_pos c1]
    exact hF
  · rw [if_neg c1, if_neg c1]
    by_cases c2 : κ2 96 (7 + 5 * j + 3) - κ2 96 (7 + 5 * j + 3) / κ2 96 (7 + 5 * j + 4) * κ2 96 (7 + 5 * j + 4) = 0
    · rw [if_pos c2, if_pos c2]
      dsimp only
      rw [if_neg (show ¬ bi true = 0 by decide)]
      exact JF_of hF (sim_turn hJ hi hnr) (fun f hf => up2_row (by omega)) (show f_X5_let κ2 (nI i) 1 _ 95 = κ2 95 from let_row (by decide)) hnf
    · rw [if_neg c2, if_neg c2]
      exact hF
end SIMS
