section ACTS
variable {nf ns nr : Nat} {κ κ1 m : Kp}
theorem up2_rowc {κ μ : Kp} {k f q : Nat} {v : Int32} (h : κ q = μ q) : up2 κ k f v q = up2 μ k f v q := by
  funext y
  rw [up2_at, up2_at, h]
theorem vp_mono {x : Int32} {a b : Nat} (h : vp_in x a) (hab : a ≤ b) : vp_in x b := fun q => h (q.elim Or.inl (fun z => Or.inr (Nat.le_trans hab z)))
theorem Iv.up {k f : Nat} {v : Int32} (h : Iv nf ns nr κ) (hv : hiT nf ns nr k f ≠ 0 → vp_in v (hiT nf ns nr k f)) (h1 : k ≠ 1 ∨ 5 < f) (h5 : ¬ (8 ≤ k ∧ k < 14 ∧ f = 5)) (h2 : ¬ (14 ≤ k ∧ (f = 1 ∨ f = 2 ∨ f = 4))) (hz : 8 ≤ k ∧ k < 14 ∧ f = 1 → ¬ v = 0) : Iv nf ns nr (up2 κ k f v) := by
  obtain ⟨hb, ⟨c3, c4, c5⟩, hR, hZ, hM⟩ := h
  refine ⟨hb, ⟨?_, ?_, ?_⟩, hR.up hv, ⟨fun i hi => ?_, fun j hj => ?_⟩, hM.of hb.2.1 hb.2.2.1 (fun i hi => up2_ne _ _ (by omega)) (fun j hj => up2_ne _ _ (by omega))⟩
  · rw [up2_ne _ _ (by omega)]; exact c3
  · rw [up2_ne _ _ (by omega)]; exact c4
  · rw [up2_ne _ _ (by omega)]; exact c5
  · by_cases e : 8 + i = k ∧ 1 = f
    · obtain ⟨rfl, rfl⟩ := e
      rw [up2_self]; exact hz ⟨by omega, by omega, rfl⟩
    · rw [up2_at, if_neg e]; exact hZ.1 i hi
  · rw [up2_ne _ _ (by omega), up2_ne _ _ (by omega)]; exact hZ.2 j hj
/-- the law sets a number, the class the same one -/
theorem RR.both {k f q g : Nat} {v : Int32} (h : RR nf ns nr κ) (hc : Cor k f q g) (hk : k < 46) (hq : 91 ≤ q) (hv : hiT nf ns nr k f ≠ 0 → vp_in v (hiT nf ns nr k f)) (h1 : k ≠ 1 ∨ 5 < f) (h5 : ¬ (8 ≤ k ∧ k < 14 ∧ f = 5)) (h2 : ¬ (14 ≤ k ∧ (f = 1 ∨ f = 2 ∨ f = 4))) (hz : 8 ≤ k ∧ k < 14 ∧ f = 1 → ¬ v = 0) : RR nf ns nr (up2 (up2 κ q g v) k f v) :=
  ⟨(h.1.of (κ' := up2 κ q g v) (fun x hx => up2_row (by omega))).up hv h1 h5 h2 hz, h.2.both h.b hc hk hq⟩
theorem up2_swap {k f q g : Nat} {v w : Int32} (h : k ≠ q) : up2 (up2 κ k f v) q g w = up2 (up2 κ q g w) k f v := by
  funext x y
  rw [up2_at (up2 κ k f v), up2_at (up2 κ q g w)]
  by_cases c1 : x = q ∧ y = g
  · rw [if_pos c1, if_neg (by omega), up2_at κ q g w, if_pos c1]
  · rw [if_neg c1]
    by_cases c2 : x = k ∧ y = f
    · rw [if_pos c2, up2_at κ k f v, if_pos c2]
    · rw [if_neg c2, up2_at κ k f v, up2_at κ q g w, if_neg c1, if_neg c2]
theorem hi_logs {i : Nat} (hi : i < nf) (hnf : nf ≤ 3) : hiT nf ns nr (5 + i) 0 = 41 := by
  unfold hiT; rw [if_pos (by omega), if_pos rfl, if_pos (by omega)]
theorem hi_spit {i : Nat} (hi : i < ns) (hns : ns ≤ 6) : hiT nf ns nr (8 + i) 1 = 4 ∧ hiT nf ns nr (8 + i) 2 = 10 ∧ hiT nf ns nr (8 + i) 3 = 0 ∧ hiT nf ns nr (8 + i) 4 = 21 := by
  refine ⟨?_, ?_, ?_, ?_⟩ <;> unfold hiT <;> rw [if_neg (by omega), if_pos (by omega)] <;> simp [show 8 + i < 8 + ns by omega]
theorem hi_roast {j : Nat} (hj : j < nr) (hnr : nr ≤ 16) : hiT nf ns nr (14 + 2 * j) 3 = 4 ∧ hiT nf ns nr (14 + 2 * j) 5 = 4 := by
  refine ⟨?_, ?_⟩ <;> unfold hiT <;> rw [if_neg (by omega), if_neg (by omega), if_pos (by omega), if_pos (by omega)] <;> simp [show 14 + 2 * j < 14 + 2 * nr by omega] <;> omega
theorem hi_1 {f : Nat} : hiT nf ns nr 1 f = 0 := by unfold hiT; rw [if_neg (by omega), if_neg (by omega), if_neg (by omega)]
theorem op_layLogs {i b : Nat} (h : RR nf ns nr κ) (hi : i < nf) (h1 : 1 ≤ b) (h2 : b ≤ 40) (e : up2 κ (95 + i) 0 (if κ (95 + i) 0 + nI b < 40 then κ (95 + i) 0 + nI b else 40) = κ1) : ∃ κ2, f_X4_layLogs κ1 (nI i) (nI b) = .inr (κ2 (95 + i) 0, κ2) ∧ RR nf ns nr κ2 := by
  have hb := h.b
  obtain ⟨v, hv⟩ : ∃ v, (if κ (95 + i) 0 + nI b < 40 then κ (95 + i) 0 + nI b else 40 : Int32) = v := ⟨_, rfl⟩
  rw [hv] at e
  have e50 : κ (5 + i) 0 = κ (95 + i) 0 := (h.2.2.1 i hi).1
  have hvin : vp_in v 41 := by
    rw [← hv, ← e50]
    have hl := h.1.2.2.1.logs (i := i) (by omega)
    rw [if_pos hi] at hl
    obtain ⟨l, hl1, el⟩ := vp_in_of hl (by decide)
    rw [el, nI_add]
    by_cases c : l + b < 40
    · rw [if_pos (show nI (l + b) < (40 : Int32) from (nIlt (a := l + b) (b := 40) (by omega) (by decide)).mpr c)]
      exact vp_in_nI (by omega) (by decide)
    · rw [if_neg (show ¬ nI (l + b) < (40 : Int32) from fun q => c ((nIlt (a := l + b) (b := 40) (by omega) (by decide)).mp q))]
      exact (vp_in_nI (n := 40) (by decide) (by decide) : vp_in (nI 40) 41)
  have hI1 : Iv nf ns nr κ1 := h.1.of (fun q hq => by rw [← e]; exact up2_row (by omega))
  have e51 : κ1 (5 + i) 0 = κ (95 + i) 0 := by rw [← e, up2_row (by omega)]; exact e50
  refine ⟨up2 κ1 (5 + i) 0 v, ?_, ?_⟩
  · unfold f_X4_layLogs
    rw [fireN hI1 hi]
    dsimp only
    rw [if_neg (show ¬ nI b < (1 : Int32) from fun q => by
      have := (nIlt (a := b) (b := 1) (by omega) (by decide)).mp q
      omega), if_pos (show nI b ≤ (40 : Int32) from (nIle (a := b) (b := 40) (by omega) (by decide)).mpr h2), e51, hv, up2_self, up2_row (by omega), ← e, up2_self]
  · rw [← e]
    exact h.both (Or.inl ⟨i, by omega, rfl, rfl, rfl, by decide⟩) (by omega) (by omega) (fun _ => by rw [hi_logs hi hb.1]; exact hvin) (by omega) (by omega) (by omega) (by omega)
theorem op_moveSpit {i w : Nat} (h : RR nf ns nr κ) (hi : i < ns) (h1 : 1 ≤ w) (h2 : w ≤ 3) (e : up2 κ (98 + i) 1 (nI w) = κ1) : ∃ κ2, f_X4_moveSpit κ1 (nI i) (nI w) = .inr (κ (98 + i) 1, κ2) ∧ RR nf ns nr κ2 := by
  have hb := h.b
  have hI1 : Iv nf ns nr κ1 := h.1.of (fun q hq => by rw [← e]; exact up2_row (by omega))
  refine ⟨up2 κ1 (8 + i) 1 (nI w), ?_, ?_⟩
  · unfold f_X4_moveSpit
    rw [spitN hI1 hi]
    dsimp only
    rw [feetN h1 h2]
    dsimp only
    rw [← (h.2.2.2.1 i hi).2.1, ← e, up2_row (q := 8 + i) (k := 98 + i) (by omega)]
  · rw [← e]
    exact h.both (Or.inr (Or.inl ⟨i, by omega, rfl, rfl, Or.inr (Or.inl ⟨rfl, rfl⟩)⟩)) (by omega) (by omega) (fun _ => by rw [(hi_spit hi hb.2.1).1]; exact vp_in_nI (by omega) (by decide)) (by omega) (by omega) (by omega) (fun _ z => by
      have := (nIeq (a := w) (b := 0) (by omega) (by decide)).mp z
      omega)
theorem op_turnEach {i w : Nat} (h : RR nf ns nr κ) (hi : i < ns) (h2 : w ≤ 9) (e : up2 (up2 κ (98 + i) 5 (nI w)) (98 + i) 4 0 = κ1) : ∃ κ2, f_X4_turnEach κ1 (nI i) (nI w) = .inr (κ (98 + i) 5, κ2) ∧ RR nf ns nr κ2 := by
  have hb := h.b
  have hI1 : Iv nf ns nr κ1 := h.1.of (fun q hq => by rw [← e, up2_row (by omega)]; exact up2_row (by omega))
  refine ⟨up2 (up2 κ1 (8 + i) 2 (nI w)) (8 + i) 3 0, ?_, ?_⟩
  · unfold f_X4_turnEach
    rw [spitN hI1 hi]
    dsimp only
    rw [if_neg (nI0 (by omega)), if_pos (show nI w ≤ (9 : Int32) from (nIle (a := w) (b := 9) (by omega) (by decide)).mpr h2), ← (h.2.2.2.1 i hi).2.2.1]
    have : κ1 (8 + i) 2 = κ (8 + i) 2 := by rw [← e, up2_row (by omega), up2_row (by omega)]
    rw [this]
    rfl
  · have h3 := h.both (v := nI w) (Or.inr (Or.inl ⟨i, by omega, rfl, rfl, Or.inr (Or.inr (Or.inl ⟨rfl, rfl⟩))⟩)) (by omega) (by omega) (fun _ => by rw [(hi_spit hi hb.2.1).2.1]; exact vp_in_nI (by omega) (by decide)) (by omega) (by omega) (by omega) (by omega)
    have h4 := h3.both (v := 0) (Or.inr (Or.inl ⟨i, by omega, rfl, rfl, Or.inr (Or.inr (Or.inr (Or.inl ⟨rfl, rfl⟩)))⟩)) (by omega) (by omega) (fun z => absurd (hi_spit hi hb.2.1).2.2.1 z) (by omega) (by omega) (by omega) (by omega)
    rw [← e, up2_swap (κ := up2 κ (98 + i) 5 (nI w)) (show 98 + i ≠ 8 + i by omega)]
    exact h4
theorem op_setFeast {w : Nat} (h : RR nf ns nr κ) (h2 : w ≤ 5000) (e : up2 κ 91 1 (nI w) = κ1) : ∃ κ2, f_X4_setFeast κ1 (nI w) = .inr (κ 91 1, κ2) ∧ RR nf ns nr κ2 := by
  refine ⟨up2 κ1 1 7 (nI w), ?_, ?_⟩
  · unfold f_X4_setFeast
    rw [if_neg (nI0 (by omega)), if_pos (show nI w ≤ (5000 : Int32) from (nIle (a := w) (b := 5000) (by omega) (by decide)).mpr h2), ← h.2.1.2, ← e, up2_row (q := 1) (k := 91) (by omega)]
  · rw [← e]
    exact h.both (Or.inr (Or.inr (Or.inr ⟨rfl, rfl, rfl, by decide⟩))) (by omega) (by omega) (fun z => absurd hi_1 z) (by omega) (by omega) (by omega) (by omega)
theorem op_turnNow {i j : Nat} (h : RR nf ns nr κ) (hi : i < ns) (hj : j < nr) (eh : κ (98 + i) 3 = nI j) (e : up2 κ (104 + 2 * j) 2 ((κ (104 + 2 * j) 2 + 1) - (κ (104 + 2 * j) 2 + 1) / 4 * 4) = κ1) : ∃ κ2, f_X4_turnNow κ1 (nI i) = .inr (κ2 (104 + 2 * j) 2, κ2) ∧ RR nf ns nr κ2 := by
  have hb := h.b
  have hI1 : Iv nf ns nr κ1 := h.1.of (fun q hq => by rw [← e]; exact up2_row (by omega))
  have es : κ (14 + 2 * j) 3 = κ (104 + 2 * j) 2 := (h.2.2.2.2 j hj).1 2 (by decide)
  have hs : vp_in (κ (14 + 2 * j) 3) 4 := by
    have := h.1.2.2.1.side (j := j) (by omega)
    rw [if_pos hj] at this; exact this
  have e8 : κ1 (8 + i) 5 = nI j := by rw [← e, up2_row (by omega), (h.2.2.2.1 i hi).2.2.2.2.2]; exact eh
  have e14 : κ1 (14 + 2 * j) 3 = κ (14 + 2 * j) 3 := by rw [← e, up2_row (by omega)]
  have en : (κ (104 + 2 * j) 2 + 1) - (κ (104 + 2 * j) 2 + 1) / 4 * 4 = f_X2_nextSide (κ (14 + 2 * j) 3) := by rw [← es]; exact (nx_law hs).2.2
  rw [en] at e
  refine ⟨up2 κ1 (14 + 2 * j) 3 (f_X2_nextSide (κ (14 + 2 * j) 3)), ?_, ?_⟩
  · unfold f_X4_turnNow
    rw [spitN hI1 hi]
    dsimp only
    rw [roastOfN hI1 hj e8]
    unfold f_X2_turn
    dsimp only
    rw [e14, up2_self, up2_row (by omega), ← e, up2_self]
  · rw [← e]
    exact h.both (Or.inr (Or.inr (Or.inl ⟨j, by omega, rfl, rfl, rfl, by decide⟩))) (by omega) (by omega) (fun _ => by rw [(hi_roast hj hb.2.2).1]; exact (nx_in hs).1) (by omega) (by omega) (by omega) (by omega)
theorem op_baste {i j : Nat} (h : RR nf ns nr κ) (hi : i < ns) (hj : j < nr) (eh : κ (98 + i) 3 = nI j) (hd : (2 : Int32) ≤ κ (98 + i) 2) (e : up2 (up2 κ (98 + i) 2 (κ (98 + i) 2 - 2)) (104 + 2 * j) 4 3 = κ1) : ∃ κ2, f_X4_baste κ1 (nI i) = .inr (κ2 (98 + i) 2, κ2) ∧ RR nf ns nr κ2 := by
  have hb := h.b
  have hI1 : Iv nf ns nr κ1 := h.1.of (fun q hq => by rw [← e, up2_row (by omega)]; exact up2_row (by omega))
  have ed : κ (8 + i) 4 = κ (98 + i) 2 := (h.2.2.2.1 i hi).2.2.2.2.1
  have e8 : κ1 (8 + i) = κ (8 + i) := by rw [← e, up2_row (by omega), up2_row (by omega)]
  have e85 : κ1 (8 + i) 5 = nI j := by rw [e8, (h.2.2.2.1 i hi).2.2.2.2.2]; exact eh
  refine ⟨up2 (up2 κ1 (8 + i) 4 (κ (98 + i) 2 - 2)) (14 + 2 * j) 5 3, ?_, ?_⟩
  · unfold f_X4_baste
    rw [spitN hI1 hi]
    dsimp only
    rw [roastOfN hI1 hj e85]
    dsimp only
    rw [e8, ed, if_pos hd, up2_row (q := 8 + i) (k := 14 + 2 * j) (by omega), up2_self, up2_row (q := 98 + i) (k := 14 + 2 * j) (by omega), up2_row (q := 98 + i) (k := 8 + i) (by omega), ← e, up2_row (q := 98 + i) (k := 104 + 2 * j) (by omega), up2_self]
  · have hdr := h.1.2.2.1.drip (i := i) (by omega)
    rw [if_pos hi, ed] at hdr
    have h3 := h.both (v := κ (98 + i) 2 - 2) (Or.inr (Or.inl ⟨i, by omega, rfl, rfl, Or.inr (Or.inr (Or.inr (Or.inr (Or.inl ⟨rfl, rfl⟩))))⟩)) (by omega) (by omega) (fun _ => by
      rw [(hi_spit hi hb.2.1).2.2.2]
      obtain ⟨n, hn, en⟩ := vp_in_of hdr (by decide)
      rw [en] at hd ⊢
      have hn2 := (nIle (a := 2) (b := n) (by decide) (by omega)).mp hd
      obtain ⟨k, rfl⟩ : ∃ k, n = k + 2 := ⟨n - 2, by omega⟩
      rw [← nI_add, show nI k + nI 2 - 2 = nI k from Int32.add_sub_cancel _ _]
      exact vp_in_nI (by omega) (by decide)) (by omega) (by omega) (by omega) (by omega)
    have h4 := h3.both (v := 3) (Or.inr (Or.inr (Or.inl ⟨j, by omega, rfl, rfl, rfl, by decide⟩)) : Cor (14 + 2 * j) 5 (104 + 2 * j) 4) (by omega) (by omega) (fun _ => by rw [(hi_roast hj hb.2.2).2]; exact (vp_in_nI (n := 3) (by decide) (by decide) : vp_in (nI 3) 4)) (by omega) (by omega) (by omega) (by omega)
    rw [← e, up2_swap (κ := up2 κ (98 + i) 2 (κ (98 + i) 2 - 2)) (show 104 + 2 * j ≠ 8 + i by omega)]
    exact h4
theorem op_emptyPan {i : Nat} (h : RR nf ns nr κ) (hi : i < ns) (e : up2 κ (98 + i) 2 0 = κ1) : ∃ κ2, f_X4_emptyPan κ1 (nI i) = .inr (κ (98 + i) 2, κ2) ∧ RR nf ns nr κ2 := by
  have hb := h.b
  have hI1 : Iv nf ns nr κ1 := h.1.of (fun q hq => by rw [← e]; exact up2_row (by omega))
  refine ⟨up2 κ1 (8 + i) 4 0, ?_, ?_⟩
  · unfold f_X4_emptyPan
    rw [spitN hI1 hi]
    dsimp only
    rw [← (h.2.2.2.1 i hi).2.2.2.2.1, ← e, up2_row (q := 8 + i) (k := 98 + i) (by omega)]
  · rw [← e]
    exact h.both (Or.inr (Or.inl ⟨i, by omega, rfl, rfl, Or.inr (Or.inr (Or.inr (Or.inr (Or.inl ⟨rfl, rfl⟩))))⟩)) (by omega) (by omega) (fun _ => by rw [(hi_spit hi hb.2.1).2.2.2]; exact vp_0 (by decide)) (by omega) (by omega) (by omega) (by omega)
theorem op_takeDown {i j : Nat} (h : RR nf ns nr κ) (hi : i < ns) (hj : j < nr) (eh : κ (98 + i) 3 = nI j) (e : up2 (up2 κ (104 + 2 * j) 1 (-1)) (98 + i) 3 (-1) = κ1) : ∃ κ2, f_X4_takeDown κ1 (nI i) = .inr (nI j, κ2) ∧ RR nf ns nr κ2 := by
  have hb := h.b
  have hI1 : Iv nf ns nr κ1 := h.1.of (fun q hq => by rw [← e, up2_row (by omega)]; exact up2_row (by omega))
  have e8 : κ1 (8 + i) = κ (8 + i) := by rw [← e, up2_row (by omega), up2_row (by omega)]
  have e85 : κ1 (8 + i) 5 = nI j := by rw [e8, (h.2.2.2.1 i hi).2.2.2.2.2]; exact eh
  have e85' : κ (8 + i) 5 = nI j := by rw [← e8]; exact e85
  refine ⟨up2 (up2 κ1 (14 + 2 * j) 2 (-1)) (8 + i) 5 (-1), ?_, ?_, ?_⟩
  · unfold f_X4_takeDown
    rw [spitN hI1 hi]
    dsimp only
    rw [roastOfN hI1 hj e85]
    dsimp only
    rw [e85]
  · obtain ⟨hbb, hC, hR, hZ, hM⟩ := hI1
    have hn : nI j ≠ -1 := fun z => by
      have := congrArg (fun x => decide (x < 0)) z
      rw [decide_eq_true n1_neg, decide_eq_false (nI0 (by omega))] at this
      cases this
    refine ⟨hbb, ⟨?_, ?_, ?_⟩, (hR.up (fun z => ?_)).up (fun z => ?_), hZ.of (fun i2 hi2 => ?_) (fun j2 hj2 => ?_), ⟨fun i2 hi2 => ?_, fun j2 hj2 => ?_⟩⟩
    · rw [up2_row (by omega), up2_row (by omega)]; exact hC.1
    · rw [up2_row (by omega), up2_row (by omega)]; exact hC.2.1
    · rw [up2_row (by omega), up2_row (by omega)]; exact hC.2.2
    · refine absurd ?_ z
      unfold hiT
      rw [if_neg (by omega), if_neg (by omega), if_pos (by omega), if_pos (by omega)]
      rfl
    · refine absurd ?_ z
      unfold hiT
      rw [if_neg (by omega), if_pos (by omega)]
      rfl
    · rw [up2_ne _ _ (by omega), up2_ne _ _ (by omega)]
    · rw [up2_ne _ _ (by omega), up2_ne _ _ (by omega), up2_ne _ _ (by omega), up2_ne _ _ (by omega)]; exact ⟨rfl, rfl⟩
    · by_cases c : i2 = i
      · subst c; exact Or.inl (up2_self _ _ _ _)
      · rw [up2_row (by omega), up2_row (by omega)]
        rcases hM.1 i2 hi2 with q | ⟨a, j2, b, c2, d⟩
        · exact Or.inl q
        · refine Or.inr ⟨a, j2, b, c2, ?_⟩
          by_cases cj : j2 = j
          · subst cj
            rcases hM.1 i (by omega) with q | ⟨a', j3, b', c3, d'⟩
            · rw [e85] at q; exact absurd q hn
            · rw [e85] at c3
              have := (nIeq (by omega) (by omega)).mp c3
              subst this
              rw [d] at d'
              have := (nIeq (by omega) (by omega)).mp d'
              omega
          · rw [up2_row (by omega), up2_row (by omega)]; exact d
    · by_cases cj : j2 = j
      · subst cj
        exact Or.inl (by rw [up2_row (by omega)]; exact up2_self _ _ _ _)
      · rw [up2_row (by omega), up2_row (by omega)]
        rcases hM.2 j2 hj2 with q | ⟨a, i2, b, c2, d⟩
        · exact Or.inl q
        · refine Or.inr ⟨a, i2, b, c2, ?_⟩
          by_cases ci : i2 = i
          · subst ci
            rw [e85] at d
            have := (nIeq (by omega) (by omega)).mp d
            omega
          · rw [up2_row (by omega), up2_row (by omega)]; exact d
  · have h3 := (h.2.set (v := -1) hb (Or.inr (Or.inr (Or.inl ⟨j, by omega, rfl, rfl, rfl, by decide⟩)) : Cor (14 + 2 * j) 2 (104 + 2 * j) 1)).set (v := -1) hb (Or.inr (Or.inl ⟨i, by omega, rfl, rfl, Or.inr (Or.inr (Or.inr (Or.inr (Or.inr ⟨rfl, rfl⟩))))⟩) : Cor (8 + i) 5 (98 + i) 3)
    refine h3.of hb (fun q hq => up2_rowc (up2_rowc ?_)) (fun q q1 q2 => ?_)
    · rw [← e, up2_row (by omega), up2_row (by omega)]
    · rw [up2_row (by omega), up2_row (by omega), ← e]
end ACTS
