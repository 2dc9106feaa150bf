theorem fireAt_N {κ : Kp} {k f nf : Nat} (h : κ k 3 = nI nf) (hf : f < nf) (hnf : nf ≤ 3) : f_X1_fireAt κ k (nI f) = some (k + 4 + f) := by
  unfold f_X1_fireAt
  have c3 : ¬ (3 : Int32) ≤ nI f := fun q => by
    have := (nIle (a := 3) (b := f) (by decide) (by omega)).mp q
    omega
  rw [if_neg (nI0 (by omega)), h, if_neg (by rw [nIle (by omega) (by omega)]; omega), if_neg c3, nI_clamp (by omega)]
theorem roastAt_N {κ : Kp} {k r nr : Nat} (h : κ k 5 = nI nr) (hr : r < nr) (hnr : nr ≤ 16) : f_X1_roastAt κ k (nI r) = some (k + 13 + 2 * r) := by
  unfold f_X1_roastAt
  have c3 : ¬ (16 : Int32) ≤ nI r := fun q => by
    have := (nIle (a := 16) (b := r) (by decide) (by omega)).mp q
    omega
  rw [if_neg (nI0 (by omega)), h, if_neg (by rw [nIle (by omega) (by omega)]; omega), if_neg c3, nI_clamp (by omega)]
def cT (κ : Kp) (q p : Nat) : Kp := match f_X3_countsToTurn κ q with | (r3, κ4) => if r3 = 0 then κ4 else f_X2_turn κ4 p
def cD (κ : Kp) (p q p3 : Nat) (a : Int32) : Int32 × Kp := match f_X2_drips κ p a with | (r2, κ2) => if r2 = 0 then (bi false, κ2) else match f_X3_takesDripping κ2 q with | (r4, κ5) => if r4 = 0 then (bi true, up2 κ5 p3 2 (κ5 p3 2 + 1)) else (bi false, κ5)
theorem roastFor_eq {κ : Kp} {k q p p3 : Nat} (h1 : f_X1_roastAt κ k (κ q 5) = some p) (h2 : f_X1_fireAt κ k (κ q 0) = some p3) : f_X1_roastForAMinute κ k q = ((cD (f_X2_getGlow κ p (f_X1_glowOf κ k q)).2 p q p3 (f_X2_getGlow κ p (f_X1_glowOf κ k q)).1).1, cT (cD (f_X2_getGlow κ p (f_X1_glowOf κ k q)).2 p q p3 (f_X2_getGlow κ p (f_X1_glowOf κ k q)).1).2 q p) := by
  unfold f_X1_roastForAMinute
  rw [h1, h2]
  dsimp only
  generalize f_X2_getGlow κ p (f_X1_glowOf κ k q) = w1
  obtain ⟨r1, κ1⟩ := w1
  unfold cD cT
  dsimp only
  generalize f_X2_drips κ1 p r1 = w2
  obtain ⟨r2, κ2⟩ := w2
  dsimp only
  by_cases c2 : r2 = 0
  · rw [if_pos c2, if_pos c2]
    dsimp only
    generalize f_X3_countsToTurn κ2 q = w3
    obtain ⟨r3, κ3⟩ := w3
    dsimp only
    by_cases c3 : r3 = 0
    · rw [if_pos c3, if_pos c3]
    · rw [if_neg c3, if_neg c3]
  · rw [if_neg c2, if_neg c2]
    generalize f_X3_takesDripping κ2 q = w4
    obtain ⟨r4, κ4⟩ := w4
    dsimp only
    by_cases c4 : r4 = 0
    · rw [if_pos c4, if_pos c4]
      dsimp only
      generalize f_X3_countsToTurn (up2 κ4 p3 2 (κ4 p3 2 + 1)) q = w5
      obtain ⟨r5, κ5⟩ := w5
      dsimp only
      by_cases c5 : r5 = 0
      · rw [if_pos c5, if_pos c5]
      · rw [if_neg c5, if_neg c5]
    · rw [if_neg c4, if_neg c4]
      dsimp only
      generalize f_X3_countsToTurn κ4 q = w5
      obtain ⟨r5, κ5⟩ := w5
      dsimp only
      by_cases c5 : r5 = 0
      · rw [if_pos c5, if_pos c5]
      · rw [if_neg c5, if_neg c5]
theorem bi_f : bi false = 0 := by decide
theorem bi_t : ¬ bi true = 0 := by decide

theorem bi_eq0 {b : Bool} : bi b = 0 ↔ b = false := by cases b <;> decide
theorem cD_spec {κ : Kp} {p q p3 : Nat} {a : Int32} {d u : Bool} (h1 : p ≠ q) (h2 : p ≠ p3) (h3 : q ≠ p3) (hd : d = (!decide (a < 2) && decide (0 < κ p 4))) (hu : u = !decide (κ q 4 < 20)) : ∃ κb : Kp, cD κ p q p3 a = (bi (d && u), κb) ∧ κb p = (if d = true then va_up (κ p) 4 (κ p 4 - 1) else κ p) ∧ κb q = (if (d && !u) = true then va_up (κ q) 4 (κ q 4 + 1) else κ q) ∧ κb p3 = (if (d && u) = true then va_up (κ p3) 2 (κ p3 2 + 1) else κ p3) ∧ ∀ x, x ≠ p → x ≠ q → x ≠ p3 → κb x = κ x := by
  unfold cD f_X2_drips
  by_cases c1 : a < 2
  · have ed : d = false := by rw [hd, decide_eq_true c1]; rfl
    subst ed
    refine ⟨κ, ?_, rfl, rfl, rfl, fun _ _ _ _ => rfl⟩
    rw [if_pos c1]
    dsimp only
    rw [if_pos bi_f]
    rfl
  · by_cases c2 : 0 < κ p 4
    · have ed : d = true := by rw [hd, decide_eq_false c1, decide_eq_true c2]; rfl
      subst ed
      rw [if_neg c1, if_pos c2]
      dsimp only
      rw [if_neg bi_t]
      unfold f_X3_takesDripping
      have eq4 : up2 κ p 4 (κ p 4 - 1) q = κ q := up2_row (Ne.symm h1)
      have e3 : up2 κ p 4 (κ p 4 - 1) p3 = κ p3 := up2_row (Ne.symm h2)
      rw [eq4]
      by_cases c3 : κ q 4 < 20
      · have eu : u = false := by rw [hu, decide_eq_true c3]; rfl
        subst eu
        rw [if_pos c3]
        dsimp only
        rw [if_neg bi_t]
        refine ⟨_, rfl, ?_, ?_, ?_, fun x x1 x2 x3 => ?_⟩
        · exact (up2_row h1).trans (va_up_self _ _ _)
        · show va_up (up2 κ p 4 (κ p 4 - 1)) q (va_up (up2 κ p 4 (κ p 4 - 1) q) 4 (κ q 4 + 1)) q = _
          rw [va_up_self, eq4]; rfl
        · exact (up2_row (Ne.symm h3)).trans e3
        · exact (up2_row x2).trans (up2_row x1)
      · have eu : u = true := by rw [hu, decide_eq_false c3]; rfl
        subst eu
        rw [if_neg c3]
        dsimp only
        rw [if_pos bi_f, e3]
        refine ⟨_, rfl, ?_, ?_, ?_, fun x x1 x2 x3 => ?_⟩
        · exact (up2_row h2).trans (va_up_self _ _ _)
        · exact (up2_row h3).trans eq4
        · show va_up (up2 κ p 4 (κ p 4 - 1)) p3 (va_up (up2 κ p 4 (κ p 4 - 1) p3) 2 (κ p3 2 + 1)) p3 = _
          rw [va_up_self, e3]; rfl
        · exact (up2_row x3).trans (up2_row x1)
    · have ed : d = false := by rw [hd, decide_eq_false c2, Bool.and_false]
      subst ed
      refine ⟨κ, ?_, rfl, rfl, rfl, fun _ _ _ _ => rfl⟩
      rw [if_neg c1, if_neg c2]
      dsimp only
      rw [if_pos bi_f]
      rfl
theorem cT_spec {κ : Kp} {p q : Nat} {t : Bool} (h1 : p ≠ q) (ht : t = (decide (¬ κ q 2 ≤ 0) && decide ((κ q 3 + 1) - (κ q 3 + 1) / κ q 2 * κ q 2 = 0))) : cT κ q p q = va_up (κ q) 3 (κ q 3 + 1) ∧ cT κ q p p = (if t = true then va_up (κ p) 3 (f_X2_nextSide (κ p 3)) else κ p) ∧ ∀ x, x ≠ p → x ≠ q → cT κ q p x = κ x := by
  unfold cT f_X3_countsToTurn
  dsimp only
  have e2 : up2 κ q 3 (κ q 3 + 1) q 2 = κ q 2 := up2_ne _ _ (Or.inr (by decide))
  have e3 : up2 κ q 3 (κ q 3 + 1) q 3 = κ q 3 + 1 := up2_self _ _ _ _
  have ep : up2 κ q 3 (κ q 3 + 1) p = κ p := up2_row h1
  have eq : up2 κ q 3 (κ q 3 + 1) q = va_up (κ q) 3 (κ q 3 + 1) := va_up_self _ _ _
  rw [e2, e3]
  by_cases c1 : κ q 2 ≤ 0
  · have et : t = false := by rw [ht, decide_eq_false (fun z => z c1)]; rfl
    subst et
    rw [if_pos c1]
    dsimp only
    rw [if_pos bi_f]
    exact ⟨eq, ep, fun x x1 x2 => up2_row x2⟩
  · rw [if_neg c1]
    by_cases c2 : (κ q 3 + 1) - (κ q 3 + 1) / κ q 2 * κ q 2 = 0
    · have et : t = true := by rw [ht, decide_eq_true c1, decide_eq_true c2]; rfl
      subst et
      rw [if_pos c2]
      dsimp only
      rw [if_neg bi_t]
      unfold f_X2_turn
      dsimp only
      rw [ep]
      refine ⟨(up2_row (Ne.symm h1)).trans eq, ?_, fun x x1 x2 => (up2_row x1).trans (up2_row x2)⟩
      show va_up (up2 κ q 3 (κ q 3 + 1)) p (va_up (up2 κ q 3 (κ q 3 + 1) p) 3 (f_X2_nextSide (κ p 3))) p = _
      rw [va_up_self, ep]; rfl
    · have et : t = false := by rw [ht, decide_eq_true c1, decide_eq_false c2]; rfl
      subst et
      rw [if_neg c2]
      dsimp only
      rw [if_pos bi_f]
      exact ⟨eq, ep, fun x x1 x2 => up2_row x2⟩
/-- the glow at spit i; what roast j gets on it; whether it drips, the pan is full, the spit is turned -/
def gl (κ : Kp) (i : Nat) : Int32 := κ (5 + (κ (8 + i) 0).toNatClampNeg) 1 / κ (8 + i) 1
def gt (κ : Kp) (i j : Nat) : Int32 := gG (κ (14 + 2 * j) 5) (gl κ i)
def dr (κ : Kp) (i j : Nat) : Bool := !decide (gt κ i j < 2) && decide (0 < κ (14 + 2 * j) 4)
def fu (κ : Kp) (i : Nat) : Bool := !decide (κ (8 + i) 4 < 20)
def tu (κ : Kp) (i : Nat) : Bool := decide (¬ κ (8 + i) 2 ≤ 0) && decide ((κ (8 + i) 3 + 1) - (κ (8 + i) 3 + 1) / κ (8 + i) 2 * κ (8 + i) 2 = 0)
def rowB (κ : Kp) (i j : Nat) : Nat → Int32 := bR (κ (15 + 2 * j)) (κ (14 + 2 * j) 3) (gt κ i j)
def rowR1 (κ : Kp) (i j : Nat) : Nat → Int32 := if dr κ i j = true then va_up (wR (κ (14 + 2 * j))) 4 (κ (14 + 2 * j) 4 - 1) else wR (κ (14 + 2 * j))
def rowR (κ : Kp) (i j : Nat) : Nat → Int32 := if tu κ i = true then va_up (rowR1 κ i j) 3 (f_X2_nextSide (κ (14 + 2 * j) 3)) else rowR1 κ i j
def rowS (κ : Kp) (i j : Nat) : Nat → Int32 := va_up (if (dr κ i j && !fu κ i) = true then va_up (κ (8 + i)) 4 (κ (8 + i) 4 + 1) else κ (8 + i)) 3 (κ (8 + i) 3 + 1)
def rowF (κ : Kp) (i j f : Nat) : Nat → Int32 := if (dr κ i j && fu κ i) = true then va_up (κ (5 + f)) 2 (κ (5 + f) 2 + 1) else κ (5 + f)
theorem wR_at (r : Nat → Int32) {f : Nat} (h : f ≠ 5) : wR r f = r f := by
  unfold wR
  split
  · rfl
  · exact va_up_ne _ _ h
theorem rowR1_at (κ : Kp) (i j : Nat) {f : Nat} (h : f ≠ 5) (h4 : f ≠ 4) : rowR1 κ i j f = κ (14 + 2 * j) f := by
  unfold rowR1
  split
  · rw [va_up_ne _ _ h4]; exact wR_at _ h
  · exact wR_at _ h
theorem rowR_at (κ : Kp) (i j : Nat) {f : Nat} (h : f ≠ 5) (h4 : f ≠ 4) (h3 : f ≠ 3) : rowR κ i j f = κ (14 + 2 * j) f := by
  unfold rowR
  split
  · rw [va_up_ne _ _ h3]; exact rowR1_at κ i j h h4
  · exact rowR1_at κ i j h h4
/-- a minute of spit i with roast j at fire f -/
theorem class_step {κ : Kp} {nf nr i j f : Nat} (h3 : κ 1 3 = nI nf) (h5 : κ 1 5 = nI nr) (hnf : nf ≤ 3) (hnr : nr ≤ 16) (hi : i < 6) (hj : j < nr) (hf : f < nf) (eh : κ (8 + i) 5 = nI j) (ef : κ (8 + i) 0 = nI f) (hft : 0 < κ (8 + i) 1) (hsd : vp_in (κ (14 + 2 * j) 3) 4) : ∃ κ' : Kp, f_X1_roastForAMinute κ 1 (8 + i) = (bi (dr κ i j && fu κ i), κ') ∧ κ' (15 + 2 * j) = rowB κ i j ∧ κ' (14 + 2 * j) = rowR κ i j ∧ κ' (8 + i) = rowS κ i j ∧ κ' (5 + f) = rowF κ i j f ∧ ∀ q, q ≠ 15 + 2 * j → q ≠ 14 + 2 * j → q ≠ 8 + i → q ≠ 5 + f → κ' q = κ q := by
  have e1 : f_X1_roastAt κ 1 (κ (8 + i) 5) = some (14 + 2 * j) := by rw [eh]; exact roastAt_N h5 hj hnr
  have e2 : f_X1_fireAt κ 1 (κ (8 + i) 0) = some (5 + f) := by rw [ef]; exact fireAt_N h3 hf hnf
  have eg : f_X1_glowOf κ 1 (8 + i) = gl κ i := by
    unfold f_X1_glowOf gl
    rw [e2]
    dsimp only
    rw [if_pos hft, ef, nI_clamp (by omega)]
  have hgl := glow_eq (κ := κ) (p := 14 + 2 * j) (a := gl κ i) hsd
  have ep : (14 + 2 * j) + 1 = 15 + 2 * j := by omega
  rw [ep] at hgl
  rw [roastFor_eq e1 e2, eg, hgl]
  dsimp only
  obtain ⟨κa, ha⟩ : ∃ κa : Kp, va_up (va_up κ (14 + 2 * j) (wR (κ (14 + 2 * j)))) (15 + 2 * j) (bR (κ (15 + 2 * j)) (κ (14 + 2 * j) 3) (gG (κ (14 + 2 * j) 5) (gl κ i))) = κa := ⟨_, rfl⟩
  rw [ha]
  have a1 : κa (15 + 2 * j) = rowB κ i j := by rw [← ha, va_up_self]; rfl
  have a2 : κa (14 + 2 * j) = wR (κ (14 + 2 * j)) := by rw [← ha, va_up_ne _ _ (by omega), va_up_self]
  have a3 : ∀ q, q ≠ 15 + 2 * j → q ≠ 14 + 2 * j → κa q = κ q := fun q q1 q2 => by rw [← ha, va_up_ne _ _ q1, va_up_ne _ _ q2]
  have a4 : κa (14 + 2 * j) 4 = κ (14 + 2 * j) 4 := by rw [a2]; exact wR_at _ (by decide)
  have a8 : κa (8 + i) = κ (8 + i) := a3 _ (by omega) (by omega)
  have a5 : κa (5 + f) = κ (5 + f) := a3 _ (by omega) (by omega)
  obtain ⟨κb, hb, b1, b2, b3, b4⟩ := cD_spec (κ := κa) (p := 14 + 2 * j) (q := 8 + i) (p3 := 5 + f) (a := gt κ i j) (d := dr κ i j) (u := fu κ i) (by omega) (by omega) (by omega) (by rw [a4]; rfl) (by rw [a8]; rfl)
  have hb' : cD κa (14 + 2 * j) (8 + i) (5 + f) (gG (κ (14 + 2 * j) 5) (gl κ i)) = (bi (dr κ i j && fu κ i), κb) := hb
  rw [hb']
  dsimp only
  have bq2 : κb (8 + i) 2 = κ (8 + i) 2 := by rw [b2, a8]; split; exact va_up_ne _ _ (by decide); rfl
  have bq3 : κb (8 + i) 3 = κ (8 + i) 3 := by rw [b2, a8]; split; exact va_up_ne _ _ (by decide); rfl
  have bp3 : κb (14 + 2 * j) 3 = κ (14 + 2 * j) 3 := by
    rw [b1, a2]
    split
    · rw [va_up_ne _ _ (by decide)]; exact wR_at _ (by decide)
    · exact wR_at _ (by decide)
  obtain ⟨c1, c2, c3⟩ := cT_spec (κ := κb) (p := 14 + 2 * j) (q := 8 + i) (t := tu κ i) (by omega) (by rw [bq2, bq3]; rfl)
  refine ⟨_, rfl, ?_, ?_, ?_, ?_, fun q q1 q2 q3 q4 => ?_⟩
  · rw [c3 _ (by omega) (by omega), b4 _ (by omega) (by omega) (by omega), a1]
  · rw [c2, bp3, b1, a4, a2]; rfl
  · rw [c1, bq3, b2, a8]; rfl
  · rw [c3 _ (by omega) (by omega), b3, a5]; rfl
  · rw [c3 q q2 q3, b4 q q2 q3 q4, a3 q q1 q2]
theorem class_none {κ : Kp} {i : Nat} (eh : κ (8 + i) 5 = -1) : f_X1_roastForAMinute κ 1 (8 + i) = (bi false, κ) := by
  unfold f_X1_roastForAMinute f_X1_roastAt
  rw [eh, if_pos (by decide)]
  dsimp only
  cases f_X1_fireAt κ 1 (κ (8 + i) 0) with
  | none => rfl
  | some p => rfl
