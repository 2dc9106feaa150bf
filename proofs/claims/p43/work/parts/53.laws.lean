/-! WHAT A MINUTE LEAVES, as the law asks for it: b before, a behind. -/
def gotP (b : Kp) (r : Nat) : Int32 := if b (14 + 2 * r) 2 < 0 then 0 else gt b (b (14 + 2 * r) 2).toNatClampNeg r
section LAWS
variable {nf ns nr : Nat} {b a : Kp} {v : Int32} {r f i w : Nat}
theorem min_spit (hC : CM b v a) (hr : r < 16) : a (14 + 2 * r) 2 = b (14 + 2 * r) 2 := by
  by_cases c : b (14 + 2 * r) 2 < 0
  · rw [((hC.2.1 r hr).2 c).1]
  · rw [((hC.2.1 r hr).1 c).1]; exact rowR_at b _ r (by decide) (by decide) (by decide)
theorem min_pounds (hC : CM b v a) (hr : r < 16) : a (14 + 2 * r) 1 = b (14 + 2 * r) 1 := by
  by_cases c : b (14 + 2 * r) 2 < 0
  · rw [((hC.2.1 r hr).2 c).1]
  · rw [((hC.2.1 r hr).1 c).1]; exact rowR_at b _ r (by decide) (by decide) (by decide)
theorem on_gt (hI : Iv nf ns nr b) (hr : r < nr) (c : ¬ b (14 + 2 * r) 2 < 0) : ∃ i, i < ns ∧ b (14 + 2 * r) 2 = nI i ∧ (b (14 + 2 * r) 2).toNatClampNeg = i ∧ vp_in (gl b i) 10 ∧ gotP b r = gt b i r ∧ vp_in (gt b i r) 10 := by
  obtain ⟨⟨hnf, hns, hnr, hpos⟩, -, hR, hZ, hM⟩ := id hI
  obtain ⟨i, w1, w2, w3, w4, w5⟩ := hM.sp hns (by omega) c
  exact ⟨i, w1, w3, w5, gl_in hI w1, by unfold gotP; rw [if_neg c, w5], gG_in (gl_in hI w1)⟩
theorem got_in (hI : Iv nf ns nr b) (hr : r < nr) : vp_in (gotP b r) 10 := by
  by_cases c : b (14 + 2 * r) 2 < 0
  · unfold gotP; rw [if_pos c]; exact vp_0 (by decide)
  · obtain ⟨i, -, -, -, -, e, h⟩ := on_gt hI hr c
    rw [e]; exact h
theorem got_wet (hI : Iv nf ns nr b) (hr : r < nr) (c : ¬ b (14 + 2 * r) 2 < 0) (hw : ¬ b (14 + 2 * r) 5 ≤ 0) : (if 0 < gl b (b (14 + 2 * r) 2).toNatClampNeg - 1 then gl b (b (14 + 2 * r) 2).toNatClampNeg - 1 else 0) = gotP b r := by
  obtain ⟨i, -, -, e1, -, e, h⟩ := on_gt hI hr c
  rw [e, e1]
  unfold gt gG
  rw [if_neg hw]
theorem got_dry (hI : Iv nf ns nr b) (hr : r < nr) (c : ¬ b (14 + 2 * r) 2 < 0) (hw : b (14 + 2 * r) 5 ≤ 0) : (if 0 < gl b (b (14 + 2 * r) 2).toNatClampNeg - 0 then gl b (b (14 + 2 * r) 2).toNatClampNeg - 0 else 0) = gotP b r := by
  obtain ⟨i, -, -, e1, hg, e, h⟩ := on_gt hI hr c
  rw [e, e1]
  unfold gt gG
  rw [if_pos hw]
  obtain ⟨n, hn, en⟩ := vp_in_of hg (by decide)
  rw [en]
  have h1 : ∀ n : Nat, n < 10 → (if 0 < nI n - 0 then nI n - 0 else 0) = nI n := by decide
  exact h1 n hn
theorem b1_self {r2 : Nat → Int32} {s m : Int32} (h : s.toNatClampNeg = w) : b1 r2 s m w = if r2 w + m ≤ 99 then r2 w + m else 99 := by
  subst h; exact va_up_self _ _ _
theorem b1_ne {r2 : Nat → Int32} {s m : Int32} (h : w ≠ s.toNatClampNeg) : b1 r2 s m w = r2 w := va_up_ne _ _ h
theorem m99 {x m : Int32} (hx : vp_in x 100) (hm : vp_in m 10) : (if x + m ≤ 99 then x + m else 99) = if x + m < 99 then x + m else 99 := by
  obtain ⟨p, hp, rfl⟩ := vp_in_of hx (by decide)
  obtain ⟨q, hq, rfl⟩ := vp_in_of hm (by decide)
  rw [nI_add]
  by_cases c : p + q < 99
  · rw [if_pos (show nI (p + q) ≤ (99 : Int32) from (nIle (a := p + q) (b := 99) (by omega) (by decide)).mpr (by omega)), if_pos (show nI (p + q) < (99 : Int32) from (nIlt (a := p + q) (b := 99) (by omega) (by decide)).mpr c)]
  · rw [if_neg (show ¬ nI (p + q) < (99 : Int32) from fun z => c ((nIlt (a := p + q) (b := 99) (by omega) (by decide)).mp z))]
    by_cases d : p + q ≤ 99
    · rw [show p + q = 99 by omega]; rfl
    · rw [if_neg (show ¬ nI (p + q) ≤ (99 : Int32) from fun z => d ((nIle (a := p + q) (b := 99) (by omega) (by decide)).mp z))]
theorem m99_0 {x : Int32} (hx : vp_in x 100) : (if x + 0 < 99 then x + 0 else 99) = x := by
  obtain ⟨p, hp, rfl⟩ := vp_in_of hx (by decide)
  have h1 : ∀ p : Nat, p < 100 → (if nI p + 0 < 99 then nI p + 0 else 99) = nI p := by decide +kernel
  exact h1 p hp
/-- what a side gets -/
def moreP (g : Int32) (w : Nat) : Int32 := if w = 0 then g else if w = 2 then 0 else g / 3
theorem bR_side {r2 : Nat → Int32} {g : Int32} {s : Nat} (hr : ∀ w, w < 4 → vp_in (r2 w) 100) (hs : s < 4) (hg : vp_in g 10) (hw : w < 4) : bR r2 (nI s) g ((s + w) % 4) = if r2 ((s + w) % 4) + moreP g w < 99 then r2 ((s + w) % 4) + moreP g w else 99 := by
  have hn : ∀ s : Nat, s < 4 → (f_X2_nextSide (nI s)).toNatClampNeg = (s + 1) % 4 ∧ (f_X2_sideBefore (nI s)).toNatClampNeg = (s + 3) % 4 ∧ (nI s).toNatClampNeg = s := by decide
  obtain ⟨n1, n2, n0⟩ := hn s hs
  have h3 := d3_in hg
  have hb := hr ((s + w) % 4) (Nat.mod_lt _ (by decide))
  unfold bR
  have hw4 : w = 0 ∨ w = 1 ∨ w = 2 ∨ w = 3 := by omega
  rcases hw4 with rfl | rfl | rfl | rfl
  · rw [b1_ne (by rw [n2]; omega), b1_ne (by rw [n1]; omega), b1_self (by rw [n0]; omega), m99 hb hg]; rfl
  · rw [b1_ne (by rw [n2]; omega), b1_self (by rw [n1]), b1_ne (by rw [n0]; omega), m99 hb h3]; rfl
  · rw [b1_ne (by rw [n2]; omega), b1_ne (by rw [n1]; omega), b1_ne (by rw [n0]; omega), show moreP g 2 = 0 from rfl, m99_0 hb]
  · rw [b1_self (by rw [n2]), b1_ne (by rw [n1]; omega), b1_ne (by rw [n0]; omega), m99 hb h3]; rfl
theorem brown_in (hI : Iv nf ns nr b) (hr : r < nr) : ∀ w, w < 4 → vp_in (b (15 + 2 * r) w) 100 := fun w hw => by
  have := hI.2.2.1.brown (j := r) (by have := hI.1; omega) hw
  rw [if_pos hr] at this; exact this
theorem side_in (hI : Iv nf ns nr b) (hr : r < nr) : vp_in (b (14 + 2 * r) 3) 4 := by
  have := hI.2.2.1.side (j := r) (by have := hI.1; omega)
  rw [if_pos hr] at this; exact this
theorem wet_in (hI : Iv nf ns nr b) (hr : r < nr) : vp_in (b (14 + 2 * r) 5) 4 := by
  have := hI.2.2.1.wet (j := r) (by have := hI.1; omega)
  rw [if_pos hr] at this; exact this
theorem min_brown (hI : Iv nf ns nr b) (hC : CM b v a) (hr : r < nr) {s : Nat} (hs : b (14 + 2 * r) 3 = nI s) (hs4 : s < 4) (hw : w < 4) : a (15 + 2 * r) ((s + w) % 4) = if b (15 + 2 * r) ((s + w) % 4) + moreP (gotP b r) w < 99 then b (15 + 2 * r) ((s + w) % 4) + moreP (gotP b r) w else 99 := by
  have h16 : r < 16 := by have := hI.1; omega
  have hb := brown_in hI hr
  by_cases c : b (14 + 2 * r) 2 < 0
  · rw [((hC.2.1 r h16).2 c).2]
    have hg : gotP b r = 0 := by unfold gotP; rw [if_pos c]
    have hm : moreP (gotP b r) w = 0 := by
      rw [hg]; unfold moreP
      split
      · rfl
      · split
        · rfl
        · rfl
    rw [hm, m99_0 (hb _ (Nat.mod_lt _ (by decide)))]
  · obtain ⟨i, -, -, e1, -, e, h⟩ := on_gt hI hr c
    rw [((hC.2.1 r h16).1 c).2, e1, e]
    unfold rowB
    rw [hs]
    exact bR_side hb hs4 h hw
theorem got_le {x : Int32} (h : vp_in x 10) : ¬ x ≤ 1 ↔ ¬ x < 2 := by
  obtain ⟨p, hp, rfl⟩ := vp_in_of h (by decide)
  have h1 : ∀ p : Nat, p < 10 → (¬ nI p ≤ 1 ↔ ¬ nI p < 2) := by decide
  exact h1 p hp
theorem min_fat (hI : Iv nf ns nr b) (hC : CM b v a) (hr : r < nr) : a (14 + 2 * r) 4 = if ¬ gotP b r ≤ 1 ∧ ¬ b (14 + 2 * r) 4 ≤ 0 then b (14 + 2 * r) 4 - 1 else b (14 + 2 * r) 4 := by
  have h16 : r < 16 := by have := hI.1; omega
  by_cases c : b (14 + 2 * r) 2 < 0
  · rw [((hC.2.1 r h16).2 c).1, if_neg (fun z => z.1 (by unfold gotP; rw [if_pos c]; decide))]
  · obtain ⟨i, -, -, e1, -, e, h⟩ := on_gt hI hr c
    rw [((hC.2.1 r h16).1 c).1, e1, rowR_4, e]
    by_cases d : dr b i r = true
    · have d2 := d
      unfold dr at d2
      rw [Bool.and_eq_true, Bool.not_eq_true', decide_eq_false_iff_not, decide_eq_true_eq] at d2
      rw [if_pos d, if_pos ⟨(got_le h).mpr d2.1, Int32.not_le.mpr d2.2⟩]
    · rw [if_neg d, if_neg (fun z => d ?_)]
      unfold dr
      rw [Bool.and_eq_true, Bool.not_eq_true', decide_eq_false_iff_not, decide_eq_true_eq]
      exact ⟨(got_le h).mp z.1, Int32.not_le.mp z.2⟩
theorem min_wet (hC : CM b v a) (hr : r < 16) : a (14 + 2 * r) 5 = if b (14 + 2 * r) 2 < 0 then b (14 + 2 * r) 5 else if b (14 + 2 * r) 5 ≤ 0 then b (14 + 2 * r) 5 else b (14 + 2 * r) 5 - 1 := by
  by_cases c : b (14 + 2 * r) 2 < 0
  · rw [((hC.2.1 r hr).2 c).1, if_pos c]
  · rw [((hC.2.1 r hr).1 c).1, if_neg c, rowR_5, wR_5v]
theorem min_side (hI : Iv nf ns nr b) (hC : CM b v a) (hr : r < nr) : (b (14 + 2 * r) 2 < 0 → a (14 + 2 * r) 3 = b (14 + 2 * r) 3) ∧ (a (14 + 2 * r) 3 = b (14 + 2 * r) 3 ∨ a (14 + 2 * r) 3 = (b (14 + 2 * r) 3 + 1) - (b (14 + 2 * r) 3 + 1) / 4 * 4) := by
  have h16 : r < 16 := by have := hI.1; omega
  by_cases c : b (14 + 2 * r) 2 < 0
  · rw [((hC.2.1 r h16).2 c).1]; exact ⟨fun _ => rfl, Or.inl rfl⟩
  · refine ⟨fun z => absurd z c, ?_⟩
    rw [((hC.2.1 r h16).1 c).1, rowR_3, (nx_law (side_in hI hr)).2.2]
    split
    · exact Or.inr rfl
    · exact Or.inl rfl
theorem burnt_iff {κ : Kp} {k : Nat} : f_X2_burnt κ k = true ↔ ∃ w, w < 4 ∧ ¬ κ (k + 1) w ≤ 3 * κ k 1 + 30 := by
  have lp : ∀ n w, w + n = 4 → (lp_X2_burnt κ k n w = true ↔ ∃ x, w ≤ x ∧ x < 4 ∧ ¬ κ (k + 1) x ≤ 3 * κ k 1 + 30) := by
    intro n
    induction n with
    | zero =>
      intro w hw
      rw [lp_X2_burnt]
      exact ⟨fun z => (by cases z), fun ⟨x, h1, h2, _⟩ => (by omega)⟩
    | succ n ih =>
      intro w hw
      rw [lp_X2_burnt]
      by_cases c : κ (k + 1) w ≤ 3 * κ k 1 + 30
      · rw [if_pos c, ih (w + 1) (by omega)]
        exact ⟨fun ⟨x, h1, h2, h3⟩ => ⟨x, by omega, h2, h3⟩, fun ⟨x, h1, h2, h3⟩ => ⟨x, by
          rcases Nat.lt_or_ge w x with q | q
          · omega
          · rw [show x = w by omega] at h3; exact absurd c h3, h2, h3⟩⟩
      · rw [if_neg c]
        exact ⟨fun _ => ⟨w, Nat.le_refl _, by omega, c⟩, fun _ => rfl⟩
  have h := lp 4 0 rfl
  unfold f_X2_burnt
  constructor
  · intro q
    cases e : lp_X2_burnt κ k 4 0 with
    | false => rw [e] at q; cases q
    | true =>
      obtain ⟨x, h1, h2, h3⟩ := h.mp e
      exact ⟨x, h2, h3⟩
  · rintro ⟨x, h2, h3⟩
    rw [h.mpr ⟨x, Nat.zero_le _, h2, h3⟩]
theorem done_le {κ : Kp} {k : Nat} (h : f_X2_done κ k = true) : ∀ w, w < 4 → κ (k + 1) w ≤ 3 * κ k 1 + 30 := by
  have lp : ∀ n w, w + n = 4 → lp_X2_done κ k n w = true → ∀ x, w ≤ x → x < 4 → κ (k + 1) x ≤ 3 * κ k 1 + 30 := by
    intro n
    induction n with
    | zero => intro w hw _ x h1 h2; omega
    | succ n ih =>
      intro w hw hq x h1 h2
      rw [lp_X2_done] at hq
      by_cases c : κ (k + 1) w < 3 * κ k 1
      · rw [if_pos c] at hq; cases hq
      · rw [if_neg c] at hq
        by_cases d : κ (k + 1) w ≤ 3 * κ k 1 + 30
        · rw [if_pos d] at hq
          rcases Nat.lt_or_ge w x with q | q
          · exact ih (w + 1) (by omega) hq x (by omega) h2
          · rw [show x = w by omega]; exact d
        · rw [if_neg d] at hq; cases hq
  unfold f_X2_done at h
  cases e : lp_X2_done κ k 4 0 with
  | false => rw [e] at h; cases h
  | true => exact fun w hw => lp 4 0 rfl e w (Nat.zero_le _) hw
theorem not_both {κ : Kp} {k : Nat} (h1 : f_X2_burnt κ k = true) : f_X2_done κ k = false := by
  cases e : f_X2_done κ k with
  | false => rfl
  | true =>
    obtain ⟨w, hw, h⟩ := burnt_iff.mp h1
    exact absurd (done_le e w hw) h
theorem min_burnt (hI : Iv nf ns nr b) (hC : CM b v a) (hr : r < nr) (h : f_X2_burnt b (14 + 2 * r) = true) : f_X2_burnt a (14 + 2 * r) = true := by
  have h16 : r < 16 := by have := hI.1; omega
  obtain ⟨w, hw, h1⟩ := burnt_iff.mp h
  refine burnt_iff.mpr ⟨w, hw, fun z => h1 ?_⟩
  rw [min_pounds hC h16] at z
  rw [show 14 + 2 * r + 1 = 15 + 2 * r by omega] at z ⊢
  have hle : (b (15 + 2 * r) w).toInt ≤ (a (15 + 2 * r) w).toInt := by
    by_cases c : b (14 + 2 * r) 2 < 0
    · rw [((hC.2.1 r h16).2 c).2]; exact Int.le_refl _
    · obtain ⟨i, -, -, e1, -, e, hg⟩ := on_gt hI hr c
      rw [((hC.2.1 r h16).1 c).2]
      unfold rowB
      rw [e1]
      exact (bR_in (brown_in hI hr) (side_in hI hr) hg w hw).2
  rw [Int32.le_iff_toInt_le] at z ⊢
  omega
-- the fires
theorem mx_lo : ∀ (h : Nat), h < 10 → ∀ (c : Nat), c < 7 → mx (nI h + 1) ≤ mx (nI h + (nI c + 1)) ∧ mx (nI h + -1) ≤ mx (nI h + (nI c + -1)) := by decide +kernel
theorem mx_hi : ∀ (h : Nat), h < 10 → ∀ (c : Nat), c < 7 → ∀ (u : Nat), u < 7 → c ≤ u → mx (nI h + (nI c + 1)) ≤ (if nI h + 1 + nI u < 9 then nI h + 1 + nI u else 9) ∧ mx (nI h + (nI c + -1)) ≤ (if nI h + 1 + nI u < 9 then nI h + 1 + nI u else 9) := by decide +kernel
theorem heat_in (hI : Iv nf ns nr b) (hf : f < nf) : vp_in (b (5 + f) 1) 10 ∧ vp_in (b (5 + f) 0) 41 := by
  have h1 := hI.2.2.1.heat (i := f) (by have := hI.1; omega)
  have h0 := hI.2.2.1.logs (i := f) (by have := hI.1; omega)
  rw [if_pos hf] at h1 h0
  exact ⟨h1, h0⟩
theorem fI_le (κ : Kp) (i : Nat) : fI κ i ≤ 1 := by
  unfold fI
  split
  · decide
  · split <;> decide
theorem sm_n {g : Nat → Nat} (h : ∀ i, g i ≤ 1) : ∀ n, sm g n ≤ n := by
  intro n
  induction n with
  | zero => exact Nat.le_refl _
  | succ n ih => rw [sm]; have := h n; omega
theorem cf_le (κ : Kp) (f : Nat) : cf κ f 6 ≤ sm (fI κ) 6 ∧ sm (fI κ) 6 ≤ 6 := by
  refine ⟨sm_le 6 (fun i _ => ?_), sm_n (fI_le κ) 6⟩
  split
  · exact Nat.le_refl _
  · exact Nat.zero_le _
theorem min_fire (hI : Iv nf ns nr b) (hC : CM b v a) (hf : f < nf) : ∃ c u : Nat, v = nI u ∧ u < 7 ∧ c ≤ u ∧ a (5 + f) 0 = nL (b (5 + f) 0) (b 1 6) ∧ a (5 + f) 1 = mx (b (5 + f) 1 + (nI c + (if b (5 + f) 0 ≤ 0 then -1 else 1))) := by
  obtain ⟨h1, h2⟩ := cf_le b f
  refine ⟨cf b f 6, sm (fI b) 6, hC.2.2.2.2.2, by omega, h1, ?_, ?_⟩
  · rw [hC.2.2.1 f (by have := hI.1; omega)]
    unfold bF
    rw [va_up_ne _ _ (by decide), va_up_ne _ _ (by decide), va_up_self, va_up_ne _ _ (by decide)]
  · rw [hC.2.2.1 f (by have := hI.1; omega)]
    unfold bF nH
    rw [va_up_ne _ _ (by decide), va_up_self, va_up_self, va_up_ne _ _ (by decide), va_up_ne _ _ (by decide)]
theorem min_heat (hI : Iv nf ns nr b) (hC : CM b v a) (hf : f < nf) : mx (b (5 + f) 1 + (if b (5 + f) 0 ≤ 0 then -1 else 1)) ≤ a (5 + f) 1 ∧ (v = 0 → a (5 + f) 1 = mx (b (5 + f) 1 + (if b (5 + f) 0 ≤ 0 then -1 else 1))) ∧ a (5 + f) 1 ≤ (if b (5 + f) 1 + 1 + v < 9 then b (5 + f) 1 + 1 + v else 9) := by
  obtain ⟨c, u, ev, hu, hc, -, e1⟩ := min_fire hI hC hf
  obtain ⟨h, hh, eh⟩ := vp_in_of (heat_in hI hf).1 (by decide)
  rw [e1, ev, eh]
  have lo := mx_lo h hh c (by omega)
  have hi := mx_hi h hh c (by omega) u hu hc
  by_cases z : b (5 + f) 0 ≤ 0
  · rw [if_pos z]
    refine ⟨lo.2, fun q => ?_, hi.2⟩
    have : u = 0 := (nIeq (a := u) (b := 0) (by omega) (by decide)).mp q
    rw [show c = 0 by omega, show nI 0 + -1 = (-1 : Int32) from by decide]
  · rw [if_neg z]
    refine ⟨lo.1, fun q => ?_, hi.1⟩
    have : u = 0 := (nIeq (a := u) (b := 0) (by omega) (by decide)).mp q
    rw [show c = 0 by omega, show nI 0 + 1 = (1 : Int32) from by decide]
-- fat and drippings
def fatP (κ : Kp) : Nat → Int32
  | 0 => 0
  | j + 1 => fatP κ j + κ (14 + 2 * j) 4
def dripP (κ : Kp) : Nat → Int32
  | 0 => 0
  | j + 1 => dripP κ j + κ (8 + j) 4
def dF (b : Kp) (j : Nat) : Nat := if b (14 + 2 * j) 2 < 0 then 0 else if dr b (b (14 + 2 * j) 2).toNatClampNeg j = true then 1 else 0
def dS (b : Kp) (i : Nat) : Nat := if b (8 + i) 5 < 0 then 0 else if (dr b i (b (8 + i) 5).toNatClampNeg && !fu b i) = true then 1 else 0
theorem add4 (w x y z : Int32) : w + x + (y + z) = w + y + (z + x) := by
  rw [Int32.add_assoc w x, Int32.add_assoc w y, ← Int32.add_assoc x y z, Int32.add_comm x y, Int32.add_assoc y x z, Int32.add_comm x z]
theorem add5 (w x y z : Int32) : w + x + (y + z) = w + y + (x + z) := by
  rw [add4, Int32.add_comm z x]
theorem sub_add1 (x y : Int32) : x - y + y = x := Int32.sub_add_cancel x y
theorem fat_sum (hI : Iv nf ns nr b) (hC : CM b v a) : ∀ n, n ≤ nr → fatP b n = fatP a n + nI (sm (dF b) n) := by
  intro n
  induction n with
  | zero => intro _; rfl
  | succ n ih =>
    intro hn
    have h16 : n < 16 := by have := hI.1; omega
    rw [fatP, fatP, sm, ih (by omega), ← nI_add]
    have e : b (14 + 2 * n) 4 = a (14 + 2 * n) 4 + nI (dF b n) := by
      unfold dF
      by_cases c : b (14 + 2 * n) 2 < 0
      · rw [((hC.2.1 n h16).2 c).1, if_pos c]; exact (Int32.add_zero _).symm
      · rw [((hC.2.1 n h16).1 c).1, rowR_4, if_neg c]
        by_cases d : dr b (b (14 + 2 * n) 2).toNatClampNeg n = true
        · rw [if_pos d, if_pos d]; exact (sub_add1 _ _).symm
        · rw [if_neg d, if_neg d]; exact (Int32.add_zero _).symm
    rw [e]
    first | exact add4 _ _ _ _ | exact add5 _ _ _ _
theorem drip_sum (hC : CM b v a) : ∀ n, n ≤ 6 → dripP a n = dripP b n + nI (sm (dS b) n) := by
  intro n
  induction n with
  | zero => intro _; rfl
  | succ n ih =>
    intro hn
    rw [dripP, dripP, sm, ih (by omega), ← nI_add]
    have e : a (8 + n) 4 = b (8 + n) 4 + nI (dS b n) := by
      rw [hC.1 n (by omega)]
      unfold dS fS
      by_cases c : b (8 + n) 5 < 0
      · rw [if_pos c, if_pos c]; exact (Int32.add_zero _).symm
      · rw [if_neg c, if_neg c, rowS_4]
        by_cases d : (dr b n (b (8 + n) 5).toNatClampNeg && !fu b n) = true
        · rw [if_pos d, if_pos d]; rfl
        · rw [if_neg d, if_neg d]; exact (Int32.add_zero _).symm
    rw [e]
    first | exact add4 _ _ _ _ | exact add5 _ _ _ _
theorem both_sum (hI : Iv nf ns nr b) : sm (dF b) nr = sm (dS b) ns + sm (fI b) 6 := by
  obtain ⟨⟨hnf, hns, hnr, hpos⟩, -, hR, hZ, hM⟩ := hI
  have h1 := pair_sum hM hns hnr (fun i j => if dr b i j = true then 1 else 0)
  have h2 : sm (fI b) 6 = sm (fI b) ns := sm_ext hns (fun i h1 h2 => by
    unfold fI
    rw [if_pos (fI_out hM h2 h1)])
  rw [show sm (dF b) nr = _ from h1, h2, ← sm_add]
  refine sm_congr ns (fun i hi => ?_)
  unfold dS fI
  by_cases c : b (8 + i) 5 < 0
  · rw [if_pos c, if_pos c, if_pos c]
  · rw [if_neg c, if_neg c, if_neg c]
    cases dr b i (b (8 + i) 5).toNatClampNeg <;> cases fu b i <;> rfl
theorem min_sums (hI : Iv nf ns nr b) (hC : CM b v a) : fatP b nr - fatP a nr = dripP a ns - dripP b ns + v := by
  have hns : ns ≤ 6 := hI.1.2.1
  rw [fat_sum hI hC nr (Nat.le_refl _), drip_sum hC ns hns, hC.2.2.2.2.2, both_sum hI, ← nI_add]
  rw [Int32.add_comm (fatP a nr), Int32.add_sub_cancel, Int32.add_comm (dripP b ns), Int32.add_sub_cancel]
end LAWS
