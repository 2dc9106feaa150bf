def mx (x : Int32) : Int32 := if 0 < (if x < 9 then x else 9) then (if x < 9 then x else 9) else 0
theorem mx_in (x : Int32) : vp_in (mx x) 10 := by
  unfold mx
  by_cases c : x < 9
  · rw [if_pos c]
    by_cases c2 : 0 < x
    · rw [if_pos c2, vp_in_iff]
      rw [Int32.lt_iff_toInt_lt] at c c2
      have e0 : (0 : Int32).toInt = 0 := rfl
      have e9 : (9 : Int32).toInt = 9 := rfl
      omega
    · rw [if_neg c2]; exact vin_lit (by decide)
  · rw [if_neg c, if_pos (by decide)]; exact vin_lit (by decide)
/-- logs and heat behind a minute -/
def nL (l m : Int32) : Int32 := if l ≤ 0 then l else if m - m / 5 * 5 = 0 then l - 1 else l
def nH (l h fl : Int32) : Int32 := mx (h + (fl + (if l ≤ 0 then -1 else 1)))
def bF (r : Nat → Int32) (m : Int32) : Nat → Int32 := va_up (va_up (va_up r 0 (nL (r 0) m)) 1 (nH (r 0) (r 1) (r 2))) 2 0
theorem burn_eq (κ : Kp) (k : Nat) (m : Int32) : f_X0_burn κ k m = va_up κ k (bF (κ k) m) := by
  have e : ∀ (l h fl d : Int32) , h + (fl + d) = h + (fl + d) := fun _ _ _ _ => rfl
  unfold f_X0_burn bF nL nH
  by_cases c : κ k 0 ≤ 0
  · simp only [if_pos c]
    show va_up (up2 κ k 1 _) k (va_up (up2 κ k 1 _ k) 2 0) = _
    rw [show ∀ v, up2 κ k 1 v k = va_up (κ k) 1 v from fun v => va_up_self _ _ _]
    unfold up2
    rw [va_up_up, va_up_id (κ k) 0]
    rfl
  · simp only [if_neg c]
    by_cases c2 : m - m / 5 * 5 = 0
    · simp only [if_pos c2]
      have e1 : up2 κ k 0 (κ k 0 - 1) k 1 = κ k 1 := up2_ne _ _ (Or.inr (by decide))
      have er : up2 κ k 0 (κ k 0 - 1) k = va_up (κ k) 0 (κ k 0 - 1) := va_up_self _ _ _
      rw [e1]
      show va_up (up2 (up2 κ k 0 (κ k 0 - 1)) k 1 _) k (va_up (up2 (up2 κ k 0 (κ k 0 - 1)) k 1 _ k) 2 0) = _
      rw [show ∀ v, up2 (up2 κ k 0 (κ k 0 - 1)) k 1 v k = va_up (up2 κ k 0 (κ k 0 - 1) k) 1 v from fun v => va_up_self _ _ _, er]
      unfold up2
      rw [va_up_up, va_up_up]
      rfl
    · simp only [if_neg c2]
      show va_up (up2 κ k 1 _) k (va_up (up2 κ k 1 _ k) 2 0) = _
      rw [show ∀ v, up2 κ k 1 v k = va_up (κ k) 1 v from fun v => va_up_self _ _ _]
      unfold up2
      rw [va_up_up, va_up_id (κ k) 0]
      rfl
theorem burns : ∀ (n t : Nat) (κ : Kp), t + n = 3 → (∀ f, f < 3 → lp_X1_goMinute_54 1 n t κ (5 + f) = if t ≤ f then bF (κ (5 + f)) (κ 1 6) else κ (5 + f)) ∧ ∀ q, q < 5 ∨ 8 ≤ q → lp_X1_goMinute_54 1 n t κ q = κ q := by
  intro n
  induction n with
  | zero =>
    intro t κ ht
    refine ⟨fun f hf => ?_, fun q _ => rfl⟩
    rw [if_neg (by omega)]; rfl
  | succ n ih =>
    intro t κ ht
    have e : lp_X1_goMinute_54 1 (n + 1) t κ = lp_X1_goMinute_54 1 n (t + 1) (va_up κ (5 + t) (bF (κ (5 + t)) (κ 1 6))) := by
      show lp_X1_goMinute_54 1 n (t + 1) (f_X0_burn κ (5 + t) (κ 1 6)) = _
      rw [burn_eq]
    obtain ⟨h1, h2⟩ := ih (t + 1) (va_up κ (5 + t) (bF (κ (5 + t)) (κ 1 6))) (by omega)
    rw [e]
    refine ⟨fun f hf => ?_, fun q hq => ?_⟩
    · rw [h1 f hf, va_up_ne κ _ (show (1 : Nat) ≠ 5 + t by omega)]
      by_cases c : f = t
      · subst c
        rw [if_neg (by omega), if_pos (Nat.le_refl f), va_up_self]
      · rw [va_up_ne κ _ (show 5 + f ≠ 5 + t by omega)]
        by_cases c2 : t ≤ f
        · rw [if_pos (by omega), if_pos c2]
        · rw [if_neg (by omega), if_neg c2]
    · rw [h2 q hq, va_up_ne κ _ (by omega)]
/-- a minute of the class's kitchen -/
def CM (κ : Kp) (v : Int32) (κ' : Kp) : Prop :=
  (∀ i, i < 6 → κ' (8 + i) = fS κ i) ∧
  (∀ j, j < 16 → (¬ κ (14 + 2 * j) 2 < 0 → κ' (14 + 2 * j) = rowR κ (κ (14 + 2 * j) 2).toNatClampNeg j ∧ κ' (15 + 2 * j) = rowB κ (κ (14 + 2 * j) 2).toNatClampNeg j) ∧ (κ (14 + 2 * j) 2 < 0 → κ' (14 + 2 * j) = κ (14 + 2 * j) ∧ κ' (15 + 2 * j) = κ (15 + 2 * j))) ∧
  (∀ f, f < 3 → κ' (5 + f) = bF (va_up (κ (5 + f)) 2 (nI (cf κ f 6))) (κ 1 6)) ∧ κ' 1 = va_up (κ 1) 6 (κ 1 6 + 1) ∧ (∀ q, q ≠ 1 → q < 5 ∨ 46 ≤ q → κ' q = κ q) ∧ v = nI (sm (fI κ) 6)
theorem class_minute {nf ns nr : Nat} {κ : Kp} (hI : Iv nf ns nr κ) : ∃ (v : Int32) (κ' : Kp), f_X1_goMinute κ 1 = (v, κ') ∧ CM κ v κ' := by
  obtain ⟨v, κ1, e1, l1, l2, l3, l4, l5⟩ := LI_all hI 6 0 0 κ rfl (LI_0 κ (fun f hf => hI.2.2.1.flar hf))
  obtain ⟨b1, b2⟩ := burns 3 0 κ1 rfl
  obtain ⟨⟨hnf, hns, hnr, hpos⟩, -, hR, hZ, hM⟩ := hI
  unfold f_X1_goMinute
  rw [e1]
  dsimp only
  generalize lp_X1_goMinute_54 1 3 0 κ1 = κ2 at b1 b2
  have e21 : κ2 1 = κ 1 := (b2 1 (by decide)).trans (l4 1 (by decide))
  have e11 : κ1 1 = κ 1 := l4 1 (by decide)
  refine ⟨v, _, rfl, fun i hi => ?_, fun j hj => ⟨fun h0 => ?_, fun h0 => ?_⟩, fun f hf => ?_, ?_, fun q h1 hq => ?_, l5⟩
  · rw [up2_row (by omega), b2 _ (by omega)]
    exact (l1 i hi).1 hi
  · rw [up2_row (by omega), up2_row (by omega), b2 _ (by omega), b2 _ (by omega)]
    obtain ⟨i, q1, q2, q3, q4, q5⟩ := hM.sp hns hj h0
    exact (l2 j hj).1 ⟨h0, by omega⟩
  · rw [up2_row (by omega), up2_row (by omega), b2 _ (by omega), b2 _ (by omega)]
    exact (l2 j hj).2 (fun z => z.1 h0)
  · rw [up2_row (by omega), b1 f hf, if_pos (Nat.zero_le f), l3 f hf, e11]
  · show va_up κ2 1 (va_up (κ2 1) 6 (κ2 1 6 + 1)) 1 = _
    rw [va_up_self, e21]
  · rw [up2_row h1, b2 q (by omega)]
    exact l4 q hq
section RNG
variable {nf ns nr : Nat} {κ κ' : Kp} {v : Int32}
theorem gl_in (hI : Iv nf ns nr κ) {i : Nat} (hi : i < ns) : vp_in (gl κ i) 10 := by
  obtain ⟨⟨hnf, hns, hnr, hpos⟩, -, hR, hZ, -⟩ := hI
  obtain ⟨f, hf, ef⟩ := vp_in_of (hR.fire hi hns (by omega)) (by omega)
  have hh := hR.heat (i := f) (by omega)
  rw [if_pos hf] at hh
  obtain ⟨h, hh1, eh⟩ := vp_in_of hh (by decide)
  obtain ⟨w, hw1, ew⟩ := vp_in_of (hR.feet hi hns) (by decide)
  have hw0 : w ≠ 0 := fun z => hZ.1 i hi (by rw [ew, z]; rfl)
  unfold gl
  rw [ef, nI_clamp (by omega), eh, ew, pk_div (by omega) (by omega) (by omega)]
  exact vp_in_nI (Nat.lt_of_le_of_lt (Nat.div_le_self h w) hh1) (by decide)
theorem gG_in {wet a : Int32} (h : vp_in a 10) : vp_in (gG wet a) 10 := by
  obtain ⟨n, hn, rfl⟩ := vp_in_of h (by decide)
  have h1 : ∀ n : Nat, n < 10 → (if 0 < nI n - 1 then nI n - 1 else (0 : Int32)) = nI (n - 1) := by decide
  unfold gG
  by_cases c : wet ≤ 0
  · rw [if_pos c]; exact h
  · rw [if_neg c, h1 n hn]; exact vp_in_nI (by omega) (by decide)
theorem d3_in {a : Int32} (h : vp_in a 10) : vp_in (a / 3) 10 := by
  obtain ⟨n, hn, rfl⟩ := vp_in_of h (by decide)
  have h1 : ∀ n : Nat, n < 10 → (nI n / 3 : Int32) = nI (n / 3) := by decide
  rw [h1 n hn]
  exact vp_in_nI (by omega) (by decide)
/-- a side gets browner, and stays below 100 -/
theorem bw_in {x m : Int32} (hx : vp_in x 100) (hm : vp_in m 10) : vp_in (if x + m ≤ 99 then x + m else 99) 100 ∧ x.toInt ≤ (if x + m ≤ 99 then x + m else 99 : Int32).toInt := by
  obtain ⟨b, hb, rfl⟩ := vp_in_of hx (by decide)
  obtain ⟨g, hg, rfl⟩ := vp_in_of hm (by decide)
  rw [nI_add]
  by_cases c : b + g ≤ 99
  · rw [if_pos (show nI (b + g) ≤ (99 : Int32) from (nIle (a := b + g) (b := 99) (by omega) (by decide)).mpr c), nI_toInt (by omega), nI_toInt (by omega)]
    exact ⟨vp_in_nI (by omega) (by decide), by omega⟩
  · rw [if_neg (show ¬ nI (b + g) ≤ (99 : Int32) from fun q => c ((nIle (a := b + g) (b := 99) (by omega) (by decide)).mp q)), nI_toInt (by omega)]
    exact ⟨(vp_in_nI (n := 99) (by decide) (by decide) : vp_in (nI 99) 100), by show (b : Int) ≤ 99; omega⟩
theorem b1_in {r : Nat → Int32} {s m : Int32} (hr : ∀ w, w < 4 → vp_in (r w) 100) (hs : vp_in s 4) (hm : vp_in m 10) : ∀ w, w < 4 → vp_in (b1 r s m w) 100 ∧ (r w).toInt ≤ (b1 r s m w).toInt := by
  intro w hw
  unfold b1
  by_cases e : w = s.toNatClampNeg
  · subst e
    rw [va_up_self]; exact bw_in (hr _ hw) hm
  · rw [va_up_ne _ _ e]; exact ⟨hr w hw, Int.le_refl _⟩
theorem bR_in {r : Nat → Int32} {s g : Int32} (hr : ∀ w, w < 4 → vp_in (r w) 100) (hs : vp_in s 4) (hg : vp_in g 10) : ∀ w, w < 4 → vp_in (bR r s g w) 100 ∧ (r w).toInt ≤ (bR r s g w).toInt := by
  intro w hw
  have h1 := b1_in hr hs hg
  have h2 := b1_in (fun w hw => (h1 w hw).1) (nx_in hs).1 (d3_in hg)
  have h3 := b1_in (fun w hw => (h2 w hw).1) (nx_in hs).2 (d3_in hg)
  exact ⟨(h3 w hw).1, Int.le_trans (h1 w hw).2 (Int.le_trans (h2 w hw).2 (h3 w hw).2)⟩
theorem lit_n {n : Nat} {x : Int32} (h : vp_in x n) (hn : n < 2 ^ 31) (h0 : 0 < x) : ∃ k, k < n ∧ 0 < k ∧ x = nI k := by
  obtain ⟨k, hk, rfl⟩ := vp_in_of h hn
  refine ⟨k, hk, ?_, rfl⟩
  have := (nIlt (a := 0) (b := k) (by decide) (by omega)).mp h0
  exact this
theorem nI_sub1 {k : Nat} (h : 0 < k) : nI k - 1 = nI (k - 1) := by
  obtain ⟨j, rfl⟩ : ∃ j, k = j + 1 := ⟨k - 1, by omega⟩
  rw [← nI_1, Int32.add_sub_cancel]
  rfl
theorem nL_in {l m : Int32} {n : Nat} (h : vp_in l n) (hn : n < 2 ^ 31) : vp_in (nL l m) n := by
  unfold nL
  by_cases c : l ≤ 0
  · rw [if_pos c]; exact h
  · rw [if_neg c]
    split
    · obtain ⟨k, hk, h0, e⟩ := lit_n h hn (Int32.not_le.mp c)
      rw [e, nI_sub1 h0]; exact vp_in_nI (by omega) hn
    · exact h
theorem wR_5 (r : Nat → Int32) {n : Nat} (h : vp_in (r 5) n) (hn : n < 2 ^ 31) : vp_in (wR r 5) n := by
  unfold wR
  by_cases c : r 5 ≤ 0
  · rw [if_pos c]; exact h
  · rw [if_neg c, va_up_self]
    obtain ⟨k, hk, h0, e⟩ := lit_n h hn (Int32.not_le.mp c)
    rw [e, nI_sub1 h0]; exact vp_in_nI (by omega) hn
theorem rowR_5 (κ : Kp) (i j : Nat) : rowR κ i j 5 = wR (κ (14 + 2 * j)) 5 := by
  unfold rowR rowR1
  split <;> split <;> first | rfl | (rw [va_up_ne _ _ (by decide), va_up_ne _ _ (by decide)]) | (rw [va_up_ne _ _ (by decide)])
theorem rowR_4 (κ : Kp) (i j : Nat) : rowR κ i j 4 = if dr κ i j = true then κ (14 + 2 * j) 4 - 1 else κ (14 + 2 * j) 4 := by
  have h : rowR κ i j 4 = rowR1 κ i j 4 := by
    unfold rowR
    split
    · exact va_up_ne _ _ (by decide)
    · rfl
  rw [h]
  unfold rowR1
  split
  · rw [va_up_self]
  · exact wR_at _ (by decide)
theorem rowR_3 (κ : Kp) (i j : Nat) : rowR κ i j 3 = if tu κ i = true then f_X2_nextSide (κ (14 + 2 * j) 3) else κ (14 + 2 * j) 3 := by
  unfold rowR
  split
  · rw [va_up_self]
  · exact rowR1_at κ i j (by decide) (by decide)
theorem rowS_at (κ : Kp) (i j : Nat) {f : Nat} (h3 : f ≠ 3) (h4 : f ≠ 4) : rowS κ i j f = κ (8 + i) f := by
  unfold rowS
  rw [va_up_ne _ _ h3]
  split
  · exact va_up_ne _ _ h4
  · rfl
theorem rowS_4 (κ : Kp) (i j : Nat) : rowS κ i j 4 = if (dr κ i j && !fu κ i) = true then κ (8 + i) 4 + 1 else κ (8 + i) 4 := by
  unfold rowS
  rw [va_up_ne _ _ (by decide)]
  split
  · rw [va_up_self]
  · rfl
theorem fS_at (κ : Kp) (i : Nat) {f : Nat} (h3 : f ≠ 3) (h4 : f ≠ 4) : fS κ i f = κ (8 + i) f := by
  unfold fS
  split
  · rfl
  · exact rowS_at κ i _ h3 h4
theorem dr_fat {i j : Nat} (h : dr κ i j = true) : 0 < κ (14 + 2 * j) 4 := by
  unfold dr at h
  rw [Bool.and_eq_true] at h
  exact of_decide_eq_true h.2
theorem cf_0 (hI : Iv nf ns nr κ) {f : Nat} (hf : nf ≤ f) (hf3 : f < 3) : cf κ f 6 = 0 := by
  obtain ⟨⟨hnf, hns, hnr, hpos⟩, -, hR, hZ, hM⟩ := hI
  refine sm_0 6 (fun i hi => ?_)
  by_cases c : κ (8 + i) 0 = nI f
  · rw [if_pos c]
    unfold fI
    by_cases h0 : κ (8 + i) 5 < 0
    · rw [if_pos h0]
    · obtain ⟨j, q1, -⟩ := hM.hd hnr hi h0
      obtain ⟨g, hg, eg⟩ := vp_in_of (hR.fire q1 hns (by omega)) (by omega)
      rw [eg] at c
      have := (nIeq (by omega) (by omega)).mp c
      omega
  · rw [if_neg c]
end RNG
