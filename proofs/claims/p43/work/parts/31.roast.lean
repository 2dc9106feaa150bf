/-! A MINUTE OF ONE ROAST, in the class and in the law. -/
/-- one side gets browner -/
def b1 (r : Nat → Int32) (s m : Int32) : Nat → Int32 := va_up r s.toNatClampNeg (if r s.toNatClampNeg + m ≤ 99 then r s.toNatClampNeg + m else 99)
/-- the side to the fire, and the two beside it -/
def bR (r : Nat → Int32) (sd got : Int32) : Nat → Int32 := b1 (b1 (b1 r sd got) (f_X2_nextSide sd) (got / 3)) (f_X2_sideBefore sd) (got / 3)
/-- what it gets of the glow a -/
def gG (wet a : Int32) : Int32 := if wet ≤ 0 then a else if 0 < a - 1 then a - 1 else 0
theorem va_up_id {α : Type} (f : Nat → α) (k : Nat) : va_up f k (f k) = f := by
  funext q
  by_cases h : q = k
  · subst h; rw [va_up_self]
  · rw [va_up_ne _ _ h]
theorem va_up_swap {α : Type} (f : Nat → α) {k q : Nat} (a b : α) (h : k ≠ q) : va_up (va_up f k a) q b = va_up (va_up f q b) k a := by
  funext x
  by_cases h1 : x = q
  · subst h1; rw [va_up_self, va_up_ne _ _ (Ne.symm h), va_up_self]
  · rw [va_up_ne _ _ h1]
    by_cases h2 : x = k
    · subst h2; rw [va_up_self, va_up_self]
    · rw [va_up_ne _ _ h2, va_up_ne _ _ h2, va_up_ne _ _ h1]
theorem sd4 {s : Int32} (h : vp_in s 4) : ¬ s < 0 ∧ ¬ (4 : Int32) ≤ s := by
  obtain ⟨n, hn, rfl⟩ := vp_in_of h (by decide)
  have h1 : ∀ n : Nat, n < 4 → ¬ nI n < 0 ∧ ¬ (4 : Int32) ≤ nI n := by decide
  exact h1 n hn
theorem brow_eq {κ : Kp} {p : Nat} {s m : Int32} (hs : vp_in s 4) : f_X2_getBrowner κ p s m = va_up κ (p + 1) (b1 (κ (p + 1)) s m) := by
  unfold f_X2_getBrowner b1
  rw [if_neg (sd4 hs).1, if_neg (sd4 hs).2]
  dsimp only
  split
  · rfl
  · rfl
theorem tan_eq {κ : Kp} {p : Nat} {s m : Int32} : f_X5_tan κ p s m = va_up κ (p + 1) (b1 (κ (p + 1)) s m) := by
  unfold f_X5_tan b1
  dsimp only
  split
  · rfl
  · rfl
theorem nx_in {s : Int32} (h : vp_in s 4) : vp_in (f_X2_nextSide s) 4 ∧ vp_in (f_X2_sideBefore s) 4 := by
  obtain ⟨n, hn, rfl⟩ := vp_in_of h (by decide)
  have h1 : ∀ n : Nat, n < 4 → f_X2_nextSide (nI n) = nI ((n + 1) % 4) ∧ f_X2_sideBefore (nI n) = nI ((n + 3) % 4) := by decide
  rw [(h1 n hn).1, (h1 n hn).2]
  exact ⟨vp_in_nI (Nat.mod_lt _ (by decide)) (by decide), vp_in_nI (Nat.mod_lt _ (by decide)) (by decide)⟩
/-- the law's words for the sides beside -/
theorem nx_law {s : Int32} (h : vp_in s 4) : (if s = 3 then 0 else s + 1) = f_X2_nextSide s ∧ (if s = 0 then 3 else s - 1) = f_X2_sideBefore s ∧ (s + 1) - (s + 1) / 4 * 4 = f_X2_nextSide s := by
  obtain ⟨n, hn, rfl⟩ := vp_in_of h (by decide)
  have h1 : ∀ n : Nat, n < 4 → (if nI n = 3 then 0 else nI n + 1) = f_X2_nextSide (nI n) ∧ (if nI n = 0 then 3 else nI n - 1) = f_X2_sideBefore (nI n) ∧ (nI n + 1) - (nI n + 1) / 4 * 4 = f_X2_nextSide (nI n) := by decide
  exact h1 n hn
theorem b1_row {κ : Kp} {p q : Nat} {r : Nat → Int32} (h : q ≠ p) : va_up κ p r q = κ q := va_up_ne _ _ h
/-- the three sides of a row in a world -/
theorem three_eq {κ : Kp} {p : Nat} {sd got : Int32} (hs : vp_in sd 4) : f_X2_getBrowner (f_X2_getBrowner (f_X2_getBrowner κ p sd got) p (f_X2_nextSide sd) (got / 3)) p (f_X2_sideBefore sd) (got / 3) = va_up κ (p + 1) (bR (κ (p + 1)) sd got) := by
  rw [brow_eq hs, brow_eq (nx_in hs).1, brow_eq (nx_in hs).2, va_up_self, va_up_up, va_up_self, va_up_up]
  rfl
theorem brow_own {κ : Kp} {p : Nat} {s m : Int32} : f_X2_getBrowner κ p s m p = κ p := by
  unfold f_X2_getBrowner
  split
  · rfl
  · split
    · rfl
    · dsimp only
      split
      · exact up2_row (by omega)
      · exact up2_row (by omega)
/-- the class: the roast at p, its sides at p + 1 -/
def wR (r : Nat → Int32) : Nat → Int32 := if r 5 ≤ 0 then r else va_up r 5 (r 5 - 1)
theorem glow_eq {κ : Kp} {p : Nat} {a : Int32} (hs : vp_in (κ p 3) 4) : f_X2_getGlow κ p a = (gG (κ p 5) a, va_up (va_up κ p (wR (κ p))) (p + 1) (bR (κ (p + 1)) (κ p 3) (gG (κ p 5) a))) := by
  unfold f_X2_getGlow gG wR
  by_cases c : κ p 5 ≤ 0
  · rw [if_pos c, if_pos c, if_pos c]
    dsimp only
    rw [brow_own, brow_own, brow_own, three_eq hs, va_up_id]
  · rw [if_neg c, if_neg c, if_neg c]
    dsimp only
    rw [brow_own, brow_own, brow_own]
    have e3 : up2 κ p 5 (κ p 5 - 1) p 3 = κ p 3 := up2_ne _ _ (Or.inr (by decide))
    rw [e3, three_eq hs, show up2 κ p 5 (κ p 5 - 1) (p + 1) = κ (p + 1) from up2_row (by omega)]
    rfl
/-- the law: the roast at k, its sides at k + 1 -/
def wS (r : Nat → Int32) (a : Int32) : Nat → Int32 := if r 4 ≤ 0 then va_up r 5 (gG (r 4) a) else va_up (va_up r 5 (gG (r 4) a)) 4 (r 4 - 1)
theorem gG_law {a : Int32} (h : vp_in a 10) : (if a < 1 then 0 else a - 1) = if 0 < a - 1 then a - 1 else 0 := by
  obtain ⟨n, hn, rfl⟩ := vp_in_of h (by decide)
  have h1 : ∀ n : Nat, n < 10 → (if nI n < 1 then 0 else nI n - 1) = if 0 < nI n - 1 then nI n - 1 else (0 : Int32) := by decide
  exact h1 n hn
theorem lthree_eq {κ : Kp} {p : Nat} {sd got : Int32} (hs : vp_in sd 4) : f_X5_tan (f_X5_tan (f_X5_tan κ p sd got) p (f_X2_nextSide sd) (got / 3)) p (f_X2_sideBefore sd) (got / 3) = va_up κ (p + 1) (bR (κ (p + 1)) sd got) := by
  rw [tan_eq, tan_eq, tan_eq, va_up_self, va_up_up, va_up_self, va_up_up]
  rfl
/-- the last two tans of gets -/
theorem gets_tail {κ : Kp} {k : Nat} (hs : vp_in (κ k 2) 4) : (if κ k 2 = 3 then (if f_X5_tan κ k 0 (κ k 5 / 3) k 2 = 0 then f_X5_tan (f_X5_tan κ k 0 (κ k 5 / 3)) k 3 (f_X5_tan κ k 0 (κ k 5 / 3) k 5 / 3) else f_X5_tan (f_X5_tan κ k 0 (κ k 5 / 3)) k (f_X5_tan κ k 0 (κ k 5 / 3) k 2 - 1) (f_X5_tan κ k 0 (κ k 5 / 3) k 5 / 3)) else (if f_X5_tan κ k (κ k 2 + 1) (κ k 5 / 3) k 2 = 0 then f_X5_tan (f_X5_tan κ k (κ k 2 + 1) (κ k 5 / 3)) k 3 (f_X5_tan κ k (κ k 2 + 1) (κ k 5 / 3) k 5 / 3) else f_X5_tan (f_X5_tan κ k (κ k 2 + 1) (κ k 5 / 3)) k (f_X5_tan κ k (κ k 2 + 1) (κ k 5 / 3) k 2 - 1) (f_X5_tan κ k (κ k 2 + 1) (κ k 5 / 3) k 5 / 3))) = f_X5_tan (f_X5_tan κ k (f_X2_nextSide (κ k 2)) (κ k 5 / 3)) k (f_X2_sideBefore (κ k 2)) (κ k 5 / 3) := by
  obtain ⟨n1, n2, -⟩ := nx_law hs
  rw [← n1, ← n2]
  simp only [tan_side]
  by_cases c : κ k 2 = 3
  · rw [if_pos c, if_pos c]
    by_cases c2 : κ k 2 = 0
    · rw [if_pos c2, if_pos c2]
    · rw [if_neg c2, if_neg c2]
  · rw [if_neg c, if_neg c]
    by_cases c2 : κ k 2 = 0
    · rw [if_pos c2, if_pos c2]
    · rw [if_neg c2, if_neg c2]
theorem gets_eq {κ : Kp} {k : Nat} {a : Int32} (hs : vp_in (κ k 2) 4) (ha : vp_in a 10) : f_X5_gets κ k a = va_up (va_up κ k (wS (κ k) a)) (k + 1) (bR (κ (k + 1)) (κ k 2) (gG (κ k 4) a)) := by
  have hg := gG_law ha
  -- behind the wet minute: got in field 5, the side as it was
  have tail : ∀ κ1 : Kp, κ1 k 2 = κ k 2 → κ1 (k + 1) = κ (k + 1) → κ1 k 5 = gG (κ k 4) a → f_X5_tan (f_X5_tan (f_X5_tan κ1 k (κ1 k 2) (κ1 k 5)) k (f_X2_nextSide (f_X5_tan κ1 k (κ1 k 2) (κ1 k 5) k 2)) (f_X5_tan κ1 k (κ1 k 2) (κ1 k 5) k 5 / 3)) k (f_X2_sideBefore (f_X5_tan κ1 k (κ1 k 2) (κ1 k 5) k 2)) (f_X5_tan κ1 k (κ1 k 2) (κ1 k 5) k 5 / 3) = va_up κ1 (k + 1) (bR (κ (k + 1)) (κ k 2) (gG (κ k 4) a)) := by
    intro κ1 e2 er e5
    rw [tan_side, e2, e5, lthree_eq hs, er]
  have hs1 : ∀ κ1 : Kp, κ1 k 2 = κ k 2 → ∀ x y : Int32, vp_in (f_X5_tan κ1 k x y k 2) 4 := fun κ1 e x y => by rw [tan_side, e]; exact hs
  unfold f_X5_gets
  dsimp only
  by_cases c : κ k 4 ≤ 0
  · have e4 : up2 κ k 5 a k 4 = κ k 4 := up2_ne _ _ (Or.inr (by decide))
    have e2 : up2 κ k 5 a k 2 = κ k 2 := up2_ne _ _ (Or.inr (by decide))
    have e5 : up2 κ k 5 a k 5 = gG (κ k 4) a := by rw [up2_self]; unfold gG; rw [if_pos c]
    rw [if_pos c, if_pos (by rw [e4]; exact c), gets_tail (hs1 _ e2 _ _), tail _ e2 (up2_row (by omega)) e5]
    unfold wS
    rw [if_pos c]
    unfold gG
    rw [if_pos c]
    rfl
  · have e4 : ∀ v, up2 κ k 5 v k 4 = κ k 4 := fun v => up2_ne _ _ (Or.inr (by decide))
    have hr : ∀ v : Int32, v = gG (κ k 4) a → f_X5_tan (f_X5_tan (f_X5_tan (up2 (up2 κ k 5 v) k 4 (up2 κ k 5 v k 4 - 1)) k (up2 (up2 κ k 5 v) k 4 (up2 κ k 5 v k 4 - 1) k 2) (up2 (up2 κ k 5 v) k 4 (up2 κ k 5 v k 4 - 1) k 5)) k (f_X2_nextSide (f_X5_tan (up2 (up2 κ k 5 v) k 4 (up2 κ k 5 v k 4 - 1)) k (up2 (up2 κ k 5 v) k 4 (up2 κ k 5 v k 4 - 1) k 2) (up2 (up2 κ k 5 v) k 4 (up2 κ k 5 v k 4 - 1) k 5) k 2)) (f_X5_tan (up2 (up2 κ k 5 v) k 4 (up2 κ k 5 v k 4 - 1)) k (up2 (up2 κ k 5 v) k 4 (up2 κ k 5 v k 4 - 1) k 2) (up2 (up2 κ k 5 v) k 4 (up2 κ k 5 v k 4 - 1) k 5) k 5 / 3)) k (f_X2_sideBefore (f_X5_tan (up2 (up2 κ k 5 v) k 4 (up2 κ k 5 v k 4 - 1)) k (up2 (up2 κ k 5 v) k 4 (up2 κ k 5 v k 4 - 1) k 2) (up2 (up2 κ k 5 v) k 4 (up2 κ k 5 v k 4 - 1) k 5) k 2)) (f_X5_tan (up2 (up2 κ k 5 v) k 4 (up2 κ k 5 v k 4 - 1)) k (up2 (up2 κ k 5 v) k 4 (up2 κ k 5 v k 4 - 1) k 2) (up2 (up2 κ k 5 v) k 4 (up2 κ k 5 v k 4 - 1) k 5) k 5 / 3) = va_up (va_up κ k (wS (κ k) a)) (k + 1) (bR (κ (k + 1)) (κ k 2) (gG (κ k 4) a)) := by
      intro v hv
      have a2 : up2 (up2 κ k 5 v) k 4 (up2 κ k 5 v k 4 - 1) k 2 = κ k 2 := (up2_ne _ _ (Or.inr (by decide))).trans (up2_ne _ _ (Or.inr (by decide)))
      have a5 : up2 (up2 κ k 5 v) k 4 (up2 κ k 5 v k 4 - 1) k 5 = gG (κ k 4) a := ((up2_ne _ _ (Or.inr (by decide))).trans (up2_self _ _ _ _)).trans hv
      have ar : up2 (up2 κ k 5 v) k 4 (up2 κ k 5 v k 4 - 1) (k + 1) = κ (k + 1) := (up2_row (by omega)).trans (up2_row (by omega))
      rw [tail _ a2 ar a5]
      have ew : up2 (up2 κ k 5 v) k 4 (up2 κ k 5 v k 4 - 1) = va_up κ k (wS (κ k) a) := by
        rw [e4]
        unfold wS
        rw [if_neg c, hv]
        show va_up (va_up κ k (va_up (κ k) 5 (gG (κ k 4) a))) k (va_up (va_up κ k (va_up (κ k) 5 (gG (κ k 4) a)) k) 4 (κ k 4 - 1)) = _
        rw [va_up_self, va_up_up]
      rw [ew]
    have a2 : ∀ v : Int32, up2 (up2 κ k 5 v) k 4 (up2 κ k 5 v k 4 - 1) k 2 = κ k 2 := fun v => (up2_ne _ _ (Or.inr (by decide))).trans (up2_ne _ _ (Or.inr (by decide)))
    have hG : gG (κ k 4) a = if a < 1 then 0 else a - 1 := by
      unfold gG; rw [if_neg c]; exact hg.symm
    rw [if_neg c]
    by_cases c1 : a < 1
    · rw [if_pos c1] at hG
      rw [if_neg (Int32.not_le.mpr c1), if_neg (by rw [e4]; exact c), gets_tail (hs1 _ (a2 _) _ _)]
      exact hr 0 hG.symm
    · rw [if_neg c1] at hG
      rw [if_pos (Int32.not_lt.mp c1), if_neg (by rw [e4]; exact c), gets_tail (hs1 _ (a2 _) _ _)]
      exact hr _ hG.symm
