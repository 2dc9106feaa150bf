/-- sums -/
def sm (f : Nat → Nat) : Nat → Nat
  | 0 => 0
  | n + 1 => sm f n + f n
theorem sm_congr {f g : Nat → Nat} : ∀ n : Nat, (∀ i, i < n → f i = g i) → sm f n = sm g n := by
  intro n
  induction n with
  | zero => intro _; rfl
  | succ n ih => intro h; show sm f n + f n = sm g n + g n; rw [ih (fun i hi => h i (by omega)), h n (by omega)]
theorem sm_0 {f : Nat → Nat} : ∀ n : Nat, (∀ i, i < n → f i = 0) → sm f n = 0 := by
  intro n
  induction n with
  | zero => intro _; rfl
  | succ n ih => intro h; show sm f n + f n = 0; rw [ih (fun i hi => h i (by omega)), h n (by omega)]
theorem sm_add {f g : Nat → Nat} : ∀ n : Nat, sm (fun i => f i + g i) n = sm f n + sm g n := by
  intro n
  induction n with
  | zero => rfl
  | succ n ih => show sm (fun i => f i + g i) n + (f n + g n) = (sm f n + f n) + (sm g n + g n); rw [ih]; omega
theorem sm_one {f : Nat → Nat} {k : Nat} : ∀ n : Nat, k < n → (∀ i, i < n → i ≠ k → f i = 0) → sm f n = f k := by
  intro n
  induction n with
  | zero => intro h; omega
  | succ n ih =>
    intro hk h
    show sm f n + f n = f k
    by_cases e : k = n
    · subst e
      rw [sm_0 k (fun i hi => h i (by omega) (by omega))]; omega
    · rw [ih (by omega) (fun i hi hik => h i (by omega) hik), h n (by omega) (Ne.symm e)]; rfl
theorem sm_swap {f : Nat → Nat → Nat} (n : Nat) : ∀ m : Nat, sm (fun i => sm (fun j => f i j) n) m = sm (fun j => sm (fun i => f i j) m) n := by
  intro m
  induction m with
  | zero => exact (sm_0 n (fun i _ => rfl)).symm
  | succ m ih =>
    show sm (fun i => sm (fun j => f i j) n) m + sm (fun j => f m j) n = sm (fun j => sm (fun i => f i j) m + f m j) n
    rw [sm_add, ih]
theorem sm_ext {f : Nat → Nat} {n m : Nat} (h : n ≤ m) (h0 : ∀ i, n ≤ i → i < m → f i = 0) : sm f m = sm f n := by
  induction m with
  | zero => have : n = 0 := by omega
            subst this; rfl
  | succ m ih =>
    by_cases e : n = m + 1
    · subst e; rfl
    · show sm f m + f m = sm f n
      rw [ih (by omega) (fun i a b => h0 i a (by omega)), h0 m (by omega) (by omega)]; rfl
theorem sm_le {f g : Nat → Nat} : ∀ n : Nat, (∀ i, i < n → f i ≤ g i) → sm f n ≤ sm g n := by
  intro n
  induction n with
  | zero => intro _; exact Nat.le_refl _
  | succ n ih => intro h; exact Nat.add_le_add (ih (fun i hi => h i (by omega))) (h n (by omega))
/-- how often the fire flares for spit i -/
def fI (κ : Kp) (i : Nat) : Nat := if κ (8 + i) 5 < 0 then 0 else if (dr κ i (κ (8 + i) 5).toNatClampNeg && fu κ i) = true then 1 else 0
def cf (κ : Kp) (f n : Nat) : Nat := sm (fun i => if κ (8 + i) 0 = nI f then fI κ i else 0) n
def fS (κ : Kp) (i : Nat) : Nat → Int32 := if κ (8 + i) 5 < 0 then κ (8 + i) else rowS κ i (κ (8 + i) 5).toNatClampNeg
/-- roast j hangs on one of the first t spits -/
def onT (κ : Kp) (j t : Nat) : Prop := ¬ κ (14 + 2 * j) 2 < 0 ∧ (κ (14 + 2 * j) 2).toNatClampNeg < t
def LI (κ : Kp) (t : Nat) (v : Int32) (κt : Kp) : Prop :=
  (∀ i, i < 6 → (i < t → κt (8 + i) = fS κ i) ∧ (t ≤ i → κt (8 + i) = κ (8 + i))) ∧
  (∀ j, j < 16 → (onT κ j t → κt (14 + 2 * j) = rowR κ (κ (14 + 2 * j) 2).toNatClampNeg j ∧ κt (15 + 2 * j) = rowB κ (κ (14 + 2 * j) 2).toNatClampNeg j) ∧ (¬ onT κ j t → κt (14 + 2 * j) = κ (14 + 2 * j) ∧ κt (15 + 2 * j) = κ (15 + 2 * j))) ∧
  (∀ f, f < 3 → κt (5 + f) = va_up (κ (5 + f)) 2 (nI (cf κ f t))) ∧ (∀ q, q < 5 ∨ 46 ≤ q → κt q = κ q) ∧ v = nI (sm (fI κ) t)
theorem n1_neg : (-1 : Int32) < 0 := by decide
theorem Mu.sp {ns nr j : Nat} {κ : Kp} (h : Mu ns nr κ) (hns : ns ≤ 6) (hj : j < 16) (h0 : ¬ κ (14 + 2 * j) 2 < 0) : ∃ i, i < ns ∧ j < nr ∧ κ (14 + 2 * j) 2 = nI i ∧ κ (8 + i) 5 = nI j ∧ (κ (14 + 2 * j) 2).toNatClampNeg = i := by
  rcases h.2 j hj with q | ⟨a, i, b, c, d⟩
  · rw [q] at h0; exact absurd n1_neg h0
  · exact ⟨i, b, a, c, d, by rw [c, nI_clamp (by omega)]⟩
theorem Mu.hd {ns nr i : Nat} {κ : Kp} (h : Mu ns nr κ) (hnr : nr ≤ 16) (hi : i < 6) (h0 : ¬ κ (8 + i) 5 < 0) : ∃ j, i < ns ∧ j < nr ∧ κ (8 + i) 5 = nI j ∧ κ (14 + 2 * j) 2 = nI i ∧ (κ (8 + i) 5).toNatClampNeg = j := by
  rcases h.1 i hi with q | ⟨a, j, b, c, d⟩
  · rw [q] at h0; exact absurd n1_neg h0
  · exact ⟨j, a, b, c, d, by rw [c, nI_clamp (by omega)]⟩
theorem LI_0 (κ : Kp) (hz : ∀ f, f < 3 → κ (5 + f) 2 = 0) : LI κ 0 0 κ := by
  refine ⟨fun i hi => ⟨fun h => absurd h (Nat.not_lt_zero i), fun _ => rfl⟩, fun j hj => ⟨fun h => absurd h.2 (Nat.not_lt_zero _), fun _ => ⟨rfl, rfl⟩⟩, fun f hf => ?_, fun q hq => rfl, rfl⟩
  show κ (5 + f) = va_up (κ (5 + f)) 2 0
  rw [← hz f hf, va_up_id]
theorem feet_pos {x : Int32} (h : vp_in x 4) (h0 : ¬ x = 0) : 0 < x := by
  obtain ⟨n, hn, rfl⟩ := vp_in_of h (by decide)
  have h1 : ∀ n : Nat, n < 4 → ¬ nI n = 0 → (0 : Int32) < nI n := by decide
  exact h1 n hn h0
/-- the next spit -/
theorem LI_step {nf ns nr t : Nat} {κ κt : Kp} {v : Int32} (hI : Iv nf ns nr κ) (h : LI κ t v κt) (ht : t < 6) : ∃ (b : Bool) (κ' : Kp), f_X1_roastForAMinute κt 1 (8 + t) = (bi b, κ') ∧ LI κ (t + 1) (if b then v + 1 else v) κ' := by
  obtain ⟨⟨hnf, hns, hnr, hpos⟩, ⟨c3, c4, c5⟩, hR, hZ, hM⟩ := hI
  obtain ⟨l1, l2, l3, l4, l5⟩ := h
  have et8 : κt (8 + t) = κ (8 + t) := (l1 t ht).2 (Nat.le_refl t)
  by_cases hneg : κ (8 + t) 5 < 0
  · have hm1 : κ (8 + t) 5 = -1 := by
      rcases hM.1 t ht with q | ⟨a, j, b, c, d⟩
      · exact q
      · rw [c] at hneg; exact absurd hneg (nI0 (by omega))
    have hfI : fI κ t = 0 := by unfold fI; rw [if_pos hneg]
    have hon : ∀ j, j < 16 → (onT κ j (t + 1) ↔ onT κ j t) := by
      intro j hj
      unfold onT
      constructor
      · rintro ⟨a, b⟩
        refine ⟨a, ?_⟩
        obtain ⟨i, q1, q2, q3, q4, q5⟩ := hM.sp hns hj a
        rw [q5] at b ⊢
        rcases Nat.lt_or_ge i t with z | z
        · exact z
        · have : i = t := by omega
          subst this
          rw [hm1] at q4
          have := congrArg (fun x => decide (x < 0)) q4
          rw [decide_eq_true n1_neg, decide_eq_false (nI0 (by omega))] at this
          cases this
      · rintro ⟨a, b⟩
        exact ⟨a, by omega⟩
    refine ⟨false, κt, class_none (by rw [et8]; exact hm1), fun i hi => ⟨fun hit => ?_, fun hit => (l1 i hi).2 (by omega)⟩, fun j hj => ?_, fun f hf => ?_, l4, ?_⟩
    · by_cases e : i = t
      · subst e
        rw [et8]; unfold fS; rw [if_pos hneg]
      · exact (l1 i hi).1 (by omega)
    · rw [hon j hj]; exact l2 j hj
    · rw [l3 f hf]
      show _ = va_up (κ (5 + f)) 2 (nI (cf κ f t + (if κ (8 + t) 0 = nI f then fI κ t else 0)))
      rw [hfI, ite_self, Nat.add_zero]
    · show v = nI (sm (fI κ) t + fI κ t)
      rw [hfI]; exact l5
  · obtain ⟨j, htn, hj, eh, es, eT⟩ := hM.hd hnr ht hneg
    have h0 : 0 < nf := by omega
    obtain ⟨f, hf, ef⟩ := vp_in_of (hR.fire htn hns h0) (by omega)
    have hj16 : j < 16 := by omega
    have hnon : ¬ onT κ j t := fun z => by
      have := z.2
      rw [es, nI_clamp (by omega)] at this
      omega
    obtain ⟨e14, e15⟩ := (l2 j hj16).2 hnon
    have e5 := l3 f (by omega)
    have e1 : κt 1 = κ 1 := l4 1 (by omega)
    have hside : vp_in (κ (14 + 2 * j) 3) 4 := by
      have := hR.side (j := j) hj16
      rw [if_pos hj] at this; exact this
    obtain ⟨κ', r1, r2, r3, r4, r5, r6⟩ := class_step (κ := κt) (nf := nf) (nr := nr) (i := t) (j := j) (f := f) (by rw [e1]; exact c3) (by rw [e1]; exact c5) hnf hnr ht hj hf (by rw [et8]; exact eh) (by rw [et8]; exact ef) (by rw [et8]; exact feet_pos (hR.feet htn hns) (hZ.1 t htn)) (by rw [e14]; exact hside)
    have egl : gl κt t = gl κ t := by
      unfold gl
      rw [et8, ef, nI_clamp (by omega), e5, va_up_ne _ _ (by decide)]
    have egt : gt κt t j = gt κ t j := by unfold gt; rw [e14, egl]
    have edr : dr κt t j = dr κ t j := by unfold dr; rw [e14, egt]
    have efu : fu κt t = fu κ t := by unfold fu; rw [et8]
    have etu : tu κt t = tu κ t := by unfold tu; rw [et8]
    rw [edr, efu] at r1
    have r2' : κ' (15 + 2 * j) = rowB κ t j := by rw [r2]; unfold rowB; rw [e15, e14, egt]
    have r3' : κ' (14 + 2 * j) = rowR κ t j := by rw [r3]; unfold rowR rowR1; rw [edr, etu, e14]
    have r4' : κ' (8 + t) = rowS κ t j := by rw [r4]; unfold rowS; rw [edr, efu, et8]
    have hfI : fI κ t = if (dr κ t j && fu κ t) = true then 1 else 0 := by unfold fI; rw [if_neg hneg, eT]
    refine ⟨(dr κ t j && fu κ t), κ', r1, fun i hi => ⟨fun hit => ?_, fun hit => ?_⟩, fun j2 hj2 => ?_, fun f2 hf2 => ?_, fun q hq => ?_, ?_⟩
    · by_cases e : i = t
      · subst e
        rw [r4']; unfold fS; rw [if_neg hneg, eT]
      · rw [r6 _ (by omega) (by omega) (by omega) (by omega)]
        exact (l1 i hi).1 (by omega)
    · rw [r6 _ (by omega) (by omega) (by omega) (by omega)]
      exact (l1 i hi).2 (by omega)
    · by_cases e : j2 = j
      · subst e
        refine ⟨fun _ => ?_, fun z => absurd ⟨by rw [es]; exact nI0 (by omega), by rw [es, nI_clamp (by omega)]; omega⟩ z⟩
        rw [es, nI_clamp (by omega)]
        exact ⟨r3', r2'⟩
      · rw [r6 (14 + 2 * j2) (by omega) (by omega) (by omega) (by omega), r6 (15 + 2 * j2) (by omega) (by omega) (by omega) (by omega)]
        have hon : onT κ j2 (t + 1) ↔ onT κ j2 t := by
          unfold onT
          constructor
          · rintro ⟨a, b⟩
            refine ⟨a, ?_⟩
            obtain ⟨i, q1, q2, q3, q4, q5⟩ := hM.sp hns hj2 a
            rw [q5] at b ⊢
            rcases Nat.lt_or_ge i t with z | z
            · exact z
            · have : i = t := by omega
              subst this
              rw [eh] at q4
              have := (nIeq (by omega) (by omega)).mp q4
              omega
          · rintro ⟨a, b⟩
            exact ⟨a, by omega⟩
        rw [hon]; exact l2 j2 hj2
    · show κ' (5 + f2) = va_up (κ (5 + f2)) 2 (nI (cf κ f2 t + (if κ (8 + t) 0 = nI f2 then fI κ t else 0)))
      by_cases e : f2 = f
      · subst e
        rw [r5, if_pos ef, hfI]
        unfold rowF
        rw [edr, efu, e5]
        by_cases cb : (dr κ t j && fu κ t) = true
        · rw [if_pos cb, if_pos cb, va_up_self, va_up_up, nI_1]
        · rw [if_neg cb, if_neg cb]; rfl
      · rw [r6 _ (by omega) (by omega) (by omega) (by omega), l3 f2 hf2, if_neg (fun z => e ((nIeq (by omega) (by omega)).mp (ef.symm.trans z)).symm)]
        rfl
    · rw [r6 q (by omega) (by omega) (by omega) (by omega)]
      exact l4 q hq
    · show _ = nI (sm (fI κ) t + fI κ t)
      rw [hfI]
      by_cases cb : (dr κ t j && fu κ t) = true
      · rw [cb, if_pos rfl, if_pos rfl, l5, nI_1]
      · rw [Bool.not_eq_true] at cb
        rw [cb]; exact l5
theorem LI_all {nf ns nr : Nat} {κ : Kp} (hI : Iv nf ns nr κ) : ∀ (n t : Nat) (v : Int32) (κt : Kp), t + n = 6 → LI κ t v κt → ∃ (v' : Int32) (κ' : Kp), lp_X1_goMinute_13 1 n t v κt = (v', κ') ∧ LI κ 6 v' κ' := by
  intro n
  induction n with
  | zero =>
    intro t v κt ht h
    have : t = 6 := by omega
    subst this
    exact ⟨v, κt, rfl, h⟩
  | succ n ih =>
    intro t v κt ht h
    obtain ⟨b, κ', r1, r2⟩ := LI_step hI h (by omega)
    have r1' : f_X1_roastForAMinute κt 1 (1 + 7 + t) = (bi b, κ') := r1
    rw [lp_X1_goMinute_13, r1']
    dsimp only
    cases b with
    | false =>
      rw [if_pos bi_f]
      exact ih (t + 1) v κ' (by omega) r2
    | true =>
      rw [if_neg bi_t]
      exact ih (t + 1) (v + 1) κ' (by omega) r2
