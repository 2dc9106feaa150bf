/-! WHAT THE LAW SPEAKS OF, in the class's own cells (its kitchen now: 1; fires 5 + i, spits 8 + i, roasts 14 + 2 * j, their sides 15 + 2 * j), for nf fires, ns spits, nr roasts. -/
def hiT (nf ns nr k f : Nat) : Nat :=
  if 5 ≤ k ∧ k < 8 then (if f = 0 then (if k < 5 + nf then 41 else 1) else if f = 1 then (if k < 5 + nf then 10 else 1) else if f = 2 then 1 else 0)
  else if 8 ≤ k ∧ k < 14 then (if f = 0 then (if k < 8 + ns then nf else 0) else if f = 1 then (if k < 8 + ns then 4 else 0) else if f = 2 then (if k < 8 + ns then 10 else 1) else if f = 3 then (if k < 8 + ns then 0 else 1) else if f = 4 then (if k < 8 + ns then 21 else 1) else 0)
  else if 14 ≤ k ∧ k < 46 then (if k % 2 = 0 then (if f = 1 then (if k < 14 + 2 * nr then 13 else 0) else if f = 3 then (if k < 14 + 2 * nr then 4 else 1) else if f = 5 then (if k < 14 + 2 * nr then 4 else 1) else 0) else (if f < 4 then (if k < 14 + 2 * nr then 100 else 1) else 0))
  else 0
def Rg (nf ns nr : Nat) (κ : Kp) : Prop := ∀ k f, hiT nf ns nr k f ≠ 0 → vp_in (κ k f) (hiT nf ns nr k f)
/-- a spit and the roast on it tell each other -/
def Mu (ns nr : Nat) (κ : Kp) : Prop := (∀ i, i < 6 → κ (8 + i) 5 = -1 ∨ (i < ns ∧ ∃ j, j < nr ∧ κ (8 + i) 5 = nI j ∧ κ (14 + 2 * j) 2 = nI i)) ∧ (∀ j, j < 16 → κ (14 + 2 * j) 2 = -1 ∨ (j < nr ∧ ∃ i, i < ns ∧ κ (14 + 2 * j) 2 = nI i ∧ κ (8 + i) 5 = nI j))
def Nz (ns nr : Nat) (κ : Kp) : Prop := (∀ i, i < ns → ¬ κ (8 + i) 1 = 0) ∧ (∀ j, j < nr → ¬ κ (14 + 2 * j) 1 = 0 ∧ vp_in (κ (14 + 2 * j) 4) (3 * (κ (14 + 2 * j) 1).toNatClampNeg + 1))
def Ct (nf ns nr : Nat) (κ : Kp) : Prop := κ 1 3 = nI nf ∧ κ 1 4 = nI ns ∧ κ 1 5 = nI nr
def Iv (nf ns nr : Nat) (κ : Kp) : Prop := (nf ≤ 3 ∧ ns ≤ 6 ∧ nr ≤ 16 ∧ (ns = 0 ∨ 0 < nf)) ∧ Ct nf ns nr κ ∧ Rg nf ns nr κ ∧ Nz ns nr κ ∧ Mu ns nr κ
section HI
variable {nf ns nr i j w : Nat} {κ κ' : Kp}
theorem Rg.logs (h : Rg nf ns nr κ) (hi : i < 3) : vp_in (κ (5 + i) 0) (if i < nf then 41 else 1) := by
  have h1 := h (5 + i) 0
  unfold hiT at h1
  rw [if_pos (by omega), if_pos rfl, show (if 5 + i < 5 + nf then 41 else 1) = (if i < nf then 41 else 1) by by_cases c : i < nf <;> simp [c]] at h1
  exact h1 (by split <;> omega)
theorem Rg.heat (h : Rg nf ns nr κ) (hi : i < 3) : vp_in (κ (5 + i) 1) (if i < nf then 10 else 1) := by
  have h1 := h (5 + i) 1
  unfold hiT at h1
  rw [if_pos (by omega), if_neg (by omega), if_pos rfl, show (if 5 + i < 5 + nf then 10 else 1) = (if i < nf then 10 else 1) by by_cases c : i < nf <;> simp [c]] at h1
  exact h1 (by split <;> omega)
theorem Rg.flar (h : Rg nf ns nr κ) (hi : i < 3) : κ (5 + i) 2 = 0 := by
  have h1 := h (5 + i) 2
  unfold hiT at h1
  rw [if_pos (by omega), if_neg (by omega), if_neg (by omega), if_pos rfl] at h1
  obtain ⟨n, hn, e⟩ := vp_in_of (h1 (by omega)) (by decide)
  rw [e, show n = 0 by omega]; rfl
theorem Rg.fire (h : Rg nf ns nr κ) (hi : i < ns) (hns : ns ≤ 6) (h0 : 0 < nf) : vp_in (κ (8 + i) 0) nf := by
  have h1 := h (8 + i) 0
  unfold hiT at h1
  rw [if_neg (by omega), if_pos (by omega), if_pos rfl, if_pos (by omega)] at h1
  exact h1 (by omega)
theorem Rg.feet (h : Rg nf ns nr κ) (hi : i < ns) (hns : ns ≤ 6) : vp_in (κ (8 + i) 1) 4 := by
  have h1 := h (8 + i) 1
  unfold hiT at h1
  rw [if_neg (by omega), if_pos (by omega), if_neg (by omega), if_pos rfl, if_pos (by omega)] at h1
  exact h1 (by omega)
theorem Rg.each (h : Rg nf ns nr κ) (hi : i < 6) : vp_in (κ (8 + i) 2) (if i < ns then 10 else 1) := by
  have h1 := h (8 + i) 2
  unfold hiT at h1
  rw [if_neg (by omega), if_pos (by omega), if_neg (by omega), if_neg (by omega), if_pos rfl, show (if 8 + i < 8 + ns then 10 else 1) = (if i < ns then 10 else 1) by by_cases c : i < ns <;> simp [c]] at h1
  exact h1 (by split <;> omega)
theorem Rg.count (h : Rg nf ns nr κ) (hi : i < 6) (hn : ns ≤ i) : κ (8 + i) 3 = 0 := by
  have h1 := h (8 + i) 3
  unfold hiT at h1
  rw [if_neg (by omega), if_pos (by omega), if_neg (by omega), if_neg (by omega), if_neg (by omega), if_pos rfl, if_neg (by omega)] at h1
  obtain ⟨n, hn, e⟩ := vp_in_of (h1 (by omega)) (by decide)
  rw [e, show n = 0 by omega]; rfl
theorem Rg.drip (h : Rg nf ns nr κ) (hi : i < 6) : vp_in (κ (8 + i) 4) (if i < ns then 21 else 1) := by
  have h1 := h (8 + i) 4
  unfold hiT at h1
  rw [if_neg (by omega), if_pos (by omega), if_neg (by omega), if_neg (by omega), if_neg (by omega), if_neg (by omega), if_pos rfl, show (if 8 + i < 8 + ns then 21 else 1) = (if i < ns then 21 else 1) by by_cases c : i < ns <;> simp [c]] at h1
  exact h1 (by split <;> omega)
theorem Rg.pounds (h : Rg nf ns nr κ) (hj : j < nr) (hnr : nr ≤ 16) : vp_in (κ (14 + 2 * j) 1) 13 := by
  have h1 := h (14 + 2 * j) 1
  unfold hiT at h1
  rw [if_neg (by omega), if_neg (by omega), if_pos (by omega), if_pos (by omega), if_pos rfl, if_pos (by omega)] at h1
  exact h1 (by omega)
theorem Rg.side (h : Rg nf ns nr κ) (hj : j < 16) : vp_in (κ (14 + 2 * j) 3) (if j < nr then 4 else 1) := by
  have h1 := h (14 + 2 * j) 3
  unfold hiT at h1
  rw [if_neg (by omega), if_neg (by omega), if_pos (by omega), if_pos (by omega), if_neg (by omega), if_pos rfl, show (if 14 + 2 * j < 14 + 2 * nr then 4 else 1) = (if j < nr then 4 else 1) by by_cases c : j < nr <;> simp [c]] at h1
  exact h1 (by split <;> omega)
theorem Rg.wet (h : Rg nf ns nr κ) (hj : j < 16) : vp_in (κ (14 + 2 * j) 5) (if j < nr then 4 else 1) := by
  have h1 := h (14 + 2 * j) 5
  unfold hiT at h1
  rw [if_neg (by omega), if_neg (by omega), if_pos (by omega), if_pos (by omega), if_neg (by omega), if_neg (by omega), if_pos rfl, show (if 14 + 2 * j < 14 + 2 * nr then 4 else 1) = (if j < nr then 4 else 1) by by_cases c : j < nr <;> simp [c]] at h1
  exact h1 (by split <;> omega)
theorem Rg.brown (h : Rg nf ns nr κ) (hj : j < 16) (hw : w < 4) : vp_in (κ (15 + 2 * j) w) (if j < nr then 100 else 1) := by
  have h1 := h (15 + 2 * j) w
  unfold hiT at h1
  rw [if_neg (by omega), if_neg (by omega), if_pos (by omega), if_neg (by omega), if_pos hw, show (if 15 + 2 * j < 14 + 2 * nr then 100 else 1) = (if j < nr then 100 else 1) by by_cases c : j < nr <;> simp [c] <;> omega] at h1
  exact h1 (by split <;> omega)
theorem Rg.up {k f : Nat} {v : Int32} (h : Rg nf ns nr κ) (hv : hiT nf ns nr k f ≠ 0 → vp_in v (hiT nf ns nr k f)) : Rg nf ns nr (up2 κ k f v) := by
  intro q g hq
  by_cases e : q = k ∧ g = f
  · obtain ⟨rfl, rfl⟩ := e
    rw [up2_self]; exact hv hq
  · rw [up2_at, if_neg e]; exact h q g hq
theorem Rg.of (h : Rg nf ns nr κ) (he : ∀ k f, hiT nf ns nr k f ≠ 0 → κ' k f = κ k f) : Rg nf ns nr κ' := fun k f hk => by rw [he k f hk]; exact h k f hk
theorem vp_1 {x : Int32} (h : vp_in x 1) : x = 0 := by
  obtain ⟨n, hn, e⟩ := vp_in_of h (by decide)
  rw [e, show n = 0 by omega]; rfl
theorem vp_0 {n : Nat} (h : 0 < n) : vp_in 0 n := by
  have h1 : vp_in (nI 0) 1 := vp_in_nI (by decide) (by decide)
  exact vin_lit (by
    rintro (q | q)
    · exact absurd q (by decide)
    · have : (0 : Int32).toNatClampNeg = 0 := rfl
      omega)
/-- a range that is known, out of the whole -/
theorem Iv.mk' (h : Iv nf ns nr κ) (hc : Ct nf ns nr κ') (hr : Rg nf ns nr κ') (hz : Nz ns nr κ') (hm : Mu ns nr κ') : Iv nf ns nr κ' := ⟨h.1, hc, hr, hz, hm⟩
theorem Nz.of (h : Nz ns nr κ) (h1 : ∀ i, i < ns → κ' (8 + i) 1 = κ (8 + i) 1) (h2 : ∀ j, j < nr → κ' (14 + 2 * j) 1 = κ (14 + 2 * j) 1 ∧ κ' (14 + 2 * j) 4 = κ (14 + 2 * j) 4) : Nz ns nr κ' :=
  ⟨fun i hi => by rw [h1 i hi]; exact h.1 i hi, fun j hj => by rw [(h2 j hj).1, (h2 j hj).2]; exact h.2 j hj⟩
theorem Mu.of (h : Mu ns nr κ) (hns : ns ≤ 6) (hnr : nr ≤ 16) (h1 : ∀ i, i < 6 → κ' (8 + i) 5 = κ (8 + i) 5) (h2 : ∀ j, j < 16 → κ' (14 + 2 * j) 2 = κ (14 + 2 * j) 2) : Mu ns nr κ' := by
  refine ⟨fun i hi => ?_, fun j hj => ?_⟩
  · rw [h1 i hi]
    rcases h.1 i hi with q | ⟨a, j, hj, b, c⟩
    · exact Or.inl q
    · exact Or.inr ⟨a, j, hj, b, by rw [h2 j (by omega)]; exact c⟩
  · rw [h2 j hj]
    rcases h.2 j hj with q | ⟨a, i, hi, b, c⟩
    · exact Or.inl q
    · exact Or.inr ⟨a, i, hi, b, by rw [h1 i (by omega)]; exact c⟩
theorem Iv.of (h : Iv nf ns nr κ) (he : ∀ q, q < 46 → κ' q = κ q) : Iv nf ns nr κ' := by
  obtain ⟨hb, hc, hr, hz, hm⟩ := h
  refine ⟨hb, ?_, hr.of (fun k f hk => ?_), hz.of (fun i hi => ?_) (fun j hj => ?_), hm.of (by omega) (by omega) (fun i hi => ?_) (fun j hj => ?_)⟩
  · unfold Ct; rw [he 1 (by decide)]; exact hc
  · rw [he k ?_]
    unfold hiT at hk
    rcases Nat.lt_or_ge k 46 with q | q
    · exact q
    · rw [if_neg (by omega), if_neg (by omega), if_neg (by omega)] at hk
      exact absurd rfl hk
  · rw [he _ (by omega)]
  · rw [he _ (by omega)]; exact ⟨rfl, rfl⟩
  · rw [he _ (by omega)]
  · rw [he _ (by omega)]
end HI
