/-! THE SIMULATION. A number of the reference's row at the place x < 165 stands in the class's kitchen k at (k + oC x, fC x); less 1 where it is a holder or a roast's spit. -/
def oC (x : Nat) : Nat := if x = 0 then 0 else if x < 7 then 4 + (x - 1) / 2 else if x < 37 then 7 + (x - 7) / 5 else if (x - 37) % 8 < 4 then 13 + 2 * ((x - 37) / 8) else 13 + 2 * ((x - 37) / 8) + 1
def fC (x : Nat) : Nat := if x = 0 then 6 else if x < 7 then (x - 1) % 2 else if x < 37 then (if (x - 7) % 5 = 0 then 1 else if (x - 7) % 5 = 1 then 4 else if (x - 7) % 5 = 2 then 5 else if (x - 7) % 5 = 3 then 3 else 2) else if (x - 37) % 8 < 4 then (x - 37) % 8 + 2 else (x - 37) % 8 - 4
def iC (o f : Nat) : Nat := if o = 0 then 0 else if o < 7 then 1 + 2 * (o - 4) + f else if o < 13 then 7 + 5 * (o - 7) + (if f = 1 then 0 else if f = 4 then 1 else if f = 5 then 2 else if f = 3 then 3 else 4) else if (o - 13) % 2 = 0 then 37 + 8 * ((o - 13) / 2) + (f - 2) else 37 + 8 * ((o - 13) / 2) + 4 + f
def one (x : Nat) : Bool := (decide (7 ≤ x) && decide (x < 37) && decide ((x - 7) % 5 = 2)) || (decide (37 ≤ x) && decide ((x - 37) % 8 = 0))
def dj (x : Nat) (v : Int32) : Int32 := if one x then v - 1 else v
theorem iC_inv : ∀ x, x < 165 → iC (oC x) (fC x) = x := by decide +kernel
theorem oC_lt : ∀ x, x < 165 → oC x < 45 := by decide +kernel
/-- what no minute changes: counts, feast, a spit's fire, a roast's pounds -/
def stc (o f : Nat) : Bool := (decide (o = 0) && decide (3 ≤ f) && !decide (f = 6)) || (decide (7 ≤ o) && decide (o < 13) && decide (f = 0)) || (decide (13 ≤ o) && decide ((o - 13) % 2 = 0) && decide (f = 1))
theorem oC_stc : ∀ x, x < 165 → stc (oC x) (fC x) = false := by decide +kernel
theorem oC_fire : ∀ i, i < 3 → ∀ j, j < 2 → oC (1 + 2 * i + j) = 4 + i ∧ fC (1 + 2 * i + j) = j ∧ one (1 + 2 * i + j) = false := by decide +kernel
theorem oC_spit : ∀ i, i < 6 → (oC (7 + 5 * i) = 7 + i ∧ fC (7 + 5 * i) = 1 ∧ one (7 + 5 * i) = false) ∧ (oC (7 + 5 * i + 1) = 7 + i ∧ fC (7 + 5 * i + 1) = 4 ∧ one (7 + 5 * i + 1) = false) ∧ (oC (7 + 5 * i + 2) = 7 + i ∧ fC (7 + 5 * i + 2) = 5 ∧ one (7 + 5 * i + 2) = true) ∧ (oC (7 + 5 * i + 3) = 7 + i ∧ fC (7 + 5 * i + 3) = 3 ∧ one (7 + 5 * i + 3) = false) ∧ (oC (7 + 5 * i + 4) = 7 + i ∧ fC (7 + 5 * i + 4) = 2 ∧ one (7 + 5 * i + 4) = false) := by decide +kernel
theorem oC_roast : ∀ i, i < 16 → (∀ w, w < 4 → oC (37 + 8 * i + w) = 13 + 2 * i ∧ fC (37 + 8 * i + w) = w + 2 ∧ one (37 + 8 * i + w) = decide (w = 0)) ∧ (∀ w, w < 4 → oC (37 + 8 * i + 4 + w) = 13 + 2 * i + 1 ∧ fC (37 + 8 * i + 4 + w) = w ∧ one (37 + 8 * i + 4 + w) = false) := by decide +kernel
theorem oC_0 : oC 0 = 0 ∧ fC 0 = 6 ∧ one 0 = false := by decide
def RX (k : Nat) (κc κm : Kp) : Prop := ∀ x, x < 165 → κc (k + oC x) (fC x) = dj x (κm 96 x)
/-- the ranges of the reference's numbers, for nf fires, ns spits, nr roasts -/
def Gx (nf ns nr : Nat) (m : Nat → Int32) (x : Nat) (v : Int32) : Prop := (∀ i, i < 3 → x = 1 + 2 * i → nf ≤ i → v = 0) ∧ (∀ i, i < 3 → x = 1 + 2 * i + 1 → vp_in v 10 ∧ (nf ≤ i → v = 0)) ∧ (∀ i, i < 6 → x = 7 + 5 * i → i < ns → ∃ w : Nat, 1 ≤ w ∧ w ≤ 3 ∧ v = nI w) ∧ (∀ i, i < 6 → x = 7 + 5 * i + 2 → ∃ h : Nat, h ≤ nr ∧ v = nI h ∧ (ns ≤ i → h = 0)) ∧ (∀ i, i < 16 → ∀ w, w < 8 → x = 37 + 8 * i + w → (nr ≤ i → v = 0) ∧ (w = 1 → vp_in v 4) ∧ (w = 2 → 0 ≤ v) ∧ (4 ≤ w → vp_in v 100 ∧ (m x).toInt ≤ v.toInt))
def Gs (nf ns nr : Nat) (m : Nat → Int32) (κm : Kp) : Prop := ∀ x, x < 165 → Gx nf ns nr m x (κm 96 x)
/-- the class's numbers that no minute changes are as in κ0 -/
def StC (k : Nat) (κ0 κc : Kp) : Prop := ∀ o f, stc o f = true → κc (k + o) f = κ0 (k + o) f
section SIM
variable {k nf ns nr : Nat} {κ0 κc κm : Kp} {m : Nat → Int32}
theorem RX_up {x : Nat} {v w : Int32} (h : RX k κc κm) (hx : x < 165) (hv : v = dj x w) : RX k (up2 κc (k + oC x) (fC x) v) (up2 κm 96 x w) := by
  intro y hy
  by_cases e : y = x
  · subst e
    rw [up2_self, up2_self]; exact hv
  · rw [up2_ne κm w (Or.inr e), up2_ne κc v ?_]
    · exact h y hy
    · by_cases ho : oC y = oC x
      · refine Or.inr (fun hf => e ?_)
        rw [← iC_inv y hy, ← iC_inv x hx, ho, hf]
      · exact Or.inl (by omega)
/-- a number of the class that is no number of the row -/
theorem RX_upC {o f : Nat} {v : Int32} (h : RX k κc κm) (hn : ¬ (oC (iC o f) = o ∧ fC (iC o f) = f)) : RX k (up2 κc (k + o) f v) κm := by
  intro y hy
  rw [up2_ne κc v ?_]
  · exact h y hy
  · by_cases ho : oC y = o
    · refine Or.inr (fun hf => hn ?_)
      rw [← ho, ← hf, iC_inv y hy]; exact ⟨rfl, rfl⟩
    · exact Or.inl (by omega)
theorem RX_upM {q j : Nat} {v : Int32} (h : RX k κc κm) (hq : ¬ q = 96) : RX k κc (up2 κm q j v) := by
  intro y hy
  rw [up2_ne κm v (Or.inl (Ne.symm hq))]
  exact h y hy
theorem Gs_up {x : Nat} {w : Int32} (h : Gs nf ns nr m κm) (hw : Gx nf ns nr m x w) : Gs nf ns nr m (up2 κm 96 x w) := by
  intro y hy
  by_cases e : y = x
  · subst e; rw [up2_self]; exact hw
  · rw [up2_ne κm w (Or.inr e)]; exact h y hy
theorem Gs_upM {q j : Nat} {v : Int32} (h : Gs nf ns nr m κm) (hq : ¬ q = 96) : Gs nf ns nr m (up2 κm q j v) := by
  intro y hy
  rw [up2_ne κm v (Or.inl (Ne.symm hq))]; exact h y hy
theorem StC_up {x : Nat} {v : Int32} (h : StC k κ0 κc) (hx : x < 165) : StC k κ0 (up2 κc (k + oC x) (fC x) v) := by
  intro o f hs
  rw [up2_ne κc v ?_]
  · exact h o f hs
  · by_cases ho : o = oC x
    · refine Or.inr (fun hf => ?_)
      rw [ho, hf, oC_stc x hx] at hs
      cases hs
    · exact Or.inl (by omega)
theorem StC_upC {o1 f1 : Nat} {v : Int32} (h : StC k κ0 κc) (hn : stc o1 f1 = false) : StC k κ0 (up2 κc (k + o1) f1 v) := by
  intro o f hs
  rw [up2_ne κc v ?_]
  · exact h o f hs
  · by_cases ho : o = o1
    · refine Or.inr (fun hf => ?_)
      rw [ho, hf, hn] at hs
      cases hs
    · exact Or.inl (by omega)
-- ranges, by the kind of place
theorem Gx_logs {i : Nat} {v : Int32} (hi : i < 3) (h : nf ≤ i → v = 0) : Gx nf ns nr m (1 + 2 * i) v :=
  ⟨fun j hj e hn => h (by omega), fun j hj e => by omega, fun j hj e => by omega, fun j hj e => by omega, fun j hj w hw e => by omega⟩
theorem Gx_heat {i : Nat} {v : Int32} (hi : i < 3) (h : vp_in v 10) (h2 : nf ≤ i → v = 0) : Gx nf ns nr m (1 + 2 * i + 1) v :=
  ⟨fun j hj e hn => by omega, fun j hj e => ⟨h, fun hn => h2 (by omega)⟩, fun j hj e => by omega, fun j hj e => by omega, fun j hj w hw e => by omega⟩
theorem Gx_feet {i : Nat} {v : Int32} (hi : i < 6) (h : i < ns → ∃ w : Nat, 1 ≤ w ∧ w ≤ 3 ∧ v = nI w) : Gx nf ns nr m (7 + 5 * i) v :=
  ⟨fun j hj e hn => by omega, fun j hj e => by omega, fun j hj e hn => h (by omega), fun j hj e => by omega, fun j hj w hw e => by omega⟩
theorem Gx_holds {i h : Nat} (hi : i < 6) (hh : h ≤ nr) (h0 : ns ≤ i → h = 0) : Gx nf ns nr m (7 + 5 * i + 2) (nI h) :=
  ⟨fun j hj e hn => by omega, fun j hj e => by omega, fun j hj e hn => by omega, fun j hj e => ⟨h, hh, rfl, fun hn => h0 (by omega)⟩, fun j hj w hw e => by omega⟩
theorem Gx_spit {i u : Nat} {v : Int32} (hi : i < 6) (hu : u = 1 ∨ u = 3 ∨ u = 4) : Gx nf ns nr m (7 + 5 * i + u) v :=
  ⟨fun j hj e hn => by omega, fun j hj e => by omega, fun j hj e hn => by omega, fun j hj e => by omega, fun j hj w hw e => by omega⟩
theorem Gx_0 {v : Int32} : Gx nf ns nr m 0 v :=
  ⟨fun j hj e hn => by omega, fun j hj e => by omega, fun j hj e hn => by omega, fun j hj e => by omega, fun j hj w hw e => by omega⟩
theorem Gx_roast {i w : Nat} {v : Int32} (hi : i < 16) (hw : w < 8) (h0 : nr ≤ i → v = 0) (h1 : w = 1 → vp_in v 4) (h2 : w = 2 → 0 ≤ v) (h4 : 4 ≤ w → vp_in v 100 ∧ (m (37 + 8 * i + w)).toInt ≤ v.toInt) : Gx nf ns nr m (37 + 8 * i + w) v :=
  ⟨fun j hj e hn => by omega, fun j hj e => by omega, fun j hj e hn => by omega, fun j hj e => by omega, fun j hj u hu e => by
    have e1 : j = i := by omega
    have e2 : u = w := by omega
    subst e1; subst e2
    exact ⟨h0, h1, h2, h4⟩⟩
end SIM
/-- all of a kitchen against the reference's row, and what is left as in κ0, m0 -/
def J (k nf ns nr : Nat) (κ0 m0 κc κm : Kp) : Prop := RX k κc κm ∧ Gs nf ns nr (m0 96) κm ∧ StC k κ0 κc ∧ FrK k κ0 κc ∧ (∀ q, q ≠ 94 → q ≠ 95 → q ≠ 96 → κm q = m0 q)
section SIMJ
variable {k nf ns nr : Nat} {κ0 m0 κc κm : Kp}
theorem J_up {x : Nat} {v w : Int32} (h : J k nf ns nr κ0 m0 κc κm) (hx : x < 165) (hv : v = dj x w) (hg : Gx nf ns nr (m0 96) x w) : J k nf ns nr κ0 m0 (up2 κc (k + oC x) (fC x) v) (up2 κm 96 x w) := by
  obtain ⟨h1, h2, h3, h4, h5⟩ := h
  have ho := oC_lt x hx
  refine ⟨RX_up h1 hx hv, Gs_up h2 hg, StC_up h3 hx, h4.up (by omega), fun q a b c => ?_⟩
  rw [up2_row c]; exact h5 q a b c
theorem J_m {q j : Nat} {v : Int32} (h : J k nf ns nr κ0 m0 κc κm) (hq : q = 94 ∨ q = 95) : J k nf ns nr κ0 m0 κc (up2 κm q j v) := by
  obtain ⟨h1, h2, h3, h4, h5⟩ := h
  refine ⟨RX_upM h1 (by omega), Gs_upM h2 (by omega), h3, h4, fun q2 a b c => ?_⟩
  rw [up2_row (by omega)]; exact h5 q2 a b c
theorem J_flare {i : Nat} {v : Int32} (h : J k nf ns nr κ0 m0 κc κm) (hi : i < 3) : J k nf ns nr κ0 m0 (up2 κc (k + (4 + i)) 2 v) κm := by
  obtain ⟨h1, h2, h3, h4, h5⟩ := h
  have e1 : ∀ i, i < 3 → ¬ (oC (iC (4 + i) 2) = 4 + i ∧ fC (iC (4 + i) 2) = 2) := by decide
  have e2 : ∀ i, i < 3 → stc (4 + i) 2 = false := by decide
  exact ⟨RX_upC h1 (e1 i hi), h2, StC_upC h3 (e2 i hi), h4.up (by omega), h5⟩
end SIMJ
