section CNTS
variable {nf ns nr : Nat} {κ κ1 κ2 κ3 : Kp}
theorem nI_up (n : Nat) : nI n + 1 = nI (n + 1) := by rw [nI_1]
theorem nI_ne1 {n : Nat} (h : n < 2 ^ 31) : ¬ nI n = -1 := fun z => nI0 h (by rw [z]; exact n1_neg)
theorem nI_back (n : Nat) : nI (n + 1) - 1 = nI n := by rw [nI_sub1 (by omega)]; rfl
theorem ite_mono {x : Int32} {a b : Nat} {p q : Prop} [Decidable p] [Decidable q] (h : vp_in x (if p then a else b)) (hpq : p → q) (hab : b ≤ a) : vp_in x (if q then a else b) := by
  by_cases hp : p
  · rw [if_pos hp] at h; rw [if_pos (hpq hp)]; exact h
  · rw [if_neg hp] at h
    by_cases hq : q
    · rw [if_pos hq]; exact vp_mono h hab
    · rw [if_neg hq]; exact h
theorem op_addFire (h : RR nf ns nr κ) (hn : nf < 3) (hq : ∀ q, q < 136 → q ≠ 95 + nf → κ1 q = κ q) (h0 : κ1 (95 + nf) 0 = 0) (h1 : κ1 (95 + nf) 1 = 0) : ∃ κ2, f_X4_addFire κ1 = .inr (nI nf, κ2) ∧ RR (nf + 1) ns nr κ2 ∧ (∀ q, 91 ≤ q → κ2 q = κ1 q) := by
  have hb := h.b
  have hI1 : Iv nf ns nr κ1 := h.1.of (fun q hq1 => hq q (by omega) (by omega))
  obtain ⟨hbb, ⟨c3, c4, c5⟩, hR, hZ, hM⟩ := hI1
  refine ⟨up2 κ1 1 3 (nI (nf + 1)), ?_, ⟨⟨⟨by omega, hbb.2.1, hbb.2.2.1, Or.inr (by omega)⟩, ⟨up2_self _ _ _ _, ?_, ?_⟩, Rg.mk hbb.2.1 hbb.2.2.1 (fun i hi => ?_) (fun i hi => ?_) (fun j hj => ?_), hZ.of (fun i hi => ?_) (fun j hj => ?_), hM.of hbb.2.1 hbb.2.2.1 (fun i hi => ?_) (fun j hj => ?_)⟩, ⟨⟨?_, ?_⟩, fun i hi => ?_, fun i hi => ?_, fun j hj => ⟨fun f hf => ?_, fun w hw => ?_⟩⟩⟩, fun q hq => up2_row (by omega)⟩
  · unfold f_X4_addFire f_X1_placeFire
    rw [c3, if_pos (show nI nf < (3 : Int32) from (nIlt (a := nf) (b := 3) (by omega) (by decide)).mpr hn), nI_up]
    dsimp only
    rw [up2_self, nI_back, if_neg (nI_ne1 (by omega))]
  · rw [up2_ne _ _ (by decide)]; exact c4
  · rw [up2_ne _ _ (by decide)]; exact c5
  · rw [up2_row (by omega)]
    exact ⟨ite_mono (hR.logs hi) (by omega) (by decide), ite_mono (hR.heat hi) (by omega) (by decide), hR.flar hi⟩
  · rw [up2_row (by omega)]
    exact ⟨fun q => ⟨vp_mono (hR.fire q hbb.2.1 (by omega)) (by omega), hR.feet q hbb.2.1⟩, hR.each hi, hR.count hi, hR.drip hi⟩
  · rw [up2_row (by omega), up2_row (by omega)]
    exact ⟨fun q => hR.pounds q hbb.2.2.1, hR.side hj, hR.wet hj, fun w hw => hR.brown hj hw⟩
  · rw [up2_row (by omega)]
  · rw [up2_row (by omega)]; exact ⟨rfl, rfl⟩
  · rw [up2_row (by omega)]
  · rw [up2_row (by omega)]
  · rw [up2_ne _ _ (by decide), up2_row (by omega), hq 1 (by decide) (by omega), hq 91 (by decide) (by omega)]; exact h.2.1.1
  · rw [up2_ne _ _ (by decide), up2_row (by omega), hq 1 (by decide) (by omega), hq 91 (by decide) (by omega)]; exact h.2.1.2
  · rw [up2_row (by omega), up2_row (by omega)]
    by_cases c : i = nf
    · subst c
      have l := hR.logs (i := i) (by omega)
      have t := hR.heat (i := i) (by omega)
      rw [if_neg (by omega)] at l t
      rw [vp_1 l, vp_1 t, h0, h1]; exact ⟨rfl, rfl⟩
    · rw [hq _ (by omega) (by omega), hq _ (by omega) (by omega)]; exact h.2.2.1 i (by omega)
  · rw [up2_row (by omega), up2_row (by omega), hq _ (by omega) (by omega), hq _ (by omega) (by omega)]; exact h.2.2.2.1 i hi
  · rw [up2_row (by omega), up2_row (by omega), hq _ (by omega) (by omega), hq _ (by omega) (by omega)]; exact (h.2.2.2.2 j hj).1 f hf
  · rw [up2_row (by omega), up2_row (by omega), hq _ (by omega) (by omega), hq _ (by omega) (by omega)]; exact (h.2.2.2.2 j hj).2 w hw
theorem op_addSpit {f w : Nat} (h : RR nf ns nr κ) (hf : f < nf) (h1 : 1 ≤ w) (h3 : w ≤ 3) (hn : ns < 6) (hq : ∀ q, q < 136 → q ≠ 98 + ns → κ1 q = κ q) (g0 : κ1 (98 + ns) 0 = nI f) (g1 : κ1 (98 + ns) 1 = nI w) (g2 : κ1 (98 + ns) 2 = 0) (g3 : κ1 (98 + ns) 3 = -1) (g4 : κ1 (98 + ns) 4 = 0) (g5 : κ1 (98 + ns) 5 = 0) : ∃ κ2, f_X4_addSpit κ1 (nI f) (nI w) = .inr (nI ns, κ2) ∧ RR nf (ns + 1) nr κ2 ∧ (∀ q, 91 ≤ q → κ2 q = κ1 q) := by
  have hb := h.b
  have hI1 : Iv nf ns nr κ1 := h.1.of (fun q hq1 => hq q (by omega) (by omega))
  have hI1' := hI1
  obtain ⟨hbb, ⟨c3, c4, c5⟩, hR, hZ, hM⟩ := hI1
  have e : ∀ q, q ≠ 1 → q ≠ 8 + ns → up2 (up2 (up2 κ1 (8 + ns) 0 (nI f)) (8 + ns) 1 (nI w)) 1 4 (nI (ns + 1)) q = κ1 q := fun q q1 q2 => by rw [up2_row q1, up2_row q2, up2_row q2]
  have e1 : ∀ y, y ≠ 4 → up2 (up2 (up2 κ1 (8 + ns) 0 (nI f)) (8 + ns) 1 (nI w)) 1 4 (nI (ns + 1)) 1 y = κ1 1 y := fun y hy => by rw [up2_ne _ _ (by omega), up2_row (by omega), up2_row (by omega)]
  have e8 : ∀ y, 1 < y → up2 (up2 (up2 κ1 (8 + ns) 0 (nI f)) (8 + ns) 1 (nI w)) 1 4 (nI (ns + 1)) (8 + ns) y = κ1 (8 + ns) y := fun y hy => by rw [up2_row (by omega), up2_ne _ _ (by omega), up2_ne _ _ (by omega)]
  have e80 : up2 (up2 (up2 κ1 (8 + ns) 0 (nI f)) (8 + ns) 1 (nI w)) 1 4 (nI (ns + 1)) (8 + ns) 0 = nI f := by rw [up2_row (by omega), up2_ne _ _ (by omega), up2_self]
  have e81 : up2 (up2 (up2 κ1 (8 + ns) 0 (nI f)) (8 + ns) 1 (nI w)) 1 4 (nI (ns + 1)) (8 + ns) 1 = nI w := by rw [up2_row (by omega), up2_self]
  have e14 : up2 (up2 (up2 κ1 (8 + ns) 0 (nI f)) (8 + ns) 1 (nI w)) 1 4 (nI (ns + 1)) 1 4 = nI (ns + 1) := up2_self _ _ _ _
  have z2 : κ1 (8 + ns) 2 = 0 := vp_1 (by have := hR.each (i := ns) hn; rw [if_neg (by omega)] at this; exact this)
  have z3 : κ1 (8 + ns) 3 = 0 := hR.count hn (by omega)
  have z4 : κ1 (8 + ns) 4 = 0 := vp_1 (by have := hR.drip (i := ns) hn; rw [if_neg (by omega)] at this; exact this)
  have z5 : κ1 (8 + ns) 5 = -1 := (hM.1 ns hn).elim id (fun ⟨a, _⟩ => absurd a (by omega))
  have q4 : up2 (up2 κ1 (8 + ns) 0 (nI f)) (8 + ns) 1 (nI w) 1 4 = nI ns := by rw [up2_row (by omega), up2_row (by omega)]; exact c4
  have hpl : f_X1_placeSpit κ1 1 (nI f) (nI w) = (nI ns, up2 (up2 (up2 κ1 (8 + ns) 0 (nI f)) (8 + ns) 1 (nI w)) 1 4 (nI (ns + 1))) := by
    unfold f_X1_placeSpit
    rw [c4, if_neg (nI0 (by omega)), if_pos (show nI ns < (6 : Int32) from (nIlt (a := ns) (b := 6) (by omega) (by decide)).mpr hn), nI_clamp (by omega), show 1 + 7 + ns = 8 + ns by omega]
    dsimp only
    rw [q4, nI_up, up2_self, nI_back]
  have hres : f_X4_addSpit κ1 (nI f) (nI w) = .inr (nI ns, up2 (up2 (up2 κ1 (8 + ns) 0 (nI f)) (8 + ns) 1 (nI w)) 1 4 (nI (ns + 1))) := by
    unfold f_X4_addSpit
    rw [fireN hI1' hf]
    dsimp only
    rw [feetN h1 h3]
    dsimp only
    rw [hpl]
    dsimp only
    rw [if_neg (nI_ne1 (by omega))]
  generalize up2 (up2 (up2 κ1 (8 + ns) 0 (nI f)) (8 + ns) 1 (nI w)) 1 4 (nI (ns + 1)) = κ2 at *
  refine ⟨κ2, hres, ⟨⟨⟨hbb.1, by omega, hbb.2.2.1, Or.inr (by omega)⟩, ⟨by rw [e1 3 (by decide)]; exact c3, e14, by rw [e1 5 (by decide)]; exact c5⟩, Rg.mk (by omega) hbb.2.2.1 (fun i hi => ?_) (fun i hi => ?_) (fun j hj => ?_), ⟨fun i hi => ?_, fun j hj => ?_⟩, ⟨fun i hi => ?_, fun j hj => ?_⟩⟩, ⟨⟨?_, ?_⟩, fun i hi => ?_, fun i hi => ?_, fun j hj => ⟨fun f hf => ?_, fun w hw => ?_⟩⟩⟩, fun q hq => e q (by omega) (by omega)⟩
  · rw [e _ (by omega) (by omega)]
    exact ⟨hR.logs hi, hR.heat hi, hR.flar hi⟩
  · by_cases c : i = ns
    · subst c
      rw [e80, e81, e8 2 (by decide), e8 3 (by decide), e8 4 (by decide), z2, z3, z4]
      exact ⟨fun _ => ⟨vp_in_nI hf (by omega), vp_in_nI (by omega) (by decide)⟩, vp_0 (by split <;> decide), fun _ => rfl, vp_0 (by split <;> decide)⟩
    · rw [e _ (by omega) (by omega)]
      exact ⟨fun q => ⟨hR.fire (by omega) hbb.2.1 (by omega), hR.feet (by omega) hbb.2.1⟩, ite_mono (hR.each hi) (by omega) (by decide), fun q => hR.count hi (by omega), ite_mono (hR.drip hi) (by omega) (by decide)⟩
  · rw [e _ (by omega) (by omega), e _ (by omega) (by omega)]
    exact ⟨fun q => hR.pounds q hbb.2.2.1, hR.side hj, hR.wet hj, fun w hw => hR.brown hj hw⟩
  · by_cases c : i = ns
    · subst c
      rw [e81]
      intro z
      have := (nIeq (a := w) (b := 0) (by omega) (by decide)).mp z
      omega
    · rw [e _ (by omega) (by omega)]; exact hZ.1 i (by omega)
  · rw [e _ (by omega) (by omega)]; exact hZ.2 j hj
  · have e5 : κ2 (8 + i) 5 = κ1 (8 + i) 5 := by
      by_cases c : i = ns
      · subst c; exact e8 5 (by decide)
      · rw [e _ (by omega) (by omega)]
    rw [e5]
    rcases hM.1 i hi with q | ⟨a, j, b, c, d⟩
    · exact Or.inl q
    · exact Or.inr ⟨by omega, j, b, c, by rw [e _ (by omega) (by omega)]; exact d⟩
  · rw [e _ (by omega) (by omega)]
    rcases hM.2 j hj with q | ⟨a, i, b, c, d⟩
    · exact Or.inl q
    · exact Or.inr ⟨a, i, by omega, c, by rw [e _ (by omega) (by omega)]; exact d⟩
  · rw [e1 6 (by decide), e 91 (by decide) (by omega), hq 1 (by decide) (by omega), hq 91 (by decide) (by omega)]; exact h.2.1.1
  · rw [e1 7 (by decide), e 91 (by decide) (by omega), hq 1 (by decide) (by omega), hq 91 (by decide) (by omega)]; exact h.2.1.2
  · rw [e _ (by omega) (by omega), e _ (by omega) (by omega), hq _ (by omega) (by omega), hq _ (by omega) (by omega)]; exact h.2.2.1 i hi
  · rw [e (98 + i) (by omega) (by omega)]
    by_cases c : i = ns
    · subst c
      rw [e80, e81, e8 2 (by decide), e8 3 (by decide), e8 4 (by decide), e8 5 (by decide), z2, z3, z4, z5, g0, g1, g2, g3, g4, g5]
      exact ⟨rfl, rfl, rfl, rfl, rfl, rfl⟩
    · rw [e _ (by omega) (by omega), hq _ (by omega) (by omega), hq _ (by omega) (by omega)]; exact h.2.2.2.1 i (by omega)
  · rw [e _ (by omega) (by omega), e _ (by omega) (by omega), hq _ (by omega) (by omega), hq _ (by omega) (by omega)]; exact (h.2.2.2.2 j hj).1 f hf
  · rw [e _ (by omega) (by omega), e _ (by omega) (by omega), hq _ (by omega) (by omega), hq _ (by omega) (by omega)]; exact (h.2.2.2.2 j hj).2 w hw
theorem nI_mul (a b : Nat) : nI a * nI b = nI (a * b) := (Int32.ofNat_mul a b).symm
/-- the class hangs it, then the law -/
theorem op_hang {i p : Nat} (h : RR nf ns nr κ) (hi : i < ns) (h1 : 1 ≤ p) (h12 : p ≤ 12) (hn : nr < 16) (hs : κ (98 + i) 3 = -1) : ∃ κ2, f_X4_hang κ (nI i) (nI p) = .inr (nI nr, κ2) ∧ (∀ q, 46 ≤ q → κ2 q = κ q) ∧ ∀ κ3 : Kp, (∀ q, q < 136 → q ≠ 98 + i → q ≠ 104 + 2 * nr → q ≠ 105 + 2 * nr → κ3 q = κ2 q) → (∀ y, y ≠ 3 → y ≠ 4 → κ3 (98 + i) y = κ (98 + i) y) → κ3 (98 + i) 3 = nI nr → κ3 (98 + i) 4 = 0 → κ3 (104 + 2 * nr) 0 = nI p → κ3 (104 + 2 * nr) 1 = nI i → κ3 (104 + 2 * nr) 2 = 0 → κ3 (104 + 2 * nr) 3 = 3 * nI p → κ3 (104 + 2 * nr) 4 = 0 → (∀ w, w < 4 → κ3 (105 + 2 * nr) w = 0) → RR nf ns (nr + 1) κ3 := by
  have hb := h.b
  obtain ⟨⟨hbb, ⟨c3, c4, c5⟩, hR, hZ, hM⟩, hRl⟩ := id h
  have s5 : κ (8 + i) 5 = -1 := by rw [(hRl.2.2.1 i hi).2.2.2.2.2]; exact hs
  obtain ⟨κ2, hκ⟩ : ∃ κ2, up2 (up2 (up2 (up2 (up2 (up2 κ (14 + 2 * nr) 1 (nI p)) (14 + 2 * nr) 4 (3 * nI p)) (14 + 2 * nr) 2 (nI i)) (8 + i) 5 (nI nr)) (8 + i) 3 0) 1 5 (nI (nr + 1)) = κ2 := ⟨_, rfl⟩
  have e : ∀ q, q ≠ 1 → q ≠ 8 + i → q ≠ 14 + 2 * nr → κ2 q = κ q := fun q q1 q2 q3 => by rw [← hκ, up2_row q1, up2_row q2, up2_row q2, up2_row q3, up2_row q3, up2_row q3]
  have e1 : ∀ y, y ≠ 5 → κ2 1 y = κ 1 y := fun y hy => by rw [← hκ, up2_ne _ _ (by omega), up2_row (by omega), up2_row (by omega), up2_row (by omega), up2_row (by omega), up2_row (by omega)]
  have e15 : κ2 1 5 = nI (nr + 1) := by rw [← hκ]; exact up2_self _ _ _ _
  have e8 : ∀ y, y ≠ 3 → y ≠ 5 → κ2 (8 + i) y = κ (8 + i) y := fun y y1 y2 => by rw [← hκ, up2_row (by omega), up2_ne _ _ (by omega), up2_ne _ _ (by omega), up2_row (by omega), up2_row (by omega), up2_row (by omega)]
  have e83 : κ2 (8 + i) 3 = 0 := by rw [← hκ, up2_row (by omega), up2_self]
  have e85 : κ2 (8 + i) 5 = nI nr := by rw [← hκ, up2_row (by omega), up2_ne _ _ (by omega), up2_self]
  have f1 : κ2 (14 + 2 * nr) 1 = nI p := by rw [← hκ, up2_row (by omega), up2_row (by omega), up2_row (by omega), up2_ne _ _ (by omega), up2_ne _ _ (by omega), up2_self]
  have f4 : κ2 (14 + 2 * nr) 4 = 3 * nI p := by rw [← hκ, up2_row (by omega), up2_row (by omega), up2_row (by omega), up2_ne _ _ (by omega), up2_self]
  have f2 : κ2 (14 + 2 * nr) 2 = nI i := by rw [← hκ, up2_row (by omega), up2_row (by omega), up2_row (by omega), up2_self]
  have ff : ∀ y, y = 3 ∨ y = 5 → κ2 (14 + 2 * nr) y = κ (14 + 2 * nr) y := fun y hy => by rw [← hκ, up2_row (by omega), up2_row (by omega), up2_row (by omega), up2_ne _ _ (by omega), up2_ne _ _ (by omega), up2_ne _ _ (by omega)]
  have f3 : κ2 (14 + 2 * nr) 3 = 0 := by
    rw [ff 3 (Or.inl rfl)]
    exact vp_1 (by have := hR.side (j := nr) hn; rw [if_neg (by omega)] at this; exact this)
  have f5 : κ2 (14 + 2 * nr) 5 = 0 := by
    rw [ff 5 (Or.inr rfl)]
    exact vp_1 (by have := hR.wet (j := nr) hn; rw [if_neg (by omega)] at this; exact this)
  have fb : ∀ w, w < 4 → κ2 (15 + 2 * nr) w = 0 := fun w hw => by
    rw [e _ (by omega) (by omega) (by omega)]
    exact vp_1 (by have := hR.brown (j := nr) hn hw; rw [if_neg (by omega)] at this; exact this)
  have hpl : f_X1_placeRoast κ 1 (nI i) (nI p) = (nI nr, κ2) := by
    unfold f_X1_placeRoast
    rw [spitAt_N c4 hi hb.2.1]
    dsimp only
    rw [show 1 + 7 + i = 8 + i by omega, if_pos s5, c5, if_neg (nI0 (by omega)), if_pos (show nI nr < (16 : Int32) from (nIlt (a := nr) (b := 16) (by omega) (by decide)).mpr hn), nI_clamp (by omega), show 1 + 13 + 2 * nr = 14 + 2 * nr by omega]
    have q5 : up2 (up2 (up2 κ (14 + 2 * nr) 1 (nI p)) (14 + 2 * nr) 4 (3 * nI p)) (14 + 2 * nr) 2 (nI i) 1 5 = nI nr := by rw [up2_row (by omega), up2_row (by omega), up2_row (by omega)]; exact c5
    rw [q5]
    have q6 : up2 (up2 (up2 (up2 (up2 κ (14 + 2 * nr) 1 (nI p)) (14 + 2 * nr) 4 (3 * nI p)) (14 + 2 * nr) 2 (nI i)) (8 + i) 5 (nI nr)) (8 + i) 3 0 1 5 = nI nr := by rw [up2_row (by omega), up2_row (by omega)]; exact q5
    rw [q6, nI_up, hκ, e85]
  have hres : f_X4_hang κ (nI i) (nI p) = .inr (nI nr, κ2) := by
    unfold f_X4_hang
    rw [spitN h.1 hi]
    dsimp only
    rw [poundsN h1 h12]
    dsimp only
    rw [hpl]
    dsimp only
    rw [if_neg (nI_ne1 (by omega))]
  refine ⟨κ2, hres, fun q hq => e q (by omega) (by omega) (by omega), fun κ3 hq y3 y33 y34 x0 x1 x2 x3 x4 xb => ?_⟩
  have t : ∀ q, q < 46 → κ3 q = κ2 q := fun q hq1 => hq q (by omega) (by omega) (by omega) (by omega)
  refine ⟨⟨⟨hbb.1, hbb.2.1, by omega, hbb.2.2.2⟩, ⟨by rw [t 1 (by decide), e1 3 (by decide)]; exact c3, by rw [t 1 (by decide), e1 4 (by decide)]; exact c4, by rw [t 1 (by decide)]; exact e15⟩, Rg.mk hbb.2.1 (by omega) (fun i2 hi2 => ?_) (fun i2 hi2 => ?_) (fun j hj => ?_), ⟨fun i2 hi2 => ?_, fun j hj => ?_⟩, ⟨fun i2 hi2 => ?_, fun j hj => ?_⟩⟩, ⟨⟨?_, ?_⟩, fun i2 hi2 => ?_, fun i2 hi2 => ?_, fun j hj => ⟨fun f hf => ?_, fun w hw => ?_⟩⟩⟩
  · rw [t _ (by omega), e _ (by omega) (by omega) (by omega)]
    exact ⟨hR.logs hi2, hR.heat hi2, hR.flar hi2⟩
  · rw [t _ (by omega)]
    by_cases c : i2 = i
    · subst c
      rw [e83, e8 0 (by decide) (by decide), e8 1 (by decide) (by decide), e8 2 (by decide) (by decide), e8 4 (by decide) (by decide)]
      exact ⟨fun q => ⟨hR.fire hi hb.2.1 (by omega), hR.feet hi hb.2.1⟩, hR.each hi2, fun _ => rfl, hR.drip hi2⟩
    · rw [e _ (by omega) (by omega) (by omega)]
      exact ⟨fun q => ⟨hR.fire q hb.2.1 (by omega), hR.feet q hb.2.1⟩, hR.each hi2, hR.count hi2, hR.drip hi2⟩
  · rw [t _ (by omega), t _ (by omega)]
    by_cases c : j = nr
    · subst c
      rw [f1, f3, f5]
      exact ⟨fun _ => vp_in_nI (by omega) (by decide), vp_0 (by split <;> decide), vp_0 (by split <;> decide), fun w hw => by rw [fb w hw]; exact vp_0 (by split <;> decide)⟩
    · rw [e _ (by omega) (by omega) (by omega), e _ (by omega) (by omega) (by omega)]
      exact ⟨fun q => hR.pounds (by omega) hb.2.2, ite_mono (hR.side hj) (by omega) (by decide), ite_mono (hR.wet hj) (by omega) (by decide), fun w hw => ite_mono (hR.brown hj hw) (by omega) (by decide)⟩
  · rw [t _ (by omega)]
    by_cases c : i2 = i
    · subst c
      rw [e8 1 (by decide) (by decide)]; exact hZ.1 _ hi2
    · rw [e _ (by omega) (by omega) (by omega)]; exact hZ.1 _ hi2
  · rw [t _ (by omega)]
    by_cases c : j = nr
    · subst c
      rw [f1, f4, nI_clamp (by omega), show (3 : Int32) * nI p = nI (3 * p) from nI_mul 3 p]
      refine ⟨fun z => ?_, vp_in_nI (by omega) (by omega)⟩
      have := (nIeq (a := p) (b := 0) (by omega) (by decide)).mp z
      omega
    · rw [e _ (by omega) (by omega) (by omega)]; exact hZ.2 j (by omega)
  · rw [t _ (by omega)]
    by_cases c : i2 = i
    · subst c
      exact Or.inr ⟨hi, nr, by omega, e85, by rw [t _ (by omega)]; exact f2⟩
    · rw [e _ (by omega) (by omega) (by omega)]
      rcases hM.1 i2 hi2 with q | ⟨a, j, b, c2, d⟩
      · exact Or.inl q
      · exact Or.inr ⟨a, j, by omega, c2, by rw [t _ (by omega), e _ (by omega) (by omega) (by omega)]; exact d⟩
  · rw [t _ (by omega)]
    by_cases c : j = nr
    · subst c
      exact Or.inr ⟨by omega, i, hi, f2, by rw [t _ (by omega)]; exact e85⟩
    · rw [e _ (by omega) (by omega) (by omega)]
      rcases hM.2 j hj with q | ⟨a, i2, b, c2, d⟩
      · exact Or.inl q
      · refine Or.inr ⟨by omega, i2, b, c2, ?_⟩
        by_cases ci : i2 = i
        · subst ci
          rw [s5] at d
          exact absurd d.symm (nI_ne1 (by omega))
        · rw [t _ (by omega), e _ (by omega) (by omega) (by omega)]; exact d
  · rw [t 1 (by decide), e1 6 (by decide), hq 91 (by decide) (by omega) (by omega) (by omega), e 91 (by decide) (by omega) (by omega)]; exact hRl.1.1
  · rw [t 1 (by decide), e1 7 (by decide), hq 91 (by decide) (by omega) (by omega) (by omega), e 91 (by decide) (by omega) (by omega)]; exact hRl.1.2
  · rw [t _ (by omega), e _ (by omega) (by omega) (by omega), hq (95 + i2) (by omega) (by omega) (by omega) (by omega), e (95 + i2) (by omega) (by omega) (by omega)]; exact hRl.2.1 i2 hi2
  · rw [t _ (by omega)]
    by_cases c : i2 = i
    · subst c
      rw [e83, e85, y33, y34, y3 0 (by decide) (by decide), y3 1 (by decide) (by decide), y3 2 (by decide) (by decide), y3 5 (by decide) (by decide), e8 0 (by decide) (by decide), e8 1 (by decide) (by decide), e8 2 (by decide) (by decide), e8 4 (by decide) (by decide)]
      have := hRl.2.2.1 i2 hi2
      exact ⟨this.1, this.2.1, this.2.2.1, rfl, this.2.2.2.2.1, rfl⟩
    · rw [e _ (by omega) (by omega) (by omega), hq (98 + i2) (by omega) (by omega) (by omega) (by omega), e (98 + i2) (by omega) (by omega) (by omega)]; exact hRl.2.2.1 i2 hi2
  · rw [t _ (by omega)]
    by_cases c : j = nr
    · subst c
      have hf5 : f = 0 ∨ f = 1 ∨ f = 2 ∨ f = 3 ∨ f = 4 := by omega
      rcases hf5 with rfl | rfl | rfl | rfl | rfl
      · rw [x0]; exact f1
      · rw [x1]; exact f2
      · rw [x2]; exact f3
      · rw [x3]; exact f4
      · rw [x4]; exact f5
    · rw [e _ (by omega) (by omega) (by omega), hq (104 + 2 * j) (by omega) (by omega) (by omega) (by omega), e (104 + 2 * j) (by omega) (by omega) (by omega)]; exact (hRl.2.2.2 j (by omega)).1 f hf
  · rw [t _ (by omega)]
    by_cases c : j = nr
    · subst c
      rw [fb w hw, show 104 + 2 * j + 1 = 105 + 2 * j by omega, xb w hw]
    · rw [e _ (by omega) (by omega) (by omega), hq (104 + 2 * j + 1) (by omega) (by omega) (by omega) (by omega), e (104 + 2 * j + 1) (by omega) (by omega) (by omega)]; exact (hRl.2.2.2 j (by omega)).2 w hw
end CNTS
