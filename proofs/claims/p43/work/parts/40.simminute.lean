section SIMM
variable {nf ns nr : Nat} {κ κ' m : Kp} {v : Int32}
theorem wS_at (r : Nat → Int32) (a : Int32) {f : Nat} (h5 : f ≠ 5) (h4 : f ≠ 4) : wS r a f = r f := by
  unfold wS
  split
  · exact va_up_ne _ _ h5
  · rw [va_up_ne _ _ h4, va_up_ne _ _ h5]
theorem wS_5 (r : Nat → Int32) (a : Int32) : wS r a 5 = gG (r 4) a := by
  unfold wS
  split
  · rw [va_up_self]
  · rw [va_up_ne _ _ (by decide), va_up_self]
theorem wS_4 (r : Nat → Int32) (a : Int32) : wS r a 4 = if r 4 ≤ 0 then r 4 else r 4 - 1 := by
  unfold wS
  split
  · rw [va_up_ne _ _ (by decide)]
  · rw [va_up_self]
theorem wR_5v (r : Nat → Int32) : wR r 5 = if r 5 ≤ 0 then r 5 else r 5 - 1 := by
  unfold wR
  split
  · rfl
  · rw [va_up_self]
theorem bR_congr {r r2 : Nat → Int32} {s g : Int32} (hs : vp_in s 4) (h : ∀ w, w < 4 → r w = r2 w) : ∀ w, w < 4 → bR r s g w = bR r2 s g w := by
  have one : ∀ {r r2 : Nat → Int32} {s m : Int32}, vp_in s 4 → (∀ w, w < 4 → r w = r2 w) → ∀ w, w < 4 → b1 r s m w = b1 r2 s m w := by
    intro r r2 s m hs h w hw
    unfold b1
    rw [h _ (vpi_lt hs)]
    by_cases e : w = s.toNatClampNeg
    · subst e; rw [va_up_self, va_up_self]
    · rw [va_up_ne _ _ e, va_up_ne _ _ e, h w hw]
  exact one (nx_in hs).2 (one (nx_in hs).1 (one hs h))
/-- a minute of the class's kitchen and of the law's: as many flares, and they stay alike -/
theorem sim_minute (hI : Iv nf ns nr κ) (hRl : Rl nf ns nr κ m) (hC : CM κ v κ') : ∃ m' : Kp, f_X6_pass nf ns nr m = (v, m') ∧ Rl nf ns nr κ' m' ∧ ∀ q, q < 91 ∨ (136 ≤ q ∧ q < 160) → m' q = m q := by
  have hI0 := hI
  obtain ⟨⟨hnf, hns, hnr, hpos⟩, -, hR, hZ, hM⟩ := hI
  obtain ⟨⟨r1, r2⟩, rF, rS, rR⟩ := hRl
  obtain ⟨n1, n2, n3, n4, n5, n6⟩ := hC
  -- the glows
  obtain ⟨g1, g2⟩ := p10 hI0 ns 0 (va_up m 160 (fun _ => 0)) (by omega) (fun i hi => by rw [va_up_ne m _ (by omega)]; exact (rF i hi).2) (fun i hi => by rw [va_up_ne m _ (by omega)]; exact ⟨(rS i hi).1, (rS i hi).2.1⟩) (fun i hi => absurd hi (Nat.not_lt_zero i))
  unfold f_X6_pass
  generalize lp_X6_pass_10 ns 0 (va_up m 160 (fun _ => 0)) = m2 at g1 g2
  have e2 : ∀ q, q ≠ 160 → m2 q = m q := fun q hq => by rw [g2 q hq, va_up_ne m _ hq]
  have sp : ∀ j, j < nr → m2 (104 + 2 * j) 1 = κ (14 + 2 * j) 2 := fun j hj => by rw [e2 _ (by omega)]; exact ((rR j hj).1 1 (by decide)).symm
  have sd : ∀ j, j < nr → vp_in (κ (14 + 2 * j) 3) 4 := fun j hj => by
    have := hR.side (j := j) (by omega)
    rw [if_pos hj] at this; exact this
  -- the roasts
  obtain ⟨a1, a2⟩ := p44 hns hnr m2 g1 (fun i hi => gl_in hI0 hi) (fun j hj h0 => by
    rw [sp j hj] at h0 ⊢
    obtain ⟨i, w1, w2, w3, w4, w5⟩ := hM.sp hns (by omega) h0
    refine ⟨by rw [w5]; exact w1, ?_⟩
    rw [e2 _ (by omega), ← (rR j hj).1 2 (by decide)]
    exact sd j hj) nr 0 m2 (by omega) (fun j _ hj => ⟨rfl, rfl⟩) rfl
  generalize lp_X6_pass_44 nr 0 m2 = m3 at a1 a2
  obtain ⟨b, hb⟩ : ∃ b : Kp, va_up m3 161 (fun _ => 0) = b := ⟨_, rfl⟩
  rw [hb]
  have eb : ∀ q, q ≠ 161 → b q = m3 q := fun q hq => by rw [← hb, va_up_ne _ _ hq]
  have b161 : b 161 = fun _ => 0 := by rw [← hb, va_up_self]
  have bS : ∀ i, i < ns → b (98 + i) = m (98 + i) := fun i hi => by rw [eb _ (by omega), a2 _ (by omega), e2 _ (by omega)]
  have bF' : ∀ i, i < nf → b (95 + i) = m (95 + i) := fun i hi => by rw [eb _ (by omega), a2 _ (by omega), e2 _ (by omega)]
  have bN : ∀ j, j < nr → κ (14 + 2 * j) 2 < 0 → b (104 + 2 * j) = m (104 + 2 * j) ∧ b (104 + 2 * j + 1) = m (104 + 2 * j + 1) := fun j hj c => by
    obtain ⟨y1, y2⟩ := ((a1 j hj).1 (Nat.zero_le j)).1 (by rw [sp j hj]; exact c)
    rw [eb _ (by omega), eb _ (by omega), y1, y2, e2 _ (by omega), e2 _ (by omega)]
    exact ⟨rfl, rfl⟩
  have bO : ∀ j, j < nr → ¬ κ (14 + 2 * j) 2 < 0 → b (104 + 2 * j) = wS (m (104 + 2 * j)) (gl κ (κ (14 + 2 * j) 2).toNatClampNeg) ∧ b (104 + 2 * j + 1) = bR (m (104 + 2 * j + 1)) (κ (14 + 2 * j) 3) (gt κ (κ (14 + 2 * j) 2).toNatClampNeg j) := fun j hj c => by
    obtain ⟨y1, y2⟩ := ((a1 j hj).1 (Nat.zero_le j)).2 (by rw [sp j hj]; exact c)
    rw [sp j hj, e2 _ (by omega)] at y1
    rw [sp j hj, e2 _ (by omega), e2 _ (by omega)] at y2
    rw [eb _ (by omega), eb _ (by omega), y1, y2, ← (rR j hj).1 2 (by decide), ← (rR j hj).1 4 (by decide)]
    exact ⟨rfl, rfl⟩
  have bsame : ∀ j, j < nr → ∀ f, f < 4 → b (104 + 2 * j) f = κ (14 + 2 * j) (f + 1) := fun j hj f hf => by
    by_cases c : κ (14 + 2 * j) 2 < 0
    · rw [(bN j hj c).1]; exact ((rR j hj).1 f (by omega)).symm
    · rw [(bO j hj c).1, wS_at _ _ (by omega) (by omega)]; exact ((rR j hj).1 f (by omega)).symm
  -- the drippings
  obtain ⟨v5, m5, e5, q1, q2, q3, q4, q5⟩ := QI_all (b := b) hI0 (fun j hj => ⟨bsame j hj 1 (by decide), bsame j hj 3 (by decide), fun c => by
      rw [(bO j hj c).1, wS_5, ← (rR j hj).1 4 (by decide)]; rfl⟩) (fun i hi => by rw [bS i hi]; exact ⟨(rS i hi).1.symm, (rS i hi).2.2.2.2.1.symm⟩) nr 0 0 b (by omega) (by
    refine ⟨fun j hj => ⟨fun z => absurd z.1 (Nat.not_lt_zero j), fun _ => rfl⟩, fun i hi => ⟨fun z => absurd z.2.1 (Nat.not_lt_zero _), fun _ => rfl⟩, fun f hf => ?_, fun q _ _ => rfl, rfl⟩
    rw [b161]; rfl)
  rw [e5]
  dsimp only
  have ev : v5 = v := by rw [q5, n6, flares_eq hM hns hnr]
  subst ev
  have m5s : ∀ i, i < ns → ∀ f, f ≠ 2 → m5 (98 + i) f = b (98 + i) f := fun i hi f hf => by
    by_cases c : pP κ i nr
    · rw [(q2 i hi).1 c, va_up_ne _ _ hf]
    · rw [(q2 i hi).2 c]
  have m5r : ∀ j, j < nr → ∀ f, f ≠ 3 → m5 (104 + 2 * j) f = b (104 + 2 * j) f := fun j hj f hf => by
    by_cases c : j < nr ∧ dP κ j
    · rw [(q1 j hj).1 c, va_up_ne _ _ hf]
    · rw [(q1 j hj).2 c]
  -- the turns
  have hT := TI_all (b := m5) hI0 (fun j hj => by rw [m5r j hj 2 (by decide)]; exact bsame j hj 2 (by decide)) (fun i hi => by
    rw [m5s i hi 3 (by decide), m5s i hi 4 (by decide), m5s i hi 5 (by decide), bS i hi]
    exact ⟨(rS i hi).2.2.2.2.2.symm, (rS i hi).2.2.2.1.symm, (rS i hi).2.2.1.symm⟩) ns 0 m5 (by omega) ⟨fun i hi => ⟨fun z => absurd z.1 (Nat.not_lt_zero i), fun _ => rfl⟩, fun j hj => ⟨fun z => absurd z.1.2 (Nat.not_lt_zero _), fun _ => rfl⟩, fun q _ => rfl⟩
  obtain ⟨t1, t2, t3⟩ := hT
  generalize lp_X6_pass_224 ns 0 m5 = m6 at t1 t2 t3
  -- the fires
  obtain ⟨f1, f2⟩ := p312 (nf := nf) nf 0 m6 (by omega) hnf
  generalize lp_X6_pass_312 nf 0 m6 = m7 at f1 f2
  have low : ∀ q, q < 95 ∨ (136 ≤ q ∧ q < 160) → m7 q = m q := fun q hq => by
    rw [f2 q (by omega), t3 q (by omega), q4 q (by omega) (by omega), eb q (by omega), a2 q (by omega), e2 q (by omega)]
  have e91 : m7 91 = m 91 := low 91 (Or.inl (by decide))
  refine ⟨_, rfl, ⟨⟨?_, ?_⟩, fun i hi => ?_, fun i hi => ?_, fun j hj => ⟨fun f hf => ?_, fun w hw => ?_⟩⟩, fun q hq => (up2_row (by omega)).trans (low q (by omega))⟩
  · rw [n4, va_up_self, up2_self, e91, r1]
  · rw [n4, va_up_ne _ _ (by decide), up2_ne _ _ (Or.inr (by decide)), e91]; exact r2
  · rw [n3 i (by omega), up2_row (by omega), f1 i hi, if_pos (Nat.zero_le i)]
    have ei : m6 (95 + i) = m (95 + i) := by rw [t3 _ (by omega), q4 _ (by omega) (by omega), bF' i hi]
    have e61 : m6 161 i = nI (cf κ i 6) := by rw [t3 161 (by omega), q3 i hi, flare_eq hM hns hnr i]
    have e691 : m6 91 0 = κ 1 6 := by rw [t3 91 (by omega), q4 91 (by omega) (by omega), eb 91 (by omega), a2 91 (by omega), e2 91 (by omega)]; exact r1.symm
    rw [ei, e61, e691]
    unfold bF lF
    obtain ⟨x0, x1⟩ := rF i hi
    refine ⟨?_, ?_⟩
    · rw [va_up_ne _ _ (by decide), va_up_ne _ _ (by decide), va_up_self, va_up_ne _ _ (by decide), va_up_ne _ _ (by decide), va_up_self, x0]
    · rw [va_up_ne _ _ (by decide), va_up_self, va_up_self, va_up_ne _ _ (by decide), va_up_ne _ _ (by decide), va_up_self, x0, x1]
  · rw [n1 i (by omega), up2_row (by omega), f2 _ (by omega)]
    obtain ⟨x0, x1, x2, x3, x4, x5⟩ := rS i hi
    by_cases c : κ (8 + i) 5 < 0
    · have h1 : m6 (98 + i) = m (98 + i) := by
        rw [(t1 i hi).2 (fun z => z.2 c), (q2 i hi).2 (fun z => z.1 c), bS i hi]
      unfold fS
      rw [if_pos c, h1]
      exact ⟨x0, x1, x2, x3, x4, x5⟩
    · obtain ⟨j, w1, w2, w3, w4, w5⟩ := hM.hd hnr (by omega) c
      have h1 : m6 (98 + i) = va_up (m5 (98 + i)) 4 (κ (8 + i) 3 + 1) := (t1 i hi).1 ⟨hi, c⟩
      rw [h1, fS_at κ i (f := 0) (by decide) (by decide), fS_at κ i (f := 1) (by decide) (by decide), fS_at κ i (f := 2) (by decide) (by decide), fS_at κ i (f := 5) (by decide) (by decide)]
      rw [va_up_ne _ _ (show (0 : Nat) ≠ 4 by decide), va_up_ne _ _ (show (1 : Nat) ≠ 4 by decide), va_up_ne _ _ (show (5 : Nat) ≠ 4 by decide), va_up_self, va_up_ne _ _ (show (2 : Nat) ≠ 4 by decide), va_up_ne _ _ (show (3 : Nat) ≠ 4 by decide), m5s i hi 0 (by decide), m5s i hi 1 (by decide), m5s i hi 5 (by decide), m5s i hi 3 (by decide), bS i hi]
      refine ⟨x0, x1, x2, ?_, ?_, x5⟩
      · unfold fS
        rw [if_neg c]
        exact va_up_self _ _ _
      · unfold fS
        rw [if_neg c, rowS_4, w5]
        by_cases cd : (dr κ i j && !fu κ i) = true
        · rw [if_pos cd, (q2 i hi).1 ⟨c, by rw [w5]; exact w2, by rw [w5]; exact cd⟩, va_up_self, bS i hi, x4]
        · rw [if_neg cd, (q2 i hi).2 (fun z => cd (by have := z.2.2; rw [w5] at this; exact this)), bS i hi, x4]
  · rw [up2_row (by omega), f2 _ (by omega)]
    by_cases c : κ (14 + 2 * j) 2 < 0
    · rw [((n2 j (by omega)).2 c).1, (t2 j hj).2 (fun z => z.1.1 c), (q1 j hj).2 (fun z => z.2.1 c), (bN j hj c).1]
      exact (rR j hj).1 f hf
    · obtain ⟨i, w1, w2, w3, w4, w5⟩ := hM.sp hns (by omega) c
      rw [((n2 j (by omega)).1 c).1, w5]
      have hon : onT κ j ns := ⟨c, by rw [w5]; exact w1⟩
      have h6 : ∀ f, f ≠ 2 → m6 (104 + 2 * j) f = m5 (104 + 2 * j) f := fun f hf => by
        by_cases ct : onT κ j ns ∧ tu κ (κ (14 + 2 * j) 2).toNatClampNeg = true
        · rw [(t2 j hj).1 ct, va_up_ne _ _ hf]
        · rw [(t2 j hj).2 ct]
      have hf5 : f = 0 ∨ f = 1 ∨ f = 2 ∨ f = 3 ∨ f = 4 := by omega
      rcases hf5 with rfl | rfl | rfl | rfl | rfl
      · rw [rowR_at κ i j (by decide) (by decide) (by decide), h6 0 (by decide), m5r j hj 0 (by decide)]
        exact (bsame j hj 0 (by decide)).symm
      · rw [rowR_at κ i j (by decide) (by decide) (by decide), h6 1 (by decide), m5r j hj 1 (by decide)]
        exact (bsame j hj 1 (by decide)).symm
      · rw [rowR_3]
        by_cases ct : tu κ i = true
        · rw [if_pos ct, (t2 j hj).1 ⟨hon, by rw [w5]; exact ct⟩, va_up_self]
        · rw [if_neg ct, (t2 j hj).2 (fun z => ct (by have := z.2; rw [w5] at this; exact this)), m5r j hj 2 (by decide)]
          exact (bsame j hj 2 (by decide)).symm
      · rw [rowR_4, h6 3 (by decide)]
        by_cases cd : dr κ i j = true
        · rw [if_pos cd, (q1 j hj).1 ⟨hj, c, by rw [w5]; exact cd⟩, va_up_self, bsame j hj 3 (by decide)]
        · rw [if_neg cd, (q1 j hj).2 (fun z => cd (by have := z.2.2; rw [w5] at this; exact this)), bsame j hj 3 (by decide)]
      · rw [rowR_5, h6 4 (by decide), m5r j hj 4 (by decide), (bO j hj c).1, wS_4, wR_5v, ← (rR j hj).1 4 (by decide)]
  · rw [up2_row (by omega), f2 _ (by omega), t3 _ (by omega), q4 _ (by omega) (by omega)]
    by_cases c : κ (14 + 2 * j) 2 < 0
    · rw [((n2 j (by omega)).2 c).2, (bN j hj c).2]
      exact (rR j hj).2 w hw
    · rw [((n2 j (by omega)).1 c).2, (bO j hj c).2]
      exact bR_congr (sd j hj) (fun w hw => (rR j hj).2 w hw) w hw
end SIMM
