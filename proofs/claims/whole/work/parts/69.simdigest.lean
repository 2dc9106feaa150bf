section SIMDG
variable {k nf ns nr : Nat} {κ0 m0 κc κm : Kp}
theorem sim_sum38 (h : J k nf ns nr κ0 m0 κc κm) (hnr : nr ≤ 16) {i : Nat} (hi : i < nr) : ∀ (n j : Nat) (v : Int32), j + n = 4 → lp_X1_sumBrown_38 κc k i n j v = lp_X5_meanBrown_19 κm i n j v := by
  intro n
  induction n with
  | zero => intro j v hj; rfl
  | succ n ih =>
    intro j v hj
    rw [lp_X1_sumBrown_38, lp_X5_meanBrown_19, RX_brown h.1 (i := i) (w := j) (by omega) (by omega), ro_N (i := i) (w := 4 + j) (by omega) (by omega), show 37 + 8 * i + (4 + j) = 37 + 8 * i + 4 + j by omega]
    exact ih (j + 1) _ (by omega)
theorem sim_sum (hB : Bs k nf ns nr κ0 m0) (h : J k nf ns nr κ0 m0 κc κm) (h3 : κm 91 3 = nI nr) : ∀ (n j : Nat) (v : Int32), j + n = 16 → lp_X1_sumBrown κc k n j v = lp_X5_meanBrown_9 κm n j v := by
  intro n
  have hc := J_cnt hB h
  have hnr := hB.2.2.1.2.2
  induction n with
  | zero => intro j v hj; rfl
  | succ n ih =>
    intro j v hj
    rw [lp_X1_sumBrown, lp_X5_meanBrown_9, hc.2.2, h3]
    by_cases c : nI nr ≤ nI j
    · rw [if_pos c, if_pos c]
    · rw [if_neg c, if_neg c]
      rw [nIle (by omega) (by omega)] at c
      dsimp only
      rw [sim_sum38 h hnr (i := j) (by omega) 4 0 v rfl]
      exact ih (j + 1) _ (by omega)
theorem dg61 (κ : Kp) (tf : Nat → Int32) (w : Int64) : lp_X5_digest_61 κ tf 5 0 w = f_X4_mix (f_X4_mix (f_X4_mix (f_X4_mix (f_X4_mix w (tf 0).toInt64) (tf 1).toInt64) (tf 2).toInt64) (tf 3).toInt64) (tf 4).toInt64 := rfl
theorem dg230 (κ : Kp) (tf : Nat → Int32) (w : Int64) : lp_X5_digest_230 κ tf 6 0 w = f_X4_mix (f_X4_mix (f_X4_mix (f_X4_mix (f_X4_mix (f_X4_mix w (tf 0).toInt64) (tf 1).toInt64) (tf 2).toInt64) (tf 3).toInt64) (tf 4).toInt64) (tf 5).toInt64 := rfl
theorem dg383 (κ : Kp) (tf : Nat → Int32) (w : Int64) : lp_X5_digest_383 κ tf 7 0 w = f_X4_mix (f_X4_mix (f_X4_mix (f_X4_mix (f_X4_mix (f_X4_mix (f_X4_mix w (tf 0).toInt64) (tf 1).toInt64) (tf 2).toInt64) (tf 3).toInt64) (tf 4).toInt64) (tf 5).toInt64) (tf 6).toInt64 := rfl
theorem tf5 (z : Nat → Int32) (a0 a1 a2 a3 a4 : Int32) : (va_up (va_up (va_up (va_up (va_up z 0 a0) 1 a1) 2 a2) 3 a3) 4 a4) 0 = a0 ∧ (va_up (va_up (va_up (va_up (va_up z 0 a0) 1 a1) 2 a2) 3 a3) 4 a4) 1 = a1 ∧ (va_up (va_up (va_up (va_up (va_up z 0 a0) 1 a1) 2 a2) 3 a3) 4 a4) 2 = a2 ∧ (va_up (va_up (va_up (va_up (va_up z 0 a0) 1 a1) 2 a2) 3 a3) 4 a4) 3 = a3 ∧ (va_up (va_up (va_up (va_up (va_up z 0 a0) 1 a1) 2 a2) 3 a3) 4 a4) 4 = a4 := ⟨rfl, rfl, rfl, rfl, rfl⟩
theorem mix61 (κ : Kp) (z : Nat → Int32) (a0 a1 a2 a3 a4 : Int32) (w : Int64) : lp_X5_digest_61 κ (va_up (va_up (va_up (va_up (va_up z 0 a0) 1 a1) 2 a2) 3 a3) 4 a4) 5 0 w = f_X4_mix (f_X4_mix (f_X4_mix (f_X4_mix (f_X4_mix w a0.toInt64) a1.toInt64) a2.toInt64) a3.toInt64) a4.toInt64 := by
  rw [dg61]; rfl
theorem mix230 (κ : Kp) (z : Nat → Int32) (a0 a1 a2 a3 a4 a5 : Int32) (w : Int64) : lp_X5_digest_230 κ (va_up (va_up (va_up (va_up (va_up (va_up z 0 a0) 1 a1) 2 a2) 3 a3) 4 a4) 5 a5) 6 0 w = f_X4_mix (f_X4_mix (f_X4_mix (f_X4_mix (f_X4_mix (f_X4_mix w a0.toInt64) a1.toInt64) a2.toInt64) a3.toInt64) a4.toInt64) a5.toInt64 := by
  rw [dg230]; rfl
theorem mix383 (κ : Kp) (z : Nat → Int32) (a0 a1 a2 a3 a4 a5 a6 : Int32) (w : Int64) : lp_X5_digest_383 κ (va_up (va_up (va_up (va_up (va_up (va_up (va_up z 0 a0) 1 a1) 2 a2) 3 a3) 4 a4) 5 a5) 6 a6) 7 0 w = f_X4_mix (f_X4_mix (f_X4_mix (f_X4_mix (f_X4_mix (f_X4_mix (f_X4_mix w a0.toInt64) a1.toInt64) a2.toInt64) a3.toInt64) a4.toInt64) a5.toInt64) a6.toInt64 := by
  rw [dg383]; rfl
end SIMDG
section SIMDG2
variable {nf ns nr : Nat} {κ0 m0 κc κm : Kp}
theorem sim_mixFires (hB : Bs 1 nf ns nr κ0 m0) (h : J 1 nf ns nr κ0 m0 κc κm) (h1 : κm 91 1 = nI nf) (a : Int64) : ∀ (n j : Nat) (w : Int64), j + n = 3 → lp_X4_mixFires κc a n j w = lp_X5_digest_94 κm n j w := by
  intro n
  have hc := J_cnt hB h
  have hnf := hB.2.2.1.1
  induction n with
  | zero => intro j v hj; rfl
  | succ n ih =>
    intro j w hj
    rw [lp_X4_mixFires, lp_X5_digest_94, hc.1, h1]
    by_cases c : nI nf ≤ nI j
    · rw [if_pos c, if_pos c]
    · rw [if_neg c, if_neg c, RX_fire h.1 (i := j) (j := 0) (by omega) (by decide), RX_fire h.1 (i := j) (j := 1) (by omega) (by decide), show f_X5_fi κm (nI j) 0 = κm 96 (1 + 2 * j + 0) from fi_N (w := 0) (by omega) (by decide), show f_X5_fi κm (nI j) 1 = κm 96 (1 + 2 * j + 1) from fi_N (w := 1) (by omega) (by decide)]
      exact ih (j + 1) _ (by omega)
theorem sim_mixSpits (hB : Bs 1 nf ns nr κ0 m0) (h : J 1 nf ns nr κ0 m0 κc κm) (h1 : κm 91 2 = nI ns) (a : Int64) : ∀ (n j : Nat) (w : Int64), j + n = 6 → lp_X4_mixSpits κc a n j w = lp_X5_digest_142 κm n j w := by
  intro n
  have hc := J_cnt hB h
  have hns := hB.2.2.1.2.1
  induction n with
  | zero => intro j v hj; rfl
  | succ n ih =>
    intro j w hj
    rw [lp_X4_mixSpits, lp_X5_digest_142, hc.2.1, h1]
    by_cases c : nI ns ≤ nI j
    · rw [if_pos c, if_pos c]
    · rw [if_neg c, if_neg c]
      rw [nIle (by omega) (by omega)] at c
      have hj6 : j < 6 := by omega
      dsimp only
      obtain ⟨s1, s2, s3, s4, s5⟩ := RX_spit h.1 hj6
      obtain ⟨gl, -, g1, g2⟩ := sim_glowOf hB h (j := j) (by omega)
      obtain ⟨f, -, p1, p2⟩ := J_place hB h (j := j) (by omega)
      rw [mix230, show f_X5_sp κm (nI j) 0 = κm 96 (7 + 5 * j) from sp_N (w := 0) hj6 (by decide), show f_X5_sp κm (nI j) 4 = κm 96 (7 + 5 * j + 4) from sp_N (w := 4) hj6 (by decide), show f_X5_sp κm (nI j) 1 = κm 96 (7 + 5 * j + 1) from sp_N (w := 1) hj6 (by decide), show f_X5_sp κm (nI j) 2 = κm 96 (7 + 5 * j + 2) from sp_N (w := 2) hj6 (by decide), g1, g2, p1, p2, s1, s2, s3, s5]
      exact ih (j + 1) _ (by omega)
theorem sim_mix148 (h : J 1 nf ns nr κ0 m0 κc κm) (hnr : nr ≤ 16) {i : Nat} (hi : i < nr) (a : Int64) : ∀ (n j : Nat) (w : Int64), j + n = 4 → lp_X4_mixRoasts_148 κc a i n j w = lp_X5_digest_416 κm i n j w := by
  intro n
  induction n with
  | zero => intro j v hj; rfl
  | succ n ih =>
    intro j w hj
    rw [lp_X4_mixRoasts_148, lp_X5_digest_416, RX_brown h.1 (i := i) (w := j) (by omega) (by omega), ro_N (i := i) (w := 4 + j) (by omega) (by omega), show 37 + 8 * i + (4 + j) = 37 + 8 * i + 4 + j by omega]
    exact ih (j + 1) _ (by omega)
theorem sim_mixRoasts (hB : Bs 1 nf ns nr κ0 m0) (h : J 1 nf ns nr κ0 m0 κc κm) (h1 : κm 91 3 = nI nr) (a : Int64) : ∀ (n j : Nat) (w : Int64), j + n = 16 → lp_X4_mixRoasts κc a n j w = lp_X5_digest_269 κm n j w := by
  intro n
  have hc := J_cnt hB h
  have hnr := hB.2.2.1.2.2
  have z0 : (0 : Int32).toInt64 = 0 := rfl
  have z1 : (1 : Int32).toInt64 = 1 := rfl
  induction n with
  | zero => intro j v hj; rfl
  | succ n ih =>
    intro j w hj
    rw [lp_X4_mixRoasts, lp_X5_digest_269, hc.2.2, h1]
    by_cases c : nI nr ≤ nI j
    · rw [if_pos c, if_pos c]
    · rw [if_neg c, if_neg c]
      rw [nIle (by omega) (by omega)] at c
      have hj2 : j < nr := by omega
      have hj6 : j < 16 := by omega
      dsimp only
      rw [sim_done hB h hj2, sim_burnt hB h hj2, mix383, mix383, mix383, mix383, J_pounds hB h hj2, RX_on h.1 hj6, RX_roast h.1 hj6 (w := 1) (by decide) (by decide), RX_roast h.1 hj6 (w := 2) (by decide) (by decide), RX_roast h.1 hj6 (w := 3) (by decide) (by decide)]
      rw [show f_X5_ro κm (nI j) 0 = κm 96 (37 + 8 * j) from ro_N (w := 0) hj6 (by decide), show f_X5_ro κm (nI j) 1 = κm 96 (37 + 8 * j + 1) from ro_N (w := 1) hj6 (by decide), show f_X5_ro κm (nI j) 2 = κm 96 (37 + 8 * j + 2) from ro_N (w := 2) hj6 (by decide), show f_X5_ro κm (nI j) 3 = κm 96 (37 + 8 * j + 3) from ro_N (w := 3) hj6 (by decide), z0, z1]
      have h4 : ∀ w, lp_X4_mixRoasts_148 κc a j 4 0 w = lp_X5_digest_416 κm j 4 0 w := fun w => sim_mix148 h hnr hj2 a 4 0 w rfl
      rw [h4, h4, h4, h4, ih (j + 1) _ (by omega), ih (j + 1) _ (by omega), ih (j + 1) _ (by omega), ih (j + 1) _ (by omega)]
end SIMDG2
theorem sim_op_meanBrown : SimDb SS (fun κ => f_X4_meanBrown κ) (fun κ => f_X5_meanBrown κ) := by
  intro t κ ht hS
  obtain ⟨nf, ns, nr, a0, b0, c0, d0, e0, f0, g0⟩ := id hS
  obtain ⟨hnf, hns, hnr⟩ := b0.2.2.1
  refine ⟨SS_MI hS, fun r κ2 e => ?_⟩
  obtain ⟨m0, hm0⟩ : ∃ m0, m0 = up2 κ 91 0 0 := ⟨_, rfl⟩
  have s91 : ∀ j, 0 < j → m0 91 j = κ 91 j := fun j hj => by rw [hm0, up2_ne _ _ (Or.inr (by omega))]
  have s96 : m0 96 = κ 96 := by rw [hm0, up2_row (by decide)]
  have hBm : Bs 1 nf ns nr κ m0 := Bs_m b0 (s91 1 (by decide)) (s91 2 (by decide)) (by rw [hm0, up2_row (by decide)]) (by rw [hm0, up2_row (by decide)])
  have hJ := J_self (RX_row a0.1 s96) (Gs_row a0.2 s96)
  have h3 : m0 91 3 = nI nr := (s91 3 (by decide)).trans d0.1
  have hs := sim_sum hBm hJ h3 16 0 0 rfl
  have e : f_X5_meanBrown κ = (r, κ2) := e
  unfold f_X5_meanBrown at e
  rw [← hm0] at e
  dsimp only at e
  rw [← hs, h3] at e
  have e5 : (nI nr * 4 : Int32) = nI (nr * 4) := pk_mul nr 4
  have e4 : (4 * nI nr : Int32) = nI (nr * 4) := by rw [Int32.mul_comm]; exact e5
  show f_X4_meanBrown κ = r ∧ SS (t + 1) κ2
  unfold f_X4_meanBrown f_X1_sumBrown
  rw [b0.1.2.2, e5]
  rw [e4] at e
  cases nr with
  | zero =>
    rw [if_pos (show nI 0 = 0 from rfl)] at e
    rw [if_neg (show ¬ (0 : Int32) < nI (0 * 4) by decide)]
    obtain ⟨rfl, rfl⟩ := Prod.mk.inj e
    exact ⟨rfl, by rw [hm0]; exact SS_th (SS_mono hS)⟩
  | succ n =>
    rw [if_neg (nI_nz (by omega))] at e
    rw [if_pos (show (0 : Int32) < nI ((n + 1) * 4) from (nIlt (a := 0) (b := (n + 1) * 4) (by decide) (by omega)).mpr (by omega))]
    obtain ⟨rfl, rfl⟩ := Prod.mk.inj e
    exact ⟨rfl, by rw [hm0]; exact SS_th (SS_mono hS)⟩
theorem sim_op_digest : SimLg SS (fun κ => f_X4_digest κ) (fun κ => f_X5_digest κ) := by
  intro t κ ht hS
  obtain ⟨nf, ns, nr, a0, b0, c0, d0, e0, f0, g0⟩ := id hS
  obtain ⟨hnf, hns, hnr⟩ := b0.2.2.1
  refine ⟨SS_MI hS, fun r κ2 e => ?_⟩
  obtain ⟨m0, hm0⟩ : ∃ m0, m0 = up2 κ 91 0 0 := ⟨_, rfl⟩
  have s91 : ∀ j, 0 < j → m0 91 j = κ 91 j := fun j hj => by rw [hm0, up2_ne _ _ (Or.inr (by omega))]
  have s96 : m0 96 = κ 96 := by rw [hm0, up2_row (by decide)]
  have hBm : Bs 1 nf ns nr κ m0 := Bs_m b0 (s91 1 (by decide)) (s91 2 (by decide)) (by rw [hm0, up2_row (by decide)]) (by rw [hm0, up2_row (by decide)])
  have hJ := J_self (RX_row a0.1 s96) (Gs_row a0.2 s96)
  have h1 : m0 91 1 = nI nf := (s91 1 (by decide)).trans b0.2.1.1
  have h2 : m0 91 2 = nI ns := (s91 2 (by decide)).trans b0.2.1.2
  have h3 : m0 91 3 = nI nr := (s91 3 (by decide)).trans d0.1
  have e : f_X5_digest κ = (r, κ2) := e
  unfold f_X5_digest at e
  rw [← hm0] at e
  dsimp only at e
  rw [mix61] at e
  obtain ⟨rfl, rfl⟩ := Prod.mk.inj e
  refine ⟨?_, by rw [hm0]; exact SS_th (SS_mono hS)⟩
  show f_X4_digest κ = _
  unfold f_X4_digest f_X4_mixRoasts f_X4_mixSpits f_X4_mixFires
  dsimp only
  rw [sim_mixRoasts hBm hJ h3 _ 16 0 _ rfl, sim_mixSpits hBm hJ h2 _ 6 0 _ rfl, sim_mixFires hBm hJ h1 _ 3 0 _ rfl]
  have h6 : κ 1 6 = κ 96 0 := a0.1 0 (by decide)
  rw [h6, h1, h2, h3, s91 4 (by decide), s96, b0.1.1, b0.1.2.1, b0.1.2.2, d0.2]
