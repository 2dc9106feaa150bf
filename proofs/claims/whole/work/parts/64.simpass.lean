theorem pounds_w {b : Int32} (c1 : ¬ b < 1) (c2 : b ≤ 12) : ∃ p : Nat, 1 ≤ p ∧ p ≤ 12 ∧ b = nI p := by
  rw [Int32.lt_iff_toInt_lt, show (1 : Int32).toInt = 1 from rfl] at c1
  rw [Int32.le_iff_toInt_le, show (12 : Int32).toInt = 12 from rfl] at c2
  refine ⟨b.toInt.toNat, by omega, by omega, ?_⟩
  apply Int32.toInt_inj.mp
  rw [nI_toInt (by omega)]; omega
theorem Bs_m {nf ns nr k : Nat} {κ m m' : Kp} (hB : Bs k nf ns nr κ m) (h1 : m' 91 1 = m 91 1) (h2 : m' 91 2 = m 91 2) (h92 : m' 92 = m 92) (h93 : m' 93 = m 93) : Bs k nf ns nr κ m' := by
  refine ⟨hB.1, ⟨by rw [h1]; exact hB.2.1.1, by rw [h2]; exact hB.2.1.2⟩, hB.2.2.1, fun i hi => ?_, fun i hi => ?_, fun i hi => ?_⟩
  · rw [h92]; exact hB.2.2.2.1 i hi
  · rw [h92]; exact hB.2.2.2.2.1 i hi
  · rw [h93]; exact hB.2.2.2.2.2 i hi
theorem MI_m {κ m : Kp} (h : MI κ) (h91 : ∀ j, 0 < j → m 91 j = κ 91 j) (h92 : m 92 = κ 92) (h96 : m 96 = κ 96) : MI m := by
  obtain ⟨a, b, c, d, f, o, q⟩ := h
  refine ⟨by rw [h91 1 (by decide)]; exact a, by rw [h91 2 (by decide)]; exact b, by rw [h91 3 (by decide)]; exact c, fun i hi => by rw [h92]; exact d i hi, fun i hi hs => ?_, fun i hi => ?_, fun i hi => ?_⟩
  · rw [h91 2 (by decide)] at hs
    rw [h96]; exact f i hi hs
  · rw [h96]; exact o i hi
  · rw [h96]; exact q i hi
theorem pos_N {h : Nat} (hh : h < 2 ^ 30) : (0 : Int32) < nI (h + 1) := (nIlt (a := 0) (b := h + 1) (by decide) (by omega)).mpr (by omega)
theorem sim_op_hang (a b : Int32) : SimOp SS (fun κ => f_L_hang κ a b) (fun κ => f_X5_hang κ a b) := by
  intro t κ ht hS k κ1 e
  obtain ⟨nf, ns, nr, a0, b0, c0, d0, e0, f0, g0⟩ := id hS
  obtain ⟨hnf, hns, hnr⟩ := b0.2.2.1
  rcases spit_cases a b0.1.2.1 b0.2.1.2 hns with ⟨i, hi, rfl, hn, hf⟩ | ⟨hn, hf⟩
  · have hf2 : f_X5_isSpit (up2 κ 91 0 0) (nI i) = true := hf
    by_cases c1 : b < 1
    · refine op_th (n := 2) (r0 := 0) (fL := fun κ => f_L_hang κ (nI i) b) (fX := fun κ => f_X5_hang κ (nI i) b) hS (by decide) ?_ ?_ th2 e
      · show f_L_hang κ (nI i) b = _
        unfold f_L_hang f_X4_hang
        rw [hn]
        dsimp only
        unfold f_X4_needPounds
        rw [if_pos c1]
        dsimp only
        rw [if_neg nIAE_ne, if_pos nIAE_eq]
      · show f_X5_hang κ (nI i) b = _
        unfold f_X5_hang
        dsimp only
        rw [hf2, if_neg bi_t, isIn_f1 c1, if_pos bi_f]
        rfl
    · by_cases c2 : b ≤ 12
      · obtain ⟨p, hp1, hp2, rfl⟩ := pounds_w c1 c2
        have thr : ∀ κc, f_X1_placeRoast κ 1 (nI i) (nI p) = (-1, κ) → κc = κ → f_L_hang κ (nI i) (nI p) = (3, κ) := fun κc hpl hκ => by
          unfold f_L_hang f_X4_hang
          rw [hn]
          dsimp only
          unfold f_X4_needPounds
          rw [if_neg c1, if_pos c2]
          dsimp only
          rw [hpl]
          dsimp only
          rw [if_pos rfl]
          dsimp only
          rw [if_neg nISE_ne, if_neg nISE_ne2]
        have hsp2 : f_X5_sp (up2 κ 91 0 0) (nI i) 2 = κ 96 (7 + 5 * i + 2) := by
          rw [show f_X5_sp (up2 κ 91 0 0) (nI i) 2 = (up2 κ 91 0 0) 96 (7 + 5 * i + 2) from sp_N (w := 2) (by omega) (by decide), up2_row (by decide)]
        rcases roastOf_cases b0 (SS_J a0) (i := i) (by omega) with ⟨h, hh, hr, h5, h6⟩ | ⟨hr, h6⟩
        · have hpl : f_X1_placeRoast κ 1 (nI i) (nI p) = (-1, κ) := by
            unfold f_X1_placeRoast
            rw [spitAt_N b0.1.2.1 hi hns]
            dsimp only
            rw [if_neg (by rw [h5]; exact nI_n1 (by omega))]
          refine op_th (n := 3) (r0 := 0) (fL := fun κ => f_L_hang κ (nI i) (nI p)) (fX := fun κ => f_X5_hang κ (nI i) (nI p)) hS (by decide) (thr κ hpl rfl) ?_ th2 e
          show f_X5_hang κ (nI i) (nI p) = _
          unfold f_X5_hang
          dsimp only
          rw [hf2, if_neg bi_t, isIn_t c1 c2, if_neg bi_t, hsp2, h6, if_pos (pos_N (by omega))]
          rfl
        · by_cases c : nr < 16
          · obtain ⟨κc, κx, pl, -, -, -, hfr, -⟩ := sim_hang b0 a0.1 a0.2 d0.1 c hi h6 hp2
            refine op_g (κc := κc) (v := nI nr) (fL := fun κ => f_L_hang κ (nI i) (nI p)) (fX := fun κ => f_X5_hang κ (nI i) (nI p)) hS (fun q hq => hfr q (by omega)) ?_ ?_ e
            · show f_L_hang κ (nI i) (nI p) = _
              unfold f_L_hang f_X4_hang
              rw [hn]
              dsimp only
              unfold f_X4_needPounds
              rw [if_neg c1, if_pos c2]
              dsimp only
              rw [pl]
              dsimp only
              rw [if_neg (nI_n1 (by omega))]
            · intro m1 m0 hm1 hm0 r1 r2 rl
              have s96 : m0 96 = κ 96 := r1 96 (by decide) (by decide) (by decide)
              have s92 : m0 92 = κ 92 := r1 92 (by decide) (by decide) (by decide)
              have s93 : m0 93 = κ 93 := r1 93 (by decide) (by decide) (by decide)
              have hBm : Bs 1 nf ns nr κ m0 := Bs_m b0 (r2 1 (by decide)) (r2 2 (by decide)) s92 s93
              have e913 : m0 91 3 = nI nr := (r2 3 (by decide)).trans d0.1
              obtain ⟨κc', κm, pl', hx, ⟨hR, hG⟩, hB2, -, hz, h7, ho, h93, h0⟩ := sim_hang hBm (RX_row a0.1 s96) (Gs_row a0.2 s96) e913 c hi (by rw [s96]; exact h6) hp2
              have ec : κc' = κc := (Prod.mk.inj (pl'.symm.trans pl)).2
              rw [ec] at hR hB2 hz h7
              have hm : ∀ q, ¬ q = 91 → ¬ q = 93 → ¬ q = 96 → (up2 κm 91 3 (nI (nr + 1))) q = m0 q := fun q h1 h2 h3 => by rw [up2_row h1]; exact ho q h2 h3
              have hm91 : ∀ j, ¬ j = 3 → (up2 κm 91 3 (nI (nr + 1))) 91 j = m0 91 j := fun j hj => by rw [up2_ne _ _ (Or.inr hj)]; exact congrFun (ho 91 (by decide) (by decide)) j
              have hm96 : (up2 κm 91 3 (nI (nr + 1))) 96 = κm 96 := up2_row (by decide)
              refine ⟨up2 κm 91 3 (nI (nr + 1)), ?_, ⟨hm91 0 (by decide), hm 98 (by decide) (by decide) (by decide)⟩, ?_⟩
              · show f_X5_hang m1 (nI i) (nI p) = _
                unfold f_X5_hang
                rw [← hm0]
                dsimp only
                rw [isSpit_of hf (r2 2 (by decide)), if_neg bi_t, isIn_t c1 c2, if_neg bi_t, show f_X5_sp m0 (nI i) 2 = m0 96 (7 + 5 * i + 2) from sp_N (w := 2) (by omega) (by decide), s96, h6, if_neg (by decide), e913, if_neg (fun q => by
                  have := (nIeq (a := nr) (b := 16) (by omega) (by decide)).mp q
                  omega), hx, ho 91 (by decide) (by decide), e913, nI_1, up2_self, nI_less]
              · refine SS_mk (nf := nf) (ns := ns) (nr := nr + 1) (κc := κc) (fun q hq => ?_) (RX_row hR hm96) (Gs_row hG hm96) (Bs_m hB2 (up2_ne _ _ (Or.inr (by decide))) (up2_ne _ _ (Or.inr (by decide))) (up2_row (by decide)) (up2_row (by decide))) (fun f hf => ?_) (up2_self _ _ _ _) ?_ ?_ ?_ (fun j hj => ?_)
                · rw [hm q (by omega) (by omega) (by omega)]; exact rl q hq
                · rw [hz f hf]; exact c0 f hf
                · rw [h7, hm91 4 (by decide), r2 4 (by decide)]; exact d0.2
                · rw [hm91 4 (by decide), r2 4 (by decide)]; exact e0
                · rw [hm96, h0, s96]; exact ⟨f0.1, by omega⟩
                · rw [hm 92 (by decide) (by decide) (by decide), s92]; exact g0 j hj
          · have e16 : nr = 16 := by omega
            subst e16
            have hpl : f_X1_placeRoast κ 1 (nI i) (nI p) = (-1, κ) := by
              have k0 : ¬ κ 1 5 < 0 := by rw [b0.1.2.2]; exact (by decide : ¬ nI 16 < 0)
              have k16 : ¬ κ 1 5 < 16 := by rw [b0.1.2.2]; exact (by decide : ¬ nI 16 < 16)
              unfold f_X1_placeRoast
              rw [spitAt_N b0.1.2.1 hi hns]
              dsimp only
              rw [if_pos (by rw [(RX_spit a0.1 (i := i) (by omega)).2.2.1, h6]; rfl), if_neg k0, if_neg k16]
            refine op_th (n := 3) (r0 := 0) (fL := fun κ => f_L_hang κ (nI i) (nI p)) (fX := fun κ => f_X5_hang κ (nI i) (nI p)) hS (by decide) (thr κ hpl rfl) ?_ th2 e
            show f_X5_hang κ (nI i) (nI p) = _
            unfold f_X5_hang
            dsimp only
            have h1 : (up2 κ 91 0 0) 91 3 = 16 := by rw [up2_ne _ _ (Or.inr (by decide)), d0.1]; rfl
            rw [hf2, if_neg bi_t, isIn_t c1 c2, if_neg bi_t, hsp2, h6, if_neg (by decide), if_pos h1]
            rfl
      · refine op_th (n := 2) (r0 := 0) (fL := fun κ => f_L_hang κ (nI i) b) (fX := fun κ => f_X5_hang κ (nI i) b) hS (by decide) ?_ ?_ th2 e
        · show f_L_hang κ (nI i) b = _
          unfold f_L_hang f_X4_hang
          rw [hn]
          dsimp only
          unfold f_X4_needPounds
          rw [if_neg c1, if_neg c2]
          dsimp only
          rw [if_neg nIAE_ne, if_pos nIAE_eq]
        · show f_X5_hang κ (nI i) b = _
          unfold f_X5_hang
          dsimp only
          rw [hf2, if_neg bi_t, isIn_f2 c2, if_pos bi_f]
          rfl
  · refine op_th (n := 1) (r0 := 0) (fL := fun κ => f_L_hang κ a b) (fX := fun κ => f_X5_hang κ a b) hS (by decide) ?_ ?_ th2 e
    · show f_L_hang κ a b = _
      unfold f_L_hang f_X4_hang
      rw [hn]
      dsimp only
      rw [if_pos nIOE_eq]
    · show f_X5_hang κ a b = _
      unfold f_X5_hang
      dsimp only
      have hf2 : f_X5_isSpit (up2 κ 91 0 0) a = false := hf
      rw [hf2, if_pos bi_f]
      rfl
/-- the minute behind n minutes -/
theorem lpass_min (a : Int32) : ∀ (n j : Nat) (v : Int32) (κ : Kp), MI κ → 0 ≤ (κ 96 0).toInt → (κ 96 0).toInt + n < 2 ^ 30 → ((lp_X5_pass a n j v κ).2 96 0).toInt = (κ 96 0).toInt + n := by
  intro n
  induction n with
  | zero => intro j v κ h h0 h1; show (κ 96 0).toInt = _; omega
  | succ n ih =>
    intro j v κ h h0 h1
    rw [lp_X5_pass]
    rcases e : f_X5_minuteOn κ with ⟨r, κ1⟩
    obtain ⟨m1, m2, m3⟩ := minuteOn_spec e h
    have e1 := i32_inc h0 (by omega)
    dsimp only
    rw [ih (j + 1) _ κ1 m1 (by rw [m3, e1]; omega) (by rw [m3, e1]; omega), m3, e1]
    omega
theorem sim_op_pass (a : Int32) : SimOp SS (fun κ => f_L_pass κ a) (fun κ => f_X5_pass κ a) := by
  intro t κ ht hS k κ1 e
  obtain ⟨nf, ns, nr, a0, b0, c0, d0, e0, f0, g0⟩ := id hS
  obtain ⟨hnf, hns, hnr⟩ := b0.2.2.1
  by_cases c1 : a < 1
  · refine op_th (n := 1) (r0 := 0) (fL := fun κ => f_L_pass κ a) (fX := fun κ => f_X5_pass κ a) hS (by decide) ?_ ?_ th2 e
    · show f_L_pass κ a = _
      unfold f_L_pass f_X4_pass
      rw [if_pos c1]
    · show f_X5_pass κ a = _
      unfold f_X5_pass
      dsimp only
      rw [isIn_f1 c1, if_pos bi_f]
      rfl
  · by_cases c2 : a ≤ 200
    · obtain ⟨v, κc, κx, p1, p2, hJ0, hz0⟩ := sim_minutes b0 a a.toNatClampNeg 0 0 κ κ (SS_J a0) c0
      have hn200 : a.toNatClampNeg ≤ 200 := by
        rw [Int32.le_iff_toInt_le, show (200 : Int32).toInt = 200 from rfl] at c2
        have : a.toNatClampNeg = a.toInt.toNat := rfl
        omega
      refine op_ch (κc := κc) (v := v) (fL := fun κ => f_L_pass κ a) (fX := fun κ => f_X5_pass κ a) hS a0 b0 d0 e0 g0 hJ0.2.2.2.1 ?_ ?_ e
      · show f_L_pass κ a = _
        unfold f_L_pass f_X4_pass f_X1_goMinutes
        rw [if_neg c1, if_pos c2, p1]
      · intro m1 m0 hm1 hm0 r1 r2 hB hJ
        have e96 := r1 96 (by decide) (by decide) (by decide)
        obtain ⟨v', κc', κm, q1, q2, hJ1, hz1⟩ := sim_minutes hB a a.toNatClampNeg 0 0 κ m0 hJ c0
        obtain ⟨ev, ec⟩ := Prod.mk.inj (q1.symm.trans p1)
        rw [ev] at q2
        rw [ec] at hJ1 hz1
        have hMI : MI m0 := MI_m (SS_MI hS) r2 (r1 92 (by decide) (by decide) (by decide)) e96
        have hmin := lpass_min a a.toNatClampNeg 0 0 m0 hMI (by rw [e96]; exact f0.1) (by rw [e96]; omega)
        rw [q2, e96] at hmin
        refine ⟨κm, ?_, hJ1, hz1, ?_, ?_⟩
        · show f_X5_pass m1 a = _
          unfold f_X5_pass
          rw [← hm0]
          dsimp only
          rw [isIn_t c1 c2, if_neg bi_t, q2]
        · dsimp only at hmin
          rw [hmin]; have := f0.1; omega
        · dsimp only at hmin
          rw [hmin]; have := f0.2; omega
    · refine op_th (n := 1) (r0 := 0) (fL := fun κ => f_L_pass κ a) (fX := fun κ => f_X5_pass κ a) hS (by decide) ?_ ?_ th2 e
      · show f_L_pass κ a = _
        unfold f_L_pass f_X4_pass
        rw [if_neg c1, if_neg c2]
      · show f_X5_pass κ a = _
        unfold f_X5_pass
        dsimp only
        rw [isIn_f2 c2, if_pos bi_f]
        rfl
