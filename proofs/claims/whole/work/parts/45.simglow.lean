theorem brow_row {κ : Kp} {p q : Nat} {a b : Int32} (h : ¬ q = p + 1) : f_X2_getBrowner κ p a b q = κ q := by
  unfold f_X2_getBrowner
  split
  · rfl
  · split
    · rfl
    · split
      · exact up2_row h
      · exact up2_row h
theorem tan_row {κ : Kp} {q : Nat} {a b c : Int32} (h : ¬ q = 96) : f_X5_tan κ a b c q = κ q := by
  show f_X5_let κ a _ _ q = κ q
  exact up2_row h
theorem let_row {κ : Kp} {q : Nat} {a b c : Int32} (h : ¬ q = 96) : f_X5_let κ a b c q = κ q := up2_row h
theorem next_N : ∀ sd, sd < 4 → f_X2_nextSide (nI sd) = nI ((sd + 1) % 4) ∧ f_X2_sideBefore (nI sd) = nI ((sd + 3) % 4) := by decide
theorem gl3 {gl : Nat} (h : gl ≤ 9) : (nI gl / 3 : Int32) = nI (gl / 3) := pk_div (a := gl) (d := 3) (by omega) (by decide) (by decide)
theorem gl_max0 {gl : Nat} (h : gl ≤ 9) : (if 0 < nI gl - 0 then nI gl - 0 else (0 : Int32)) = nI gl := by
  have e : (nI gl - 0 : Int32) = nI gl := Int32.sub_zero _
  rw [e]
  by_cases c : gl = 0
  · subst c; rfl
  · have c2 : (0 : Int32) < nI gl := (nIlt (a := 0) (b := gl) (by decide) (by omega)).mpr (by omega)
    rw [if_pos c2]
theorem gl_max1 : ∀ gl, gl ≤ 9 → (if 0 < nI gl - 1 then nI gl - 1 else (0 : Int32)) = nI (gl - 1) := by
  have h : ∀ gl, gl < 10 → (if 0 < nI gl - 1 then nI gl - 1 else (0 : Int32)) = nI (gl - 1) := by decide
  exact fun gl hg => h gl (by omega)
section SIMG
variable {k nf ns nr : Nat} {κ0 m0 κc κm : Kp}
theorem J_sd (h : J k nf ns nr κ0 m0 κc κm) {i : Nat} (hi : i < 16) : ∃ sd : Nat, sd < 4 ∧ κm 96 (37 + 8 * i + 1) = nI sd ∧ κc (k + 13 + 2 * i) 3 = nI sd := by
  have h1 := ((h.2.1 (37 + 8 * i + 1) (by omega)).2.2.2.2 i hi 1 (by omega) rfl).2.1 rfl
  obtain ⟨b, hb, e⟩ := vp_in_of h1 (by decide)
  exact ⟨b, hb, e, (RX_roast h.1 hi (w := 1) (by omega) (by omega)).trans e⟩
/-- the three sides that get browner, in the class and in the reference -/
theorem J_three {i sd a : Nat} (h : J k nf ns nr κ0 m0 κc κm) (hi : i < nr) (hnr : nr ≤ 16) (hsd : sd < 4) (ec : κc (k + 13 + 2 * i) 3 = nI sd) (em : f_X5_ro κm (nI i) 1 = nI sd) (ha : a ≤ 9) (eg : κm 94 i = nI a) :
    J k nf ns nr κ0 m0 (f_X2_getBrowner (f_X2_getBrowner (f_X2_getBrowner κc (k + 13 + 2 * i) (κc (k + 13 + 2 * i) 3) (nI a)) (k + 13 + 2 * i) (f_X2_nextSide (f_X2_getBrowner κc (k + 13 + 2 * i) (κc (k + 13 + 2 * i) 3) (nI a) (k + 13 + 2 * i) 3)) (nI a / 3)) (k + 13 + 2 * i) (f_X2_sideBefore (f_X2_getBrowner (f_X2_getBrowner κc (k + 13 + 2 * i) (κc (k + 13 + 2 * i) 3) (nI a)) (k + 13 + 2 * i) (f_X2_nextSide (f_X2_getBrowner κc (k + 13 + 2 * i) (κc (k + 13 + 2 * i) 3) (nI a) (k + 13 + 2 * i) 3)) (nI a / 3) (k + 13 + 2 * i) 3)) (nI a / 3))
      (f_X5_tan (f_X5_tan (f_X5_tan κm (nI i) (f_X5_ro κm (nI i) 1) (κm 94 (nI i).toNatClampNeg)) (nI i) (f_X5_ro κm (nI i) 1 + 1) (f_X5_tan κm (nI i) (f_X5_ro κm (nI i) 1) (κm 94 (nI i).toNatClampNeg) 94 (nI i).toNatClampNeg / 3)) (nI i) (f_X5_ro κm (nI i) 1 + 3) (f_X5_tan (f_X5_tan κm (nI i) (f_X5_ro κm (nI i) 1) (κm 94 (nI i).toNatClampNeg)) (nI i) (f_X5_ro κm (nI i) 1 + 1) (f_X5_tan κm (nI i) (f_X5_ro κm (nI i) 1) (κm 94 (nI i).toNatClampNeg) 94 (nI i).toNatClampNeg / 3) 94 (nI i).toNatClampNeg / 3)) := by
  have ep : ¬ k + 13 + 2 * i = k + 13 + 2 * i + 1 := by omega
  have e1 : (nI sd + 1 : Int32) = nI (sd + 1) := by rw [← nI_add]; rfl
  have e3 : (nI sd + 3 : Int32) = nI (sd + 3) := by rw [← nI_add]; rfl
  rw [em, nI_clamp (by omega), eg, ec, e1, e3]
  have c1 : ∀ (κ : Kp) (x y z : Int32), f_X5_tan κ x y z 94 = κ 94 := fun κ x y z => tan_row (by decide)
  have c2 : ∀ (κ : Kp) (x y : Int32), f_X2_getBrowner κ (k + 13 + 2 * i) x y (k + 13 + 2 * i) = κ (k + 13 + 2 * i) := fun κ x y => brow_row ep
  rw [c1, c1, c1, c2, c2, c2, ec, eg, gl3 ha, (next_N sd hsd).1, (next_N sd hsd).2]
  exact J_tan (J_tan (J_tan h hi hnr hsd (by omega) (by omega) ha) hi hnr (Nat.mod_lt _ (by decide)) (by omega) rfl (by omega)) hi hnr (Nat.mod_lt _ (by decide)) (by omega) rfl (by omega)
theorem sim_glow {i j gl : Nat} (h : J k nf ns nr κ0 m0 κc κm) (hi : i < nr) (hnr : nr ≤ 16) (hg : gl ≤ 9) (eg : f_X5_glow κm (nI j) = nI gl) :
    ∃ a : Nat, a ≤ 9 ∧ (f_X2_getGlow κc (k + 13 + 2 * i) (nI gl)).1 = nI a ∧ J k nf ns nr κ0 m0 (f_X2_getGlow κc (k + 13 + 2 * i) (nI gl)).2 (f_X5_roasted κm (nI i) (nI j)) ∧ f_X5_roasted κm (nI i) (nI j) 94 i = nI a ∧ f_X5_roasted κm (nI i) (nI j) 95 = κm 95 := by
  have hi2 : i < 16 := by omega
  obtain ⟨sd, hsd, es, ec⟩ := J_sd h hi2
  have hro3 : f_X5_ro κm (nI i) 3 = κm 96 (37 + 8 * i + 3) := ro_N (w := 3) hi2 (by decide)
  have hcw : κc (k + 13 + 2 * i) 5 = κm 96 (37 + 8 * i + 3) := RX_roast h.1 hi2 (w := 3) (by decide) (by decide)
  have c1 : ∀ (κ : Kp) (x y z : Int32), f_X5_tan κ x y z 94 = κ 94 := fun κ x y z => tan_row (by decide)
  have c5 : ∀ (κ : Kp) (x y z : Int32), f_X5_tan κ x y z 95 = κ 95 := fun κ x y z => tan_row (by decide)
  unfold f_X2_getGlow f_X5_roasted
  by_cases c : κm 96 (37 + 8 * i + 3) ≤ 0
  · rw [hro3, if_pos c, hcw, if_pos c]
    dsimp only
    rw [eg, gl_max0 hg, c1, c1, c1, c5, c5, c5, nI_clamp (by omega)]
    have h1 : J k nf ns nr κ0 m0 κc (up2 κm 94 i (nI gl)) := J_m h (Or.inl rfl)
    have em : f_X5_ro (up2 κm 94 i (nI gl)) (nI i) 1 = nI sd := by
      rw [show f_X5_ro (up2 κm 94 i (nI gl)) (nI i) 1 = (up2 κm 94 i (nI gl)) 96 (37 + 8 * i + 1) from ro_N (w := 1) hi2 (by decide), up2_row (by decide)]
      exact es
    have h2 := J_three h1 hi hnr hsd ec em hg (up2_self _ _ _ _)
    rw [nI_clamp (by omega)] at h2
    rw [c1, c1] at h2
    refine ⟨gl, hg, rfl, ?_, ?_, ?_⟩
    · exact h2
    · simp only [c1]
      exact up2_self _ _ _ _
    · first | exact up2_row (by decide) | (simp only [c5]; exact up2_row (by decide))
  · rw [hro3, if_neg c, hcw, if_neg c]
    dsimp only
    have hl : ∀ (κ : Kp) (x y z : Int32), f_X5_let κ x y z 94 = κ 94 := fun κ x y z => let_row (by decide)
    have hl5 : ∀ (κ : Kp) (x y z : Int32), f_X5_let κ x y z 95 = κ 95 := fun κ x y z => let_row (by decide)
    rw [eg, gl_max1 gl hg, c1, c1, c1, c5, c5, c5, nI_clamp (by omega), hl, hl5]
    have h0 : J k nf ns nr κ0 m0 κc (up2 κm 94 i (nI (gl - 1))) := J_m h (Or.inl rfl)
    have er : f_X5_ro (up2 κm 94 i (nI (gl - 1))) (nI i) 3 = κm 96 (37 + 8 * i + 3) := by
      rw [show f_X5_ro (up2 κm 94 i (nI (gl - 1))) (nI i) 3 = (up2 κm 94 i (nI (gl - 1))) 96 (37 + 8 * i + 3) from ro_N (w := 3) hi2 (by decide), up2_row (by decide)]
    have elet : ∀ v : Int32, f_X5_let (up2 κm 94 i (nI (gl - 1))) (nI i) 3 v = up2 (up2 κm 94 i (nI (gl - 1))) 96 (37 + 8 * i + 3) v := fun v => let_N (w := 3) hi2 (by decide)
    rw [er, elet]
    have h1 : J k nf ns nr κ0 m0 (up2 κc (k + 13 + 2 * i) 5 (κm 96 (37 + 8 * i + 3) - 1)) (up2 (up2 κm 94 i (nI (gl - 1))) 96 (37 + 8 * i + 3) (κm 96 (37 + 8 * i + 3) - 1)) :=
      J_roast (w := 3) h0 hi2 (by decide) (by decide) (Gx_roast hi2 (by decide) (fun q => by omega) (fun q => by omega) (fun q => by omega) (fun q => by omega))
    have ec1 : (up2 κc (k + 13 + 2 * i) 5 (κm 96 (37 + 8 * i + 3) - 1)) (k + 13 + 2 * i) 3 = nI sd := by rw [up2_ne _ _ (Or.inr (by decide))]; exact ec
    have em : f_X5_ro (up2 (up2 κm 94 i (nI (gl - 1))) 96 (37 + 8 * i + 3) (κm 96 (37 + 8 * i + 3) - 1)) (nI i) 1 = nI sd := by
      rw [show f_X5_ro (up2 (up2 κm 94 i (nI (gl - 1))) 96 (37 + 8 * i + 3) (κm 96 (37 + 8 * i + 3) - 1)) (nI i) 1 = (up2 (up2 κm 94 i (nI (gl - 1))) 96 (37 + 8 * i + 3) (κm 96 (37 + 8 * i + 3) - 1)) 96 (37 + 8 * i + 1) from ro_N (w := 1) hi2 (by decide), up2_ne _ _ (Or.inr (by omega)), up2_row (by decide)]
      exact es
    have eg2 : (up2 (up2 κm 94 i (nI (gl - 1))) 96 (37 + 8 * i + 3) (κm 96 (37 + 8 * i + 3) - 1)) 94 i = nI (gl - 1) := by rw [up2_row (by decide), up2_self]
    have h2 := J_three h1 hi hnr hsd ec1 em (show gl - 1 ≤ 9 by omega) eg2
    rw [nI_clamp (by omega)] at h2
    rw [c1, c1] at h2
    refine ⟨gl - 1, by omega, rfl, ?_, ?_, ?_⟩
    · exact h2
    · simp only [c1]
      exact eg2
    · first | rw [up2_row (by decide), up2_row (by decide)] | (simp only [c5]; rw [up2_row (by decide), up2_row (by decide)]) | rw [up2_row (by decide)]
end SIMG
