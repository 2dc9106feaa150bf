/-- what a minute leaves as it is: all rows but who got what, the flares and the numbers; and of those the minute, up to its end -/
def G3 (κ0 κ : Kp) : Prop := (∀ q, q ≠ 94 → q ≠ 95 → q ≠ 96 → κ q = κ0 q) ∧ κ 96 0 = κ0 96 0
theorem G3.rfl {κ : Kp} : G3 κ κ := ⟨fun _ _ _ _ => Eq.refl _, Eq.refl _⟩
theorem G3_up {κ0 κ : Kp} {k j : Nat} {v : Int32} (h : G3 κ0 κ) (hk : k = 94 ∨ k = 95 ∨ (k = 96 ∧ j ≠ 0)) : G3 κ0 (up2 κ k j v) := by
  refine ⟨fun q h1 h2 h3 => ?_, ?_⟩
  · rw [up2_row (by omega)]; exact h.1 q h1 h2 h3
  · rw [up2_ne κ v (by omega)]; exact h.2
theorem G3_let {κ0 κ : Kp} {r w v : Int32} (h : G3 κ0 κ) (hr : vp_in r 16) (hw : vp_in w 8) : G3 κ0 (f_X5_let κ r w v) := by
  rw [let_at hr hw]; exact G3_up h (Or.inr (Or.inr ⟨Eq.refl _, by omega⟩))
theorem G3_letSpit {κ0 κ : Kp} {r w v : Int32} (h : G3 κ0 κ) (hr : vp_in r 6) (hw : vp_in w 5) : G3 κ0 (f_X5_letSpit κ r w v) := by
  rw [letSpit_at hr hw]; exact G3_up h (Or.inr (Or.inr ⟨Eq.refl _, by omega⟩))
theorem G3_letFire {κ0 κ : Kp} {r w v : Int32} (h : G3 κ0 κ) (hr : vp_in r 3) (hw : vp_in w 2) : G3 κ0 (f_X5_letFire κ r w v) := by
  rw [letFire_at hr hw]; exact G3_up h (Or.inr (Or.inr ⟨Eq.refl _, by omega⟩))
theorem G3_tan {κ0 κ : Kp} {a b v : Int32} (h : G3 κ0 κ) (ha : vp_in a 16) (hb : vp_in b 8) : G3 κ0 (f_X5_tan κ a b v) := G3_let h ha (ix_rem4 hb)
theorem G3_turn {κ0 κ : Kp} {r : Int32} (h : G3 κ0 κ) (hr : vp_in r 16) : G3 κ0 (f_X5_turn κ r) := G3_let h hr (vin_lit (by decide))
theorem G3_drip {κ0 κ : Kp} {r s : Int32} (h : G3 κ0 κ) (hr : vp_in r 16) (hs : vp_in s 6) : G3 κ0 (f_X5_drip κ r s) := by
  unfold f_X5_drip
  by_cases h1 : κ 94 r.toNatClampNeg < 2
  · rw [if_pos h1]; exact h
  · rw [if_neg h1]
    by_cases h2 : f_X5_ro κ r 2 = 0
    · rw [if_pos h2]; exact h
    · rw [if_neg h2]
      have h3 : G3 κ0 (f_X5_let κ r 2 (f_X5_ro κ r 2 - 1)) := G3_let h hr (vin_lit (by decide))
      generalize f_X5_let κ r 2 (f_X5_ro κ r 2 - 1) = κ1 at h3
      dsimp only
      by_cases h4 : 20 ≤ f_X5_sp κ1 s 1
      · rw [if_pos h4]; exact G3_up h3 (Or.inr (Or.inl (Eq.refl _)))
      · rw [if_neg h4]
        exact G3_letSpit h3 hs (vin_lit (by decide))
theorem G3_roasted {κ0 κ : Kp} {r s : Int32} (h : G3 κ0 κ) (hI : MI κ) (hr : vp_in r 16) (hs : vp_in s 6) : G3 κ0 (f_X5_roasted κ r s) := by
  have key : ∀ κ1 : Kp, G3 κ0 κ1 → MI κ1 → ∀ (x y z : Kp → Int32), G3 κ0 (f_X5_tan (f_X5_tan (f_X5_tan κ1 r (f_X5_ro κ1 r 1) (x κ1)) r (f_X5_ro κ1 r 1 + 1) (y (f_X5_tan κ1 r (f_X5_ro κ1 r 1) (x κ1)))) r (f_X5_ro κ1 r 1 + 3) (z (f_X5_tan (f_X5_tan κ1 r (f_X5_ro κ1 r 1) (x κ1)) r (f_X5_ro κ1 r 1 + 1) (y (f_X5_tan κ1 r (f_X5_ro κ1 r 1) (x κ1)))))) := by
    intro κ1 h1 hI1 x y z
    have hsd := MI_side hI1 hr
    exact G3_tan (G3_tan (G3_tan h1 hr (in_mono hsd (by decide))) hr (in_add 1 hsd (by decide) (by decide))) hr (in_add 3 hsd (by decide) (by decide))
  unfold f_X5_roasted
  by_cases h1 : f_X5_ro κ r 3 ≤ 0
  · rw [if_pos h1]
    exact key (up2 κ 94 r.toNatClampNeg _) (G3_up h (Or.inl (Eq.refl _))) (MI_94 hI) (fun k => k 94 r.toNatClampNeg) (fun k => k 94 r.toNatClampNeg / 3) (fun k => k 94 r.toNatClampNeg / 3)
  · rw [if_neg h1]
    refine key (f_X5_let (up2 κ 94 r.toNatClampNeg _) r 3 _) ?_ ?_ (fun k => k 94 r.toNatClampNeg) (fun k => k 94 r.toNatClampNeg / 3) (fun k => k 94 r.toNatClampNeg / 3)
    · exact G3_let (κ := up2 κ 94 r.toNatClampNeg _) (G3_up h (Or.inl (Eq.refl _))) hr (vin_lit (by decide))
    · exact MI_let (κ := up2 κ 94 r.toNatClampNeg _) (MI_94 hI) hr (vin_lit (by decide)) (fun q => absurd q (by decide))
def MG (κ0 κ : Kp) : Prop := MI κ ∧ G3 κ0 κ
theorem MG_l4 {κ0 : Kp} : ∀ (n j : Nat) (κ : Kp), MG κ0 κ → MG κ0 (lp_X5_minuteOn_4 n j κ) := by
  intro n
  induction n with
  | zero => intro j κ h; exact h
  | succ n ih =>
    intro j κ h
    rw [lp_X5_minuteOn_4]
    by_cases h1 : κ 91 1 ≤ nI j
    · rw [if_pos h1]; exact h
    · rw [if_neg h1]
      exact ih (j + 1) (up2 κ 95 j 0) ⟨MI_95 h.1, G3_up h.2 (Or.inr (Or.inl (Eq.refl _)))⟩
theorem MG_l27 {κ0 : Kp} : ∀ (n j : Nat) (κ : Kp), j + n = 6 → MG κ0 κ → MG κ0 (lp_X5_minuteOn_27 n j κ) := by
  intro n
  induction n with
  | zero => intro j κ hj h; exact h
  | succ n ih =>
    intro j κ hj h
    rw [lp_X5_minuteOn_27]
    by_cases h1 : κ 91 2 ≤ nI j
    · rw [if_pos h1]; exact h
    · rw [if_neg h1]
      have hs : vp_in (nI j) 6 := vp_in_nI (by omega) (by decide)
      by_cases h2 : 0 ≤ f_X5_sp κ (nI j) 2 - 1
      · rw [if_pos h2]
        have hr : vp_in (f_X5_sp κ (nI j) 2 - 1) 16 := in_pred2 (MI_holds h.1 hs) (by decide) h2
        generalize f_X5_sp κ (nI j) 2 - 1 = r at hr
        have h3 : MG κ0 (f_X5_roasted κ r (nI j)) := ⟨MI_roasted h.1 hr hs, G3_roasted h.2 h.1 hr hs⟩
        generalize f_X5_roasted κ r (nI j) = κ1 at h3
        have h4 : MG κ0 (f_X5_drip κ1 r (nI j)) := ⟨MI_drip h3.1 hr hs, G3_drip h3.2 hr hs⟩
        dsimp only
        generalize f_X5_drip κ1 r (nI j) = κ2 at h4
        have h5 : MG κ0 (f_X5_letSpit κ2 (nI j) 3 (f_X5_sp κ2 (nI j) 3 + 1)) := ⟨MI_letSpit h4.1 hs (vin_lit (by decide)) (fun q => absurd q (by decide)) (fun q => absurd q (by decide)), G3_letSpit h4.2 hs (vin_lit (by decide))⟩
        generalize f_X5_letSpit κ2 (nI j) 3 (f_X5_sp κ2 (nI j) 3 + 1) = κ3 at h5
        by_cases h6 : f_X5_sp κ3 (nI j) 4 ≤ 0
        · rw [if_pos h6]; exact ih (j + 1) κ3 (by omega) h5
        · rw [if_neg h6]
          by_cases h7 : f_X5_sp κ3 (nI j) 3 - f_X5_sp κ3 (nI j) 3 / f_X5_sp κ3 (nI j) 4 * f_X5_sp κ3 (nI j) 4 = 0
          · rw [if_pos h7]; exact ih (j + 1) (f_X5_turn κ3 r) (by omega) ⟨MI_turn h5.1 hr, G3_turn h5.2 hr⟩
          · rw [if_neg h7]; exact ih (j + 1) κ3 (by omega) h5
      · rw [if_neg h2]; exact ih (j + 1) κ (by omega) h
theorem MG_letFire {κ0 κ : Kp} {a b v : Int32} (h : MG κ0 κ) (ha : vp_in a 3) (hb : vp_in b 2) : MG κ0 (f_X5_letFire κ a b v) := ⟨MI_letFire h.1 ha hb, G3_letFire h.2 ha hb⟩
theorem MG_l115 {κ0 : Kp} : ∀ (n j : Nat) (v : Int32) (κ : Kp), j + n = 3 → MG κ0 κ → MG κ0 (lp_X5_minuteOn_115 n j v κ).2 := by
  intro n
  induction n with
  | zero => intro j v κ hj h; exact h
  | succ n ih =>
    intro j v κ hj h
    rw [lp_X5_minuteOn_115]
    have hs : vp_in (nI j) 3 := vp_in_nI (by omega) (by decide)
    by_cases h1 : κ 91 1 ≤ nI j
    · rw [if_pos h1]; exact h
    · rw [if_neg h1]
      by_cases h2 : f_X5_fi κ (nI j) 0 ≤ 0
      · rw [if_pos h2]
        exact ih (j + 1) _ _ (by omega) (MG_letFire h hs (vin_lit (by decide)))
      · rw [if_neg h2]
        by_cases h3 : κ 96 0 - κ 96 0 / 5 * 5 = 0
        · rw [if_pos h3]
          exact ih (j + 1) _ _ (by omega) (MG_letFire (MG_letFire h hs (vin_lit (by decide))) hs (vin_lit (by decide)))
        · rw [if_neg h3]
          exact ih (j + 1) _ _ (by omega) (MG_letFire h hs (vin_lit (by decide)))
theorem minuteOn_spec {κ κ' : Kp} {r : Int32} (e : f_X5_minuteOn κ = (r, κ')) (h : MI κ) : MI κ' ∧ (∀ q, q ≠ 94 → q ≠ 95 → q ≠ 96 → κ' q = κ q) ∧ κ' 96 0 = κ 96 0 + 1 := by
  unfold f_X5_minuteOn at e
  have h1 := MG_l4 3 0 κ (κ0 := κ) ⟨h, G3.rfl⟩
  generalize lp_X5_minuteOn_4 3 0 κ = κ1 at e h1
  dsimp only at e
  have h2 := MG_l27 6 0 κ1 (Eq.refl _) h1
  generalize lp_X5_minuteOn_27 6 0 κ1 = κ2 at e h2
  have h3 := MG_l115 3 0 0 κ2 (Eq.refl _) h2
  generalize lp_X5_minuteOn_115 3 0 0 κ2 = w at e h3
  obtain ⟨v, κ3⟩ := w
  dsimp only at e h3
  have e2 := congrArg Prod.snd e
  dsimp only at e2
  rw [← e2]
  refine ⟨MI_96 h3.1 (fun k hk => ⟨by omega, by omega⟩) (fun k hk => by omega), fun q q1 q2 q3 => ?_, ?_⟩
  · rw [up2_row (by omega)]; exact h3.2.1 q q1 q2 q3
  · rw [up2_self, h3.2.2]
theorem MI_minuteOn {κ κ' : Kp} {r : Int32} (e : f_X5_minuteOn κ = (r, κ')) (h : MI κ) : MI κ' := (minuteOn_spec e h).1
theorem isIn_nz {a hi : Int32} (h : ¬ bi (f_X5_isIn a 1 hi) = 0) : ¬ a = 0 := by
  rintro rfl
  exact (isIn_spec (bi_nz h)).1 (by decide)
theorem isIn_in4 {a : Int32} (h : ¬ bi (f_X5_isIn a 0 3) = 0) : vp_in a 4 := by
  obtain ⟨h1, h2⟩ := isIn_spec (bi_nz h)
  rw [vp_in_iff]
  rw [Int32.lt_iff_toInt_lt] at h1 h2
  have e0 : (0 : Int32).toInt = 0 := rfl
  have e3 : (3 : Int32).toInt = 3 := rfl
  omega
