theorem up2_row {κ : Kp} {k j q : Nat} {v : Int32} (h : ¬ q = k) : up2 κ k j v q = κ q := by
  funext i
  exact up2_ne κ v (Or.inl h)
theorem let_91 {κ : Kp} {r w v : Int32} : f_X5_let κ r w v 91 = κ 91 := up2_row (by decide)
theorem letSpit_91 {κ : Kp} {r w v : Int32} : f_X5_letSpit κ r w v 91 = κ 91 := up2_row (by decide)
theorem MI_turn {κ : Kp} {r : Int32} (h : MI κ) (hr : vp_in r 16) : MI (f_X5_turn κ r) := by
  refine MI_let h hr (vin_lit (by decide)) (fun _ => ?_)
  have h1 := MI_side h hr
  obtain ⟨w, hw, e⟩ := vp_in_of h1 (by decide)
  rw [e]
  have e2 : (nI w + 1 - (nI w + 1) / 4 * 4 : Int32) = nI ((w + 1) % 4) := by
    have e3 : (nI w + 1 : Int32) = nI (w + 1) := (nI_1 w).symm ▸ rfl
    rw [e3]
    exact pk_rem (a := w + 1) (d := 4) (by omega) (by decide) (by decide)
  show vp_in (nI w + 1 - (nI w + 1) / 4 * 4) 4
  rw [e2]
  exact vp_in_nI (by omega) (by decide)
theorem MI_each {κ : Kp} {s v : Int32} (h : MI κ) (hs : vp_in s 6) : MI (f_X5_each κ s v) :=
  MI_letSpit (MI_letSpit h hs (vin_lit (by decide)) (fun q => absurd q (by decide)) (fun q => absurd q (by decide))) hs (vin_lit (by decide)) (fun q => absurd q (by decide)) (fun q => absurd q (by decide))
theorem MI_drip {κ : Kp} {r s : Int32} (h : MI κ) (hr : vp_in r 16) (hs : vp_in s 6) : MI (f_X5_drip κ r s) := by
  unfold f_X5_drip
  by_cases h1 : κ 94 r.toNatClampNeg < 2
  · rw [if_pos h1]; exact h
  · rw [if_neg h1]
    by_cases h2 : f_X5_ro κ r 2 = 0
    · rw [if_pos h2]; exact h
    · rw [if_neg h2]
      have h3 : MI (f_X5_let κ r 2 (f_X5_ro κ r 2 - 1)) := MI_let h hr (vin_lit (by decide)) (fun q => absurd q (by decide))
      generalize f_X5_let κ r 2 (f_X5_ro κ r 2 - 1) = κ1 at h3
      dsimp only
      by_cases h4 : 20 ≤ f_X5_sp κ1 s 1
      · rw [if_pos h4]; exact MI_95 h3
      · rw [if_neg h4]
        exact MI_letSpit h3 hs (vin_lit (by decide)) (fun q => absurd q (by decide)) (fun q => absurd q (by decide))
theorem MI_roasted {κ : Kp} {r s : Int32} (h : MI κ) (hr : vp_in r 16) (hs : vp_in s 6) : MI (f_X5_roasted κ r s) := by
  have key : ∀ κ1 : Kp, MI κ1 → ∀ (x y z : Kp → Int32), MI (f_X5_tan (f_X5_tan (f_X5_tan κ1 r (f_X5_ro κ1 r 1) (x κ1)) r (f_X5_ro κ1 r 1 + 1) (y (f_X5_tan κ1 r (f_X5_ro κ1 r 1) (x κ1)))) r (f_X5_ro κ1 r 1 + 3) (z (f_X5_tan (f_X5_tan κ1 r (f_X5_ro κ1 r 1) (x κ1)) r (f_X5_ro κ1 r 1 + 1) (y (f_X5_tan κ1 r (f_X5_ro κ1 r 1) (x κ1)))))) := by
    intro κ1 h1 x y z
    have hsd := MI_side h1 hr
    exact MI_tan (MI_tan (MI_tan h1 hr (in_mono hsd (by decide))) hr (in_add 1 hsd (by decide) (by decide))) hr (in_add 3 hsd (by decide) (by decide))
  unfold f_X5_roasted
  by_cases h1 : f_X5_ro κ r 3 ≤ 0
  · rw [if_pos h1]
    exact key (up2 κ 94 r.toNatClampNeg _) (MI_94 h) (fun k => k 94 r.toNatClampNeg) (fun k => k 94 r.toNatClampNeg / 3) (fun k => k 94 r.toNatClampNeg / 3)
  · rw [if_neg h1]
    refine key (f_X5_let (up2 κ 94 r.toNatClampNeg _) r 3 _) ?_ (fun k => k 94 r.toNatClampNeg) (fun k => k 94 r.toNatClampNeg / 3) (fun k => k 94 r.toNatClampNeg / 3)
    exact MI_let (κ := up2 κ 94 r.toNatClampNeg _) (MI_94 h) hr (vin_lit (by decide)) (fun q => absurd q (by decide))
theorem lp_hangNext_91 (a b : Int32) : ∀ (n j : Nat) (κ : Kp), lp_X5_hangNext a b n j κ 91 = κ 91 := by
  intro n
  induction n with
  | zero => intro j κ; rfl
  | succ n ih => intro j κ; exact (ih (j + 1) (f_X5_let κ (κ 91 3) (nI j) 0)).trans let_91
theorem hangNext_91 (κ : Kp) (a b : Int32) : f_X5_hangNext κ a b 91 = κ 91 := by
  have h := lp_hangNext_91 a b 8 0 (up2 κ 93 (κ 91 3).toNatClampNeg b)
  unfold f_X5_hangNext
  dsimp only
  rw [letSpit_91, letSpit_91, let_91, let_91, h]
  exact up2_row (by decide)
theorem lp_hangNext_MI (a b : Int32) : ∀ (n j : Nat) (κ : Kp), j + n = 8 → vp_in (κ 91 3) 16 → MI κ → MI (lp_X5_hangNext a b n j κ) := by
  intro n
  induction n with
  | zero => intro j κ hj hr h; exact h
  | succ n ih =>
    intro j κ hj hr h
    exact ih (j + 1) (f_X5_let κ (κ 91 3) (nI j) 0) (by omega) (by rw [let_91]; exact hr) (MI_let h hr (vp_in_nI (by omega) (by decide)) (fun _ => vin_lit (by decide)))
theorem MI_hangNext {κ : Kp} {s v : Int32} (h : MI κ) (hr : vp_in (κ 91 3) 16) (hs : vp_in s 6) : MI (f_X5_hangNext κ s v) := by
  unfold f_X5_hangNext
  have h1 : MI (up2 κ 93 (κ 91 3).toNatClampNeg v) := MI_93 h
  have hr1 : vp_in (up2 κ 93 (κ 91 3).toNatClampNeg v 91 3) 16 := by rw [up2_row (by decide)]; exact hr
  generalize up2 κ 93 (κ 91 3).toNatClampNeg v = κ1 at h1 hr1
  dsimp only
  have h2 := lp_hangNext_MI s v 8 0 κ1 rfl hr1 h1
  have hr2 : vp_in (lp_X5_hangNext s v 8 0 κ1 91 3) 16 := by rw [lp_hangNext_91]; exact hr1
  generalize lp_X5_hangNext s v 8 0 κ1 = κ2 at h2 hr2
  have h3 : MI (f_X5_let κ2 (κ2 91 3) 0 (s + 1)) := MI_let h2 hr2 (vin_lit (by decide)) (fun q => absurd q (by decide))
  have hr3 : vp_in (f_X5_let κ2 (κ2 91 3) 0 (s + 1) 91 3) 16 := by rw [let_91]; exact hr2
  generalize f_X5_let κ2 (κ2 91 3) 0 (s + 1) = κ3 at h3 hr3
  have h4 : MI (f_X5_let κ3 (κ3 91 3) 2 (3 * v)) := MI_let h3 hr3 (vin_lit (by decide)) (fun q => absurd q (by decide))
  have hr4 : vp_in (f_X5_let κ3 (κ3 91 3) 2 (3 * v) 91 3) 16 := by rw [let_91]; exact hr3
  generalize f_X5_let κ3 (κ3 91 3) 2 (3 * v) = κ4 at h4 hr4
  refine MI_letSpit (MI_letSpit h4 hs (vin_lit (by decide)) (fun q => absurd q (by decide)) (fun _ => in_add 1 hr4 (by decide) (by decide))) hs (vin_lit (by decide)) (fun q => absurd q (by decide)) (fun q => absurd q (by decide))
theorem holds_split {κ κ' : Kp} {a r : Int32} (e : f_X5_holds κ a = (r, κ')) : (κ' = up2 κ 91 0 (κ' 91 0)) ∧ (¬ r = 0 → ¬ bi (f_X5_isSpit κ a) = 0 ∧ ¬ f_X5_sp κ a 2 = 0) := by
  unfold f_X5_holds at e
  by_cases h1 : bi (f_X5_isSpit κ a) = 0
  · rw [if_pos h1] at e
    cases e
    exact ⟨by rw [up2_self], fun q => absurd rfl q⟩
  · rw [if_neg h1] at e
    by_cases h2 : f_X5_sp κ a 2 = 0
    · rw [if_pos h2] at e
      cases e
      exact ⟨by rw [up2_self], fun q => absurd rfl q⟩
    · rw [if_neg h2] at e
      cases e
      exact ⟨by rw [up2_self], fun _ => ⟨h1, h2⟩⟩
theorem MI_holdsf {κ κ' : Kp} {a r : Int32} (e : f_X5_holds κ a = (r, κ')) (h : MI κ) : MI κ' := by
  rw [(holds_split e).1]; exact h
theorem holds_in {κ κ' : Kp} {a r : Int32} (e : f_X5_holds κ a = (r, κ')) (h : MI κ) (hr : ¬ r = 0) : vp_in a 6 := isSpit_in h ((holds_split e).2 hr).1
theorem holds_r {κ κ' : Kp} {a r : Int32} (e : f_X5_holds κ a = (r, κ')) (h : MI κ) (hr : ¬ r = 0) : vp_in (f_X5_sp κ' a 2 - 1) 16 := by
  have h1 : f_X5_sp κ' a 2 = f_X5_sp κ a 2 := by rw [(holds_split e).1]; rfl
  rw [h1]
  exact in_pred (MI_holds h (holds_in e h hr)) (by decide) ((holds_split e).2 hr).2
theorem hop_turn {κ κ' : Kp} {r s : Int32} (e : f_X5_turn κ r = κ') (hr : vp_in r 16) (hs : vp_in s 6) (h : vp_in (f_X5_sp κ s 2 - 1) 16) : vp_in (f_X5_sp κ' s 2 - 1) 16 := by
  rw [← e]
  have h1 : f_X5_sp (f_X5_turn κ r) s 2 = f_X5_sp κ s 2 := sp_let hr (vin_lit (by decide)) hs (vin_lit (by decide))
  rw [h1]; exact h
theorem hop_each {κ κ' : Kp} {s v : Int32} (e : f_X5_each κ s v = κ') (hs : vp_in s 6) (h : vp_in (f_X5_sp κ s 2 - 1) 16) : vp_in (f_X5_sp κ' s 2 - 1) 16 := by
  have h1 := hop_letSpit (κ := κ) (s := s) (w := 4) (v := v) rfl hs hs (vin_lit (by decide)) (by decide) h
  have h2 := hop_letSpit (κ := f_X5_letSpit κ s 4 v) (s := s) (w := 3) (v := 0) rfl hs hs (vin_lit (by decide)) (by decide) h1
  rw [← e]
  exact h2
