theorem lp_until_spec (a b : Int32) {κ0 : Kp} : ∀ (n j : Nat) (κ : Kp), MI κ → (∀ q, q ≠ 94 → q ≠ 95 → q ≠ 96 → κ q = κ0 q) → MI (lp_X5_until a b n j κ).2 ∧ (∀ q, q ≠ 94 → q ≠ 95 → q ≠ 96 → (lp_X5_until a b n j κ).2 q = κ0 q) := by
  intro n
  induction n with
  | zero => intro j κ h h2; exact ⟨h, h2⟩
  | succ n ih =>
    intro j κ h h2
    rw [lp_X5_until]
    have step : ∀ r κ1, f_X5_minuteOn κ = (r, κ1) → MI (lp_X5_until a b n (j + 1) κ1).2 ∧ (∀ q, q ≠ 94 → q ≠ 95 → q ≠ 96 → (lp_X5_until a b n (j + 1) κ1).2 q = κ0 q) := by
      intro r κ1 e
      obtain ⟨m1, m2, m3⟩ := minuteOn_spec e h
      exact ih (j + 1) κ1 m1 (fun q q1 q2 q3 => (m2 q q1 q2 q3).trans (h2 q q1 q2 q3))
    by_cases hb : b = 0
    · rw [if_pos hb]
      by_cases h1 : bi (f_X5_done κ a) = 0
      · rw [if_pos h1]
        rcases e : f_X5_minuteOn κ with ⟨r, κ1⟩
        exact step r κ1 e
      · rw [if_neg h1]; exact ⟨h, h2⟩
    · rw [if_neg hb]
      by_cases h1 : bi (f_X5_burnt κ a) = 0
      · rw [if_pos h1]
        rcases e : f_X5_minuteOn κ with ⟨r, κ1⟩
        exact step r κ1 e
      · rw [if_neg h1]; exact ⟨h, h2⟩
theorem cp_row {κ : Kp} {s d q : Nat} (h : ¬ q = d) : cp κ s d q = κ q := va_up_ne _ _ h
theorem cp_at {κ : Kp} {s d j : Nat} (h : j < 165) : cp κ s d d j = κ s j := by
  unfold cp
  rw [va_up_self]
  exact if_pos h
theorem until_snd (κ : Kp) (a b : Int32) : (f_X5_until κ a b).2 = f_X5_bringBack (lp_X5_until a b 201 0 κ).2 := by
  unfold f_X5_until
  rcases lp_X5_until a b 201 0 κ with ⟨u, κ1⟩
  dsimp only
  split <;> rfl
theorem until_spec {κ κ' : Kp} {a b r : Int32} (e : f_X5_until κ a b = (r, κ')) (h : MI κ) : (∀ q, q ≠ 94 → q ≠ 95 → q ≠ 96 → κ' q = κ q) ∧ (∀ j, j < 165 → κ' 96 j = κ 97 j) := by
  obtain ⟨h1, h2⟩ := lp_until_spec a b (κ0 := κ) 201 0 κ h (fun _ _ _ _ => rfl)
  have e2 := congrArg Prod.snd e
  rw [until_snd] at e2
  generalize (lp_X5_until a b 201 0 κ).2 = κ1 at h1 h2 e2
  have e3 : cp κ1 97 96 = κ' := e2
  rw [← e3]
  refine ⟨fun q q1 q2 q3 => ?_, fun j hj => ?_⟩
  · rw [cp_row q3]; exact h2 q q1 q2 q3
  · rw [cp_at hj, h2 97 (by decide) (by decide) (by decide)]
/-- all that MI looks at -/
theorem MIr_of {κ κ' : Kp} {x x' : Nat → Int32} (h : MIr κ x) (h1 : κ' 91 = κ 91) (h2 : κ' 92 = κ 92) (h3 : ∀ j, j < 165 → x' j = x j) : MIr κ' x' := by
  obtain ⟨a, b, c, d, f, o, q⟩ := h
  refine ⟨by rw [h1]; exact a, by rw [h1]; exact b, by rw [h1]; exact c, fun i hi => by rw [h2]; exact d i hi, fun i hi hs => ?_, fun i hi => ?_, fun i hi => ?_⟩
  · rw [h3 _ (by omega)]; rw [h1] at hs; exact f i hi hs
  · rw [h3 _ (by omega)]; exact o i hi
  · rw [h3 _ (by omega)]; exact q i hi
def DF (κ : Kp) (n : Nat) : Prop := MI κ ∧ (κ 91 4).toInt = (κ 96 0).toInt + n ∧ 0 ≤ (κ 96 0).toInt ∧ (κ 91 4).toInt < 2 ^ 30
theorem DF_0 {κ : Kp} (h : DF κ 0) : κ 91 4 ≤ κ 96 0 := by
  rw [Int32.le_iff_toInt_le]; have := h.2.1; omega
theorem DF_s {κ : Kp} {n : Nat} (h : DF κ (n + 1)) : ¬ κ 91 4 ≤ κ 96 0 := by
  rw [Int32.le_iff_toInt_le]; have := h.2.1; omega
theorem i32_inc {x : Int32} (h0 : 0 ≤ x.toInt) (h : x.toInt < 2 ^ 30) : (x + 1).toInt = x.toInt + 1 := by
  obtain ⟨n, hn⟩ : ∃ n : Nat, x = nI n ∧ n < 2 ^ 30 := by
    refine ⟨x.toInt.toNat, ?_, by omega⟩
    apply Int32.toInt_inj.mp
    rw [nI_toInt (by omega)]; omega
  obtain ⟨rfl, hn⟩ := hn
  rw [show (nI n + 1 : Int32) = nI (n + 1) from (nI_1 n).symm ▸ rfl, nI_toInt (by omega), nI_toInt (by omega)]
  omega
theorem DF_step {κ κ' : Kp} {n : Nat} {r : Int32} (e : f_X5_minuteOn κ = (r, κ')) (h : DF κ (n + 1)) : DF κ' n := by
  obtain ⟨h1, h2, h3, h4⟩ := h
  obtain ⟨m1, m2, m3⟩ := minuteOn_spec e h1
  have e1 := i32_inc h3 (by omega)
  refine ⟨m1, ?_, ?_, ?_⟩
  · rw [m2 91 (by decide) (by decide) (by decide), m3, e1]; omega
  · rw [m3, e1]; omega
  · rw [m2 91 (by decide) (by decide) (by decide)]; exact h4
theorem DF_start {κ κ1 κ2 : Kp} (e1 : up2 κ 91 0 0 = κ1) (e2 : f_X5_keep κ1 = κ2) (h : MI κ) (hm : 0 ≤ (κ 96 0).toInt ∧ (κ 96 0).toInt < 2 ^ 29) (hf : 0 ≤ (κ 91 4).toInt ∧ (κ 91 4).toInt < 2 ^ 29) (hin : ¬ bi (f_X5_isIn (κ1 91 4 - κ1 96 0) 0 200) = 0) : DF κ2 (κ2 91 4 - κ2 96 0).toNatClampNeg := by
  have q2 : κ2 = cp κ1 96 97 := e2.symm
  have a1 : κ2 91 4 = κ 91 4 := by rw [q2, cp_row (by decide), ← e1, up2_ne κ _ (Or.inr (by decide))]
  have a2 : κ2 96 0 = κ 96 0 := by rw [q2, cp_row (by decide), ← e1, up2_ne κ _ (Or.inl (by decide))]
  have b1 : κ1 91 4 = κ 91 4 := by rw [← e1, up2_ne κ _ (Or.inr (by decide))]
  have b2 : κ1 96 0 = κ 96 0 := by rw [← e1, up2_ne κ _ (Or.inl (by decide))]
  obtain ⟨i1, i2⟩ := isIn_spec (bi_nz hin)
  rw [b1, b2, Int32.lt_iff_toInt_lt] at i1
  rw [show (0 : Int32).toInt = 0 from rfl] at i1
  have hsub : (κ 91 4 - κ 96 0).toInt = (κ 91 4).toInt - (κ 96 0).toInt := by
    rw [Int32.toInt_sub]
    exact Int.bmod_eq_of_le (by omega) (by omega)
  refine ⟨?_, ?_, ?_, ?_⟩
  · rw [← e2]; exact MI_keep (by rw [← e1]; exact MI_th rfl h)
  · rw [a1, a2]
    have hc : (κ 91 4 - κ 96 0).toNatClampNeg = (κ 91 4 - κ 96 0).toInt.toNat := rfl
    omega
  · rw [a2]; exact hm.1
  · rw [a1]; omega
def IK (a : Int32) (κ : Kp) : Prop := MI κ ∧ (∀ j, j < 165 → κ 97 j = κ 96 j) ∧ ¬ f_X5_sp κ a 2 = 0
theorem IK_hop {a : Int32} {κ : Kp} (h : IK a κ) (ha : vp_in a 6) : vp_in (f_X5_sp κ a 2 - 1) 16 := in_pred (MI_holds h.1 ha) (by decide) h.2.2
theorem IK_start {a : Int32} {κ κ1 : Kp} (e : f_X5_keep κ = κ1) (h : MI κ) (h2 : ¬ f_X5_sp κ a 2 = 0) : IK a κ1 := by
  have q : κ1 = cp κ 96 97 := e.symm
  refine ⟨by rw [← e]; exact MI_keep h, fun j hj => ?_, ?_⟩
  · rw [q, cp_at hj, cp_row (by decide)]
  · rw [show f_X5_sp κ1 a 2 = f_X5_sp κ a 2 from by rw [← e]; rfl]; exact h2
theorem back_to {κ κ2 : Kp} (h : MI κ) (hk : ∀ j, j < 165 → κ 97 j = κ 96 j) (h91 : κ2 91 = κ 91) (h92 : κ2 92 = κ 92) (h97 : κ2 97 = κ 97) (h96 : ∀ j, j < 165 → κ2 96 j = κ 97 j) : MI κ2 ∧ (∀ j, j < 165 → κ2 97 j = κ2 96 j) :=
  ⟨MIr_of h h91 h92 (fun j hj => (h96 j hj).trans (hk j hj)), fun j hj => by rw [h97, h96 j hj]⟩
theorem each_row {κ : Kp} {a v : Int32} {q : Nat} (h : ¬ q = 96) : f_X5_each κ a v q = κ q := by
  show up2 (up2 κ 96 _ v) 96 _ 0 q = κ q
  rw [up2_row h, up2_row h]
theorem IK_step {κ κ1 κ2 : Kp} {a v r b res : Int32} (ha : vp_in a 6) (h : IK a κ) (e1 : f_X5_each κ a v = κ1) (e2 : f_X5_until κ1 r b = (res, κ2)) : IK a κ2 := by
  have hM1 : MI κ1 := by rw [← e1]; exact MI_each h.1 ha
  obtain ⟨f1, f2⟩ := until_spec e2 hM1
  have r1 : ∀ q, q ≠ 96 → κ1 q = κ q := fun q hq => by rw [← e1]; exact each_row hq
  have h96 : ∀ j, j < 165 → κ2 96 j = κ 97 j := fun j hj => by rw [f2 j hj, r1 97 (by decide)]
  obtain ⟨g1, g2⟩ := back_to (κ2 := κ2) h.1 h.2.1 ((f1 91 (by decide) (by decide) (by decide)).trans (r1 91 (by decide))) ((f1 92 (by decide) (by decide) (by decide)).trans (r1 92 (by decide))) ((f1 97 (by decide) (by decide) (by decide)).trans (r1 97 (by decide))) h96
  refine ⟨g1, g2, ?_⟩
  have h3 := h.2.2
  rw [sp_at ha (vin_lit (by decide))] at h3 ⊢
  have hl := vpin_lt ha
  rw [h96 _ (by show 7 + 5 * a.toNatClampNeg + 2 < 165; omega), h.2.1 _ (by show 7 + 5 * a.toNatClampNeg + 2 < 165; omega)]
  exact h3
theorem lp_hangNext_row (a b : Int32) {q : Nat} (hq : ¬ q = 96) : ∀ (n j : Nat) (κ : Kp), lp_X5_hangNext a b n j κ q = κ q := by
  intro n
  induction n with
  | zero => intro j κ; rfl
  | succ n ih => intro j κ; exact (ih (j + 1) (f_X5_let κ (κ 91 3) (nI j) 0)).trans (up2_row hq)
theorem hangNext_row {κ : Kp} {a b : Int32} {q : Nat} (hq : ¬ q = 96) (hq2 : ¬ q = 93) : f_X5_hangNext κ a b q = κ q := by
  unfold f_X5_hangNext
  dsimp only
  have l1 : ∀ (k : Kp) (x y z : Int32), f_X5_letSpit k x y z q = k q := fun k x y z => up2_row hq
  have l2 : ∀ (k : Kp) (x y z : Int32), f_X5_let k x y z q = k q := fun k x y z => up2_row hq
  rw [l1, l1, l2, l2, lp_hangNext_row a b hq]
  exact up2_row hq2
def IS (κ : Kp) : Prop := MI κ ∧ (∀ j, j < 165 → κ 97 j = κ 96 j) ∧ vp_in (κ 91 3) 16
theorem IS_start {κ κ1 : Kp} (e : f_X5_keep κ = κ1) (h : MI κ) (h2 : vp_in (κ 91 3) 16) : IS κ1 := by
  have q : κ1 = cp κ 96 97 := e.symm
  refine ⟨by rw [← e]; exact MI_keep h, fun j hj => ?_, ?_⟩
  · rw [q, cp_at hj, cp_row (by decide)]
  · rw [q, cp_row (by decide)]; exact h2
theorem IS_step {κ κ1 κ2 : Kp} {a v r b res : Int32} (ha : vp_in a 6) (h : IS κ) (e1 : f_X5_hangNext κ a v = κ1) (e2 : f_X5_until κ1 r b = (res, κ2)) : IS κ2 := by
  have hM1 : MI κ1 := by rw [← e1]; exact MI_hangNext h.1 h.2.2 ha
  obtain ⟨f1, f2⟩ := until_spec e2 hM1
  have r1 : ∀ q, q ≠ 96 → q ≠ 93 → κ1 q = κ q := fun q hq hq2 => by rw [← e1]; exact hangNext_row hq hq2
  have h96 : ∀ j, j < 165 → κ2 96 j = κ 97 j := fun j hj => by rw [f2 j hj, r1 97 (by decide) (by decide)]
  have h91 := (f1 91 (by decide) (by decide) (by decide)).trans (r1 91 (by decide) (by decide))
  obtain ⟨g1, g2⟩ := back_to (κ2 := κ2) h.1 h.2.1 h91 ((f1 92 (by decide) (by decide) (by decide)).trans (r1 92 (by decide) (by decide))) ((f1 97 (by decide) (by decide) (by decide)).trans (r1 97 (by decide) (by decide))) h96
  exact ⟨g1, g2, by rw [h91]; exact h.2.2⟩
