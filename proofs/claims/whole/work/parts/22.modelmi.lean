theorem clampN {x : Int32} {n : Nat} (h : vp_in x n) (hn : n < 2 ^ 31) : nI x.toNatClampNeg = x := (vp_self h hn).symm
theorem fi_at {κ : Kp} {a b : Int32} (ha : vp_in a 3) (hb : vp_in b 2) : f_X5_fi κ a b = κ 96 (1 + 2 * a.toNatClampNeg + b.toNatClampNeg) := by
  obtain ⟨i, hi, rfl⟩ := vp_in_of ha (by decide)
  obtain ⟨w, hw, rfl⟩ := vp_in_of hb (by decide)
  show κ 96 (1 + 2 * nI i + nI w : Int32).toNatClampNeg = _
  rw [ixn_fi, nI_clamp (by omega), nI_clamp (by omega), nI_clamp (by omega)]
theorem sp_at {κ : Kp} {a b : Int32} (ha : vp_in a 6) (hb : vp_in b 5) : f_X5_sp κ a b = κ 96 (7 + 5 * a.toNatClampNeg + b.toNatClampNeg) := by
  obtain ⟨i, hi, rfl⟩ := vp_in_of ha (by decide)
  obtain ⟨w, hw, rfl⟩ := vp_in_of hb (by decide)
  show κ 96 (7 + 5 * nI i + nI w : Int32).toNatClampNeg = _
  rw [ixn_sp, nI_clamp (by omega), nI_clamp (by omega), nI_clamp (by omega)]
theorem ro_at {κ : Kp} {a b : Int32} (ha : vp_in a 16) (hb : vp_in b 8) : f_X5_ro κ a b = κ 96 (37 + 8 * a.toNatClampNeg + b.toNatClampNeg) := by
  obtain ⟨i, hi, rfl⟩ := vp_in_of ha (by decide)
  obtain ⟨w, hw, rfl⟩ := vp_in_of hb (by decide)
  show κ 96 (37 + 8 * nI i + nI w : Int32).toNatClampNeg = _
  rw [ixn_ro, nI_clamp (by omega), nI_clamp (by omega), nI_clamp (by omega)]
theorem letFire_at {κ : Kp} {a b v : Int32} (ha : vp_in a 3) (hb : vp_in b 2) : f_X5_letFire κ a b v = up2 κ 96 (1 + 2 * a.toNatClampNeg + b.toNatClampNeg) v := by
  obtain ⟨i, hi, rfl⟩ := vp_in_of ha (by decide)
  obtain ⟨w, hw, rfl⟩ := vp_in_of hb (by decide)
  show up2 κ 96 (1 + 2 * nI i + nI w : Int32).toNatClampNeg v = _
  rw [ixn_fi, nI_clamp (by omega), nI_clamp (by omega), nI_clamp (by omega)]
theorem letSpit_at {κ : Kp} {a b v : Int32} (ha : vp_in a 6) (hb : vp_in b 5) : f_X5_letSpit κ a b v = up2 κ 96 (7 + 5 * a.toNatClampNeg + b.toNatClampNeg) v := by
  obtain ⟨i, hi, rfl⟩ := vp_in_of ha (by decide)
  obtain ⟨w, hw, rfl⟩ := vp_in_of hb (by decide)
  show up2 κ 96 (7 + 5 * nI i + nI w : Int32).toNatClampNeg v = _
  rw [ixn_sp, nI_clamp (by omega), nI_clamp (by omega), nI_clamp (by omega)]
theorem let_at {κ : Kp} {a b v : Int32} (ha : vp_in a 16) (hb : vp_in b 8) : f_X5_let κ a b v = up2 κ 96 (37 + 8 * a.toNatClampNeg + b.toNatClampNeg) v := by
  obtain ⟨i, hi, rfl⟩ := vp_in_of ha (by decide)
  obtain ⟨w, hw, rfl⟩ := vp_in_of hb (by decide)
  show up2 κ 96 (37 + 8 * nI i + nI w : Int32).toNatClampNeg v = _
  rw [ixn_ro, nI_clamp (by omega), nI_clamp (by omega), nI_clamp (by omega)]
theorem MI_side {κ : Kp} {a : Int32} (h : MI κ) (ha : vp_in a 16) : vp_in (f_X5_ro κ a 1) 4 := by
  rw [ro_at ha (vin_lit (by decide))]
  exact h.2.2.2.2.2.2 _ (vpin_lt ha)
theorem MI_holds {κ : Kp} {a : Int32} (h : MI κ) (ha : vp_in a 6) : vp_in (f_X5_sp κ a 2) 17 := by
  rw [sp_at ha (vin_lit (by decide))]
  exact h.2.2.2.2.2.1 _ (vpin_lt ha)
theorem MI_feet {κ : Kp} {a : Int32} (h : MI κ) (ha : vp_in a 6) (hs : ¬ κ 91 2 ≤ a) : ¬ f_X5_sp κ a 0 = 0 := by
  rw [sp_at ha (vin_lit (by decide))]
  refine h.2.2.2.2.1 _ (vpin_lt ha) ?_
  rw [clampN ha (by decide)]
  exact hs
theorem MI_place {κ : Kp} {a : Int32} (h : MI κ) (ha : vp_in a 6) : vp_in (κ 92 a.toNatClampNeg) 3 := h.2.2.2.1 _ (vpin_lt ha)
theorem MI_placeN {κ : Kp} {j : Nat} (h : MI κ) (hj : j < 6) : vp_in (κ 92 j) 3 := h.2.2.2.1 _ hj
theorem MI_let {κ : Kp} {r w v : Int32} (h : MI κ) (hr : vp_in r 16) (hw : vp_in w 8) (h1 : w = 1 → vp_in v 4) : MI (f_X5_let κ r w v) := by
  rw [let_at hr hw]
  obtain ⟨i, hi, rfl⟩ := vp_in_of hr (by decide)
  obtain ⟨j, hj, rfl⟩ := vp_in_of hw (by decide)
  rw [nI_clamp (by omega), nI_clamp (by omega)]
  obtain ⟨a, b, c, d, f, o, q⟩ := h
  refine ⟨a, b, c, d, fun k hk hs => ?_, fun k hk => ?_, fun k hk => ?_⟩
  · rw [up2_ne κ v (Or.inr (by omega))]; exact f k hk hs
  · rw [up2_ne κ v (Or.inr (by omega))]; exact o k hk
  · by_cases e : 37 + 8 * k + 1 = 37 + 8 * i + j
    · rw [e, up2_self]
      exact h1 (by rw [show j = 1 by omega]; rfl)
    · rw [up2_ne κ v (Or.inr e)]; exact q k hk
theorem MI_letSpit {κ : Kp} {s w v : Int32} (h : MI κ) (hs : vp_in s 6) (hw : vp_in w 5) (h0 : w = 0 → ¬ v = 0) (h2 : w = 2 → vp_in v 17) : MI (f_X5_letSpit κ s w v) := by
  rw [letSpit_at hs hw]
  obtain ⟨i, hi, rfl⟩ := vp_in_of hs (by decide)
  obtain ⟨j, hj, rfl⟩ := vp_in_of hw (by decide)
  rw [nI_clamp (by omega), nI_clamp (by omega)]
  obtain ⟨a, b, c, d, f, o, q⟩ := h
  refine ⟨a, b, c, d, fun k hk hsk => ?_, fun k hk => ?_, fun k hk => ?_⟩
  · by_cases e : 7 + 5 * k = 7 + 5 * i + j
    · rw [e, up2_self]
      exact h0 (by rw [show j = 0 by omega]; rfl)
    · rw [up2_ne κ v (Or.inr e)]; exact f k hk hsk
  · by_cases e : 7 + 5 * k + 2 = 7 + 5 * i + j
    · rw [e, up2_self]
      exact h2 (by rw [show j = 2 by omega]; rfl)
    · rw [up2_ne κ v (Or.inr e)]; exact o k hk
  · rw [up2_ne κ v (Or.inr (by omega))]; exact q k hk
theorem MI_letFire {κ : Kp} {s w v : Int32} (h : MI κ) (hs : vp_in s 3) (hw : vp_in w 2) : MI (f_X5_letFire κ s w v) := by
  rw [letFire_at hs hw]
  obtain ⟨i, hi, rfl⟩ := vp_in_of hs (by decide)
  obtain ⟨j, hj, rfl⟩ := vp_in_of hw (by decide)
  rw [nI_clamp (by omega), nI_clamp (by omega)]
  exact MI_96 h (fun k hk => ⟨by omega, by omega⟩) (fun k hk => by omega)
theorem MI_tan {κ : Kp} {a b v : Int32} (h : MI κ) (ha : vp_in a 16) (hb : vp_in b 8) : MI (f_X5_tan κ a b v) := by
  refine MI_let h ha (ix_rem4 hb) (fun q => ?_)
  exfalso
  obtain ⟨w, hw, rfl⟩ := vp_in_of hb (by decide)
  have e : (nI w - nI w / 4 * 4 : Int32) = nI (w % 4) := pk_rem (a := w) (d := 4) (by omega) (by decide) (by decide)
  rw [e] at q
  have q2 : nI (4 + w % 4) = nI 1 := by rw [← nI_add]; exact q
  have q3 := congrArg Int32.toInt q2
  rw [nI_toInt (by omega), nI_toInt (by decide)] at q3
  omega
theorem MI_keep {κ : Kp} (h : MI κ) : MI (f_X5_keep κ) := h
theorem MI_fail {κ κ' : Kp} {a r : Int32} (e : f_X5_fail κ a = (r, κ')) (h : MI κ) : MI κ' := by
  have e2 := congrArg Prod.snd e
  rw [← (show _ = κ' from e2)]; exact h
theorem MI_told {κ κ' : Kp} {a r : Int32} (e : f_X5_told κ a = (r, κ')) (h : MI κ) : MI κ' := by
  have e2 := congrArg Prod.snd e
  rw [← (show _ = κ' from e2)]; exact h
theorem bi_nz {b : Bool} (h : ¬ bi b = 0) : b = true := by
  cases b
  · exact absurd rfl h
  · rfl
theorem isIn_spec {a lo hi : Int32} (h : f_X5_isIn a lo hi = true) : ¬ a < lo ∧ ¬ hi < a := by
  unfold f_X5_isIn at h
  by_cases h1 : a < lo
  · rw [if_pos h1] at h; cases h
  · rw [if_neg h1] at h
    by_cases h2 : hi < a
    · rw [if_pos h2] at h; cases h
    · exact ⟨h1, h2⟩
theorem cnt_in {a c : Int32} {n : Nat} (hc : vp_in c (n + 1)) (hn : n < 2 ^ 30) (h : f_X5_isIn a 0 (c - 1) = true) : vp_in a n ∧ ¬ c ≤ a := by
  obtain ⟨h1, h2⟩ := isIn_spec h
  obtain ⟨w, hw, rfl⟩ := vp_in_of hc (by omega)
  have ha0 : 0 ≤ a.toInt := by
    rw [Int32.lt_iff_toInt_lt] at h1
    have : (0 : Int32).toInt = 0 := rfl
    omega
  cases w with
  | zero =>
    exfalso
    rw [Int32.lt_iff_toInt_lt] at h2
    have : ((nI 0 : Int32) - 1).toInt = -1 := by decide
    omega
  | succ w =>
    rw [nI_pred, Int32.lt_iff_toInt_lt, nI_toInt (by omega)] at h2
    constructor
    · rw [vp_in_iff]; omega
    · rw [Int32.le_iff_toInt_le, nI_toInt (by omega)]; omega
theorem isFire_in {κ : Kp} {a : Int32} (h : MI κ) (hb : ¬ bi (f_X5_isFire κ a) = 0) : vp_in a 3 := (cnt_in h.1 (by decide) (bi_nz hb)).1
theorem isSpit_in {κ : Kp} {a : Int32} (h : MI κ) (hb : ¬ bi (f_X5_isSpit κ a) = 0) : vp_in a 6 := (cnt_in h.2.1 (by decide) (bi_nz hb)).1
theorem isRoast_in {κ : Kp} {a : Int32} (h : MI κ) (hb : ¬ bi (f_X5_isRoast κ a) = 0) : vp_in a 16 := (cnt_in h.2.2.1 (by decide) (bi_nz hb)).1
theorem isSpit_lt {κ : Kp} {a : Int32} (h : MI κ) (hb : ¬ bi (f_X5_isSpit κ a) = 0) : ¬ κ 91 2 ≤ a := (cnt_in h.2.1 (by decide) (bi_nz hb)).2
theorem MI_fe {κ : Kp} {j : Nat} (h : MI κ) (hj : j + 0 = 3) : κ 91 1 ≤ nI j := by rw [show j = 3 by omega]; exact in_le h.1 (by decide)
theorem MI_se {κ : Kp} {j : Nat} (h : MI κ) (hj : j + 0 = 6) : κ 91 2 ≤ nI j := by rw [show j = 6 by omega]; exact in_le h.2.1 (by decide)
theorem MI_re {κ : Kp} {j : Nat} (h : MI κ) (hj : j + 0 = 16) : κ 91 3 ≤ nI j := by rw [show j = 16 by omega]; exact in_le h.2.2.1 (by decide)
theorem hop_letSpit {κ κ' : Kp} {s s2 w v : Int32} (e : f_X5_letSpit κ s w v = κ') (hs : vp_in s 6) (hs2 : vp_in s2 6) (hw : vp_in w 5) (h2 : ¬ w = 2) (h : vp_in (f_X5_sp κ s2 2 - 1) 16) : vp_in (f_X5_sp κ' s2 2 - 1) 16 := by
  rw [← e, letSpit_at hs hw, sp_at hs2 (vin_lit (by decide)), up2_ne]
  · rw [sp_at hs2 (vin_lit (by decide))] at h
    exact h
  · refine Or.inr ?_
    obtain ⟨i, hi, rfl⟩ := vp_in_of hs (by decide)
    obtain ⟨i2, hi2, rfl⟩ := vp_in_of hs2 (by decide)
    obtain ⟨j, hj, rfl⟩ := vp_in_of hw (by decide)
    rw [nI_clamp (by omega), nI_clamp (by omega), nI_clamp (by omega)]
    show ¬ 7 + 5 * i2 + 2 = 7 + 5 * i + j
    intro q
    exact h2 (by rw [show j = 2 by omega]; rfl)
theorem sp_let {κ : Kp} {r w v s u : Int32} (hr : vp_in r 16) (hw : vp_in w 8) (hs : vp_in s 6) (hu : vp_in u 5) : f_X5_sp (f_X5_let κ r w v) s u = f_X5_sp κ s u := by
  rw [let_at hr hw, sp_at hs hu, sp_at hs hu, up2_ne]
  refine Or.inr ?_
  have h1 := vpin_lt hs
  have h2 := vpin_lt hu
  omega
