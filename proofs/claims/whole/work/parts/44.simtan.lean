theorem nIle {a b : Nat} (ha : a < 2 ^ 31) (hb : b < 2 ^ 31) : nI a ≤ nI b ↔ a ≤ b := by
  rw [Int32.le_iff_toInt_le, nI_toInt ha, nI_toInt hb]; omega
theorem nIlt {a b : Nat} (ha : a < 2 ^ 31) (hb : b < 2 ^ 31) : nI a < nI b ↔ a < b := by
  rw [Int32.lt_iff_toInt_lt, nI_toInt ha, nI_toInt hb]; omega
theorem nIeq {a b : Nat} (ha : a < 2 ^ 31) (hb : b < 2 ^ 31) : nI a = nI b ↔ a = b := by
  constructor
  · intro h
    have h2 := congrArg Int32.toInt h
    rw [nI_toInt ha, nI_toInt hb] at h2
    omega
  · rintro rfl; rfl
theorem nI0 {a : Nat} (ha : a < 2 ^ 31) : ¬ nI a < 0 := by
  show ¬ nI a < nI 0
  rw [nIlt ha (by decide)]; omega
/-- browner, up to 99 -/
def bw (b m : Nat) : Nat := if b + m < 99 then b + m else 99
theorem bw_lt (b m : Nat) : bw b m < 100 := by unfold bw; split <;> omega
theorem bw_ge {b : Nat} (m : Nat) (h : b < 100) : b ≤ bw b m := by unfold bw; split <;> omega
theorem brow_eq {κ : Kp} {p s b mo : Nat} (hs : s < 4) (hb : κ (p + 1) s = nI b) (hb2 : b < 100) (hm : mo ≤ 9) : f_X2_getBrowner κ p (nI s) (nI mo) = up2 κ (p + 1) s (nI (bw b mo)) := by
  unfold f_X2_getBrowner
  have c4 : ¬ (4 : Int32) ≤ nI s := by
    show ¬ nI 4 ≤ nI s
    rw [nIle (by decide) (by omega)]; omega
  rw [if_neg (nI0 (by omega)), if_neg c4, nI_clamp (by omega), hb, nI_add]
  dsimp only
  by_cases c : b + mo ≤ 99
  · have c9 : nI (b + mo) ≤ 99 := (nIle (a := b + mo) (b := 99) (by omega) (by decide)).mpr c
    rw [if_pos c9]
    have e : bw b mo = b + mo := by unfold bw; split <;> omega
    rw [e]
  · have c9 : ¬ nI (b + mo) ≤ 99 := fun q => c ((nIle (a := b + mo) (b := 99) (by omega) (by decide)).mp q)
    rw [if_neg c9]
    have e : bw b mo = 99 := by unfold bw; split <;> omega
    rw [e]
    rfl
theorem let_N {κ : Kp} {i w : Nat} {v : Int32} (hi : i < 16) (hw : w < 8) : f_X5_let κ (nI i) (nI w) v = up2 κ 96 (37 + 8 * i + w) v := by
  rw [let_at (vp_in_nI hi (by decide)) (vp_in_nI hw (by decide)), nI_clamp (by omega), nI_clamp (by omega)]
theorem ro_N {κ : Kp} {i w : Nat} (hi : i < 16) (hw : w < 8) : f_X5_ro κ (nI i) (nI w) = κ 96 (37 + 8 * i + w) := by
  rw [ro_at (vp_in_nI hi (by decide)) (vp_in_nI hw (by decide)), nI_clamp (by omega), nI_clamp (by omega)]
theorem letSpit_N {κ : Kp} {i w : Nat} {v : Int32} (hi : i < 6) (hw : w < 5) : f_X5_letSpit κ (nI i) (nI w) v = up2 κ 96 (7 + 5 * i + w) v := by
  rw [letSpit_at (vp_in_nI hi (by decide)) (vp_in_nI hw (by decide)), nI_clamp (by omega), nI_clamp (by omega)]
theorem sp_N {κ : Kp} {i w : Nat} (hi : i < 6) (hw : w < 5) : f_X5_sp κ (nI i) (nI w) = κ 96 (7 + 5 * i + w) := by
  rw [sp_at (vp_in_nI hi (by decide)) (vp_in_nI hw (by decide)), nI_clamp (by omega), nI_clamp (by omega)]
theorem letFire_N {κ : Kp} {i w : Nat} {v : Int32} (hi : i < 3) (hw : w < 2) : f_X5_letFire κ (nI i) (nI w) v = up2 κ 96 (1 + 2 * i + w) v := by
  rw [letFire_at (vp_in_nI hi (by decide)) (vp_in_nI hw (by decide)), nI_clamp (by omega), nI_clamp (by omega)]
theorem fi_N {κ : Kp} {i w : Nat} (hi : i < 3) (hw : w < 2) : f_X5_fi κ (nI i) (nI w) = κ 96 (1 + 2 * i + w) := by
  rw [fi_at (vp_in_nI hi (by decide)) (vp_in_nI hw (by decide)), nI_clamp (by omega), nI_clamp (by omega)]
theorem tan_eq {κ : Kp} {i sd s b mo : Nat} (hi : i < 16) (hsd : sd < 8) (e : sd % 4 = s) (hb : κ 96 (37 + 8 * i + 4 + s) = nI b) (hb2 : b < 100) (hm : mo ≤ 9) : f_X5_tan κ (nI i) (nI sd) (nI mo) = up2 κ 96 (37 + 8 * i + 4 + s) (nI (bw b mo)) := by
  have e1 : (4 + (nI sd - nI sd / 4 * 4) : Int32) = nI (4 + s) := by
    have e2 : (nI sd - nI sd / 4 * 4 : Int32) = nI (sd % 4) := pk_rem (a := sd) (d := 4) (by omega) (by decide) (by decide)
    rw [e2, e, ← nI_add]; rfl
  unfold f_X5_tan
  dsimp only
  rw [e1, ro_N hi (by omega), let_N hi (by omega), show 37 + 8 * i + (4 + s) = 37 + 8 * i + 4 + s by omega, hb, nI_add]
  by_cases c : b + mo < 99
  · have c9 : nI (b + mo) < 99 := (nIlt (a := b + mo) (b := 99) (by omega) (by decide)).mpr c
    rw [if_pos c9]
    have e : bw b mo = b + mo := by unfold bw; split <;> omega
    rw [e]
  · have c9 : ¬ nI (b + mo) < 99 := fun q => c ((nIlt (a := b + mo) (b := 99) (by omega) (by decide)).mp q)
    rw [if_neg c9]
    have e : bw b mo = 99 := by unfold bw; split <;> omega
    rw [e]
    rfl
section SIMT
variable {k nf ns nr : Nat} {κ0 m0 κc κm : Kp}
theorem RX_brown (h : RX k κc κm) {i w : Nat} (hi : i < 16) (hw : w < 4) : κc (k + 13 + 2 * i + 1) w = κm 96 (37 + 8 * i + 4 + w) := by
  obtain ⟨e1, e2, e3⟩ := (oC_roast i hi).2 w hw
  have h1 := h (37 + 8 * i + 4 + w) (by omega)
  rw [e1, e2] at h1
  unfold dj at h1
  rw [e3] at h1
  rw [show k + 13 + 2 * i + 1 = k + (13 + 2 * i + 1) by omega]
  exact h1
theorem RX_roast (h : RX k κc κm) {i w : Nat} (hi : i < 16) (hw : w < 4) (h0 : 0 < w) : κc (k + 13 + 2 * i) (w + 2) = κm 96 (37 + 8 * i + w) := by
  obtain ⟨e1, e2, e3⟩ := (oC_roast i hi).1 w hw
  have h1 := h (37 + 8 * i + w) (by omega)
  rw [e1, e2] at h1
  unfold dj at h1
  rw [e3, decide_eq_false (by omega)] at h1
  rw [show k + 13 + 2 * i = k + (13 + 2 * i) by omega]
  exact h1
theorem RX_on (h : RX k κc κm) {i : Nat} (hi : i < 16) : κc (k + 13 + 2 * i) 2 = κm 96 (37 + 8 * i) - 1 := by
  obtain ⟨e1, e2, e3⟩ := (oC_roast i hi).1 0 (by omega)
  have h1 := h (37 + 8 * i + 0) (by omega)
  rw [e1, e2] at h1
  unfold dj at h1
  rw [e3, decide_eq_true rfl] at h1
  rw [show k + 13 + 2 * i = k + (13 + 2 * i) by omega]
  exact h1
theorem RX_fire (h : RX k κc κm) {i j : Nat} (hi : i < 3) (hj : j < 2) : κc (k + 4 + i) j = κm 96 (1 + 2 * i + j) := by
  obtain ⟨e1, e2, e3⟩ := oC_fire i hi j hj
  have h1 := h (1 + 2 * i + j) (by omega)
  rw [e1, e2] at h1
  unfold dj at h1
  rw [e3] at h1
  rw [show k + 4 + i = k + (4 + i) by omega]
  exact h1
theorem RX_spit (h : RX k κc κm) {i : Nat} (hi : i < 6) : κc (k + 7 + i) 1 = κm 96 (7 + 5 * i) ∧ κc (k + 7 + i) 4 = κm 96 (7 + 5 * i + 1) ∧ κc (k + 7 + i) 5 = κm 96 (7 + 5 * i + 2) - 1 ∧ κc (k + 7 + i) 3 = κm 96 (7 + 5 * i + 3) ∧ κc (k + 7 + i) 2 = κm 96 (7 + 5 * i + 4) := by
  obtain ⟨⟨a1, a2, a3⟩, ⟨b1, b2, b3⟩, ⟨c1, c2, c3⟩, ⟨d1, d2, d3⟩, ⟨e1, e2, e3⟩⟩ := oC_spit i hi
  have ha := h (7 + 5 * i) (by omega)
  have hb := h (7 + 5 * i + 1) (by omega)
  have hc := h (7 + 5 * i + 2) (by omega)
  have hd := h (7 + 5 * i + 3) (by omega)
  have he := h (7 + 5 * i + 4) (by omega)
  rw [a1, a2] at ha; rw [b1, b2] at hb; rw [c1, c2] at hc; rw [d1, d2] at hd; rw [e1, e2] at he
  unfold dj at ha hb hc hd he
  rw [a3] at ha; rw [b3] at hb; rw [c3] at hc; rw [d3] at hd; rw [e3] at he
  rw [show k + 7 + i = k + (7 + i) by omega]
  exact ⟨ha, hb, hc, hd, he⟩
theorem J_brown {i w : Nat} {v : Int32} (h : J k nf ns nr κ0 m0 κc κm) (hi : i < 16) (hw : w < 4) (hg : Gx nf ns nr (m0 96) (37 + 8 * i + (4 + w)) v) : J k nf ns nr κ0 m0 (up2 κc (k + 13 + 2 * i + 1) w v) (up2 κm 96 (37 + 8 * i + 4 + w) v) := by
  obtain ⟨e1, e2, e3⟩ := (oC_roast i hi).2 w hw
  have h1 := J_up (x := 37 + 8 * i + 4 + w) (v := v) (w := v) h (by omega) (by unfold dj; rw [e3]; rfl) (by rw [show 37 + 8 * i + 4 + w = 37 + 8 * i + (4 + w) by omega]; exact hg)
  rw [e1, e2] at h1
  rw [show k + 13 + 2 * i + 1 = k + (13 + 2 * i + 1) by omega]
  exact h1
theorem J_roast {i w : Nat} {v : Int32} (h : J k nf ns nr κ0 m0 κc κm) (hi : i < 16) (hw : w < 4) (h0 : 0 < w) (hg : Gx nf ns nr (m0 96) (37 + 8 * i + w) v) : J k nf ns nr κ0 m0 (up2 κc (k + 13 + 2 * i) (w + 2) v) (up2 κm 96 (37 + 8 * i + w) v) := by
  obtain ⟨e1, e2, e3⟩ := (oC_roast i hi).1 w hw
  have h1 := J_up (x := 37 + 8 * i + w) (v := v) (w := v) h (by omega) (by unfold dj; rw [e3, decide_eq_false (by omega)]; rfl) hg
  rw [e1, e2] at h1
  rw [show k + 13 + 2 * i = k + (13 + 2 * i) by omega]
  exact h1
theorem J_fire {i j : Nat} {v : Int32} (h : J k nf ns nr κ0 m0 κc κm) (hi : i < 3) (hj : j < 2) (hg : Gx nf ns nr (m0 96) (1 + 2 * i + j) v) : J k nf ns nr κ0 m0 (up2 κc (k + 4 + i) j v) (up2 κm 96 (1 + 2 * i + j) v) := by
  obtain ⟨e1, e2, e3⟩ := oC_fire i hi j hj
  have h1 := J_up (x := 1 + 2 * i + j) (v := v) (w := v) h (by omega) (by unfold dj; rw [e3]; rfl) hg
  rw [e1, e2] at h1
  rw [show k + 4 + i = k + (4 + i) by omega]
  exact h1
theorem J_drips {i : Nat} {v : Int32} (h : J k nf ns nr κ0 m0 κc κm) (hi : i < 6) : J k nf ns nr κ0 m0 (up2 κc (k + 7 + i) 4 v) (up2 κm 96 (7 + 5 * i + 1) v) := by
  obtain ⟨-, ⟨b1, b2, b3⟩, -⟩ := oC_spit i hi
  have h1 := J_up (x := 7 + 5 * i + 1) (v := v) (w := v) h (by omega) (by unfold dj; rw [b3]; rfl) (Gx_spit hi (Or.inl rfl))
  rw [b1, b2] at h1
  rw [show k + 7 + i = k + (7 + i) by omega]
  exact h1
theorem J_count {i : Nat} {v : Int32} (h : J k nf ns nr κ0 m0 κc κm) (hi : i < 6) : J k nf ns nr κ0 m0 (up2 κc (k + 7 + i) 3 v) (up2 κm 96 (7 + 5 * i + 3) v) := by
  obtain ⟨-, -, -, ⟨b1, b2, b3⟩, -⟩ := oC_spit i hi
  have h1 := J_up (x := 7 + 5 * i + 3) (v := v) (w := v) h (by omega) (by unfold dj; rw [b3]; rfl) (Gx_spit hi (Or.inr (Or.inl rfl)))
  rw [b1, b2] at h1
  rw [show k + 7 + i = k + (7 + i) by omega]
  exact h1
theorem J_minute {v : Int32} (h : J k nf ns nr κ0 m0 κc κm) : J k nf ns nr κ0 m0 (up2 κc k 6 v) (up2 κm 96 0 v) := by
  obtain ⟨b1, b2, b3⟩ := oC_0
  have h1 := J_up (x := 0) (v := v) (w := v) h (by omega) (by unfold dj; rw [b3]; rfl) Gx_0
  rw [b1, b2] at h1
  exact h1
theorem J_b (h : J k nf ns nr κ0 m0 κc κm) {i w : Nat} (hi : i < 16) (hw : w < 4) : ∃ b : Nat, b < 100 ∧ κm 96 (37 + 8 * i + 4 + w) = nI b ∧ κc (k + 13 + 2 * i + 1) w = nI b := by
  have h1 := (((h.2.1 (37 + 8 * i + (4 + w)) (by omega)).2.2.2.2 i hi (4 + w) (by omega) rfl).2.2.2 (by omega)).1
  obtain ⟨b, hb, e⟩ := vp_in_of h1 (by decide)
  rw [show 37 + 8 * i + (4 + w) = 37 + 8 * i + 4 + w by omega] at e
  exact ⟨b, hb, e, (RX_brown h.1 hi hw).trans e⟩
/-- a side gets browner -/
theorem J_tan {i s sd mo : Nat} (h : J k nf ns nr κ0 m0 κc κm) (hi : i < nr) (hnr : nr ≤ 16) (hs : s < 4) (hsd : sd < 8) (e : sd % 4 = s) (hm : mo ≤ 9) : J k nf ns nr κ0 m0 (f_X2_getBrowner κc (k + 13 + 2 * i) (nI s) (nI mo)) (f_X5_tan κm (nI i) (nI sd) (nI mo)) := by
  have hi2 : i < 16 := by omega
  obtain ⟨b, hb, e1, e2⟩ := J_b h hi2 hs
  rw [brow_eq hs e2 hb hm, tan_eq hi2 hsd e e1 hb hm]
  have hm0 := (((h.2.1 (37 + 8 * i + (4 + s)) (by omega)).2.2.2.2 i hi2 (4 + s) (by omega) rfl).2.2.2 (by omega)).2
  have hbw := bw_lt b mo
  have hge := bw_ge mo hb
  refine J_brown h hi2 hs (Gx_roast hi2 (by omega) (fun q => by omega) (fun q => by omega) (fun q => by omega) (fun _ => ⟨vp_in_nI hbw (by decide), ?_⟩))
  rw [show 37 + 8 * i + (4 + s) = 37 + 8 * i + 4 + s by omega] at hm0 ⊢
  rw [e1, nI_toInt (by omega)] at hm0
  rw [nI_toInt (by omega)]
  omega
end SIMT
