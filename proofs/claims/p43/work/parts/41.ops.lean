section OPS
variable {nf ns nr : Nat} {κ κ' m m' : Kp}
theorem Rl.of (h : Rl nf ns nr κ m) (hb : nf ≤ 3 ∧ ns ≤ 6 ∧ nr ≤ 16) (h1 : ∀ q, q < 46 → κ' q = κ q) (h2 : ∀ q, 91 ≤ q → q < 136 → m' q = m q) : Rl nf ns nr κ' m' := by
  obtain ⟨⟨a, b⟩, c, d, e⟩ := h
  refine ⟨⟨?_, ?_⟩, fun i hi => ?_, fun i hi => ?_, fun j hj => ⟨fun f hf => ?_, fun w hw => ?_⟩⟩
  · rw [h1 1 (by decide), h2 91 (by decide) (by decide)]; exact a
  · rw [h1 1 (by decide), h2 91 (by decide) (by decide)]; exact b
  · rw [h1 _ (by omega), h2 _ (by omega) (by omega)]; exact c i hi
  · rw [h1 _ (by omega), h2 _ (by omega) (by omega)]; exact d i hi
  · rw [h1 _ (by omega), h2 _ (by omega) (by omega)]; exact (e j hj).1 f hf
  · rw [h1 _ (by omega), h2 _ (by omega) (by omega)]; exact (e j hj).2 w hw
/-- places that tell the same -/
def Cor (k f q g : Nat) : Prop := (∃ i, i < 3 ∧ k = 5 + i ∧ q = 95 + i ∧ f = g ∧ f < 2) ∨ (∃ i, i < 6 ∧ k = 8 + i ∧ q = 98 + i ∧ ((f = 0 ∧ g = 0) ∨ (f = 1 ∧ g = 1) ∨ (f = 2 ∧ g = 5) ∨ (f = 3 ∧ g = 4) ∨ (f = 4 ∧ g = 2) ∨ (f = 5 ∧ g = 3))) ∨ (∃ j, j < 16 ∧ k = 14 + 2 * j ∧ q = 104 + 2 * j ∧ f = g + 1 ∧ g < 5) ∨ (k = 1 ∧ q = 91 ∧ f = g + 6 ∧ g < 2)
theorem two_at {k f q g a b c d : Nat} {v : Int32} (hiff : (a = k ∧ b = f) ↔ (c = q ∧ d = g)) (h : κ a b = m c d) : up2 κ k f v a b = up2 m q g v c d := by
  rw [up2_at, up2_at]
  by_cases x : a = k ∧ b = f
  · rw [if_pos x, if_pos (hiff.mp x)]
  · rw [if_neg x, if_neg (fun z => x (hiff.mpr z))]; exact h
theorem Rl.set {k f q g : Nat} {v : Int32} (h : Rl nf ns nr κ m) (hb : nf ≤ 3 ∧ ns ≤ 6 ∧ nr ≤ 16) (hc : Cor k f q g) : Rl nf ns nr (up2 κ k f v) (up2 m q g v) := by
  obtain ⟨⟨a, b⟩, c, d, e⟩ := h
  refine ⟨⟨two_at ?_ a, two_at ?_ b⟩, fun i hi => ⟨two_at ?_ (c i hi).1, two_at ?_ (c i hi).2⟩, fun i hi => ⟨two_at ?_ (d i hi).1, two_at ?_ (d i hi).2.1, two_at ?_ (d i hi).2.2.1, two_at ?_ (d i hi).2.2.2.1, two_at ?_ (d i hi).2.2.2.2.1, two_at ?_ (d i hi).2.2.2.2.2⟩, fun j hj => ⟨fun f' hf' => two_at ?_ ((e j hj).1 f' hf'), fun w hw => two_at ?_ ((e j hj).2 w hw)⟩⟩
  all_goals (rcases hc with ⟨i0, x1, x2, x3, x4, x5⟩ | ⟨i0, x1, x2, x3, x4⟩ | ⟨i0, x1, x2, x3, x4, x5⟩ | ⟨x1, x2, x3, x4⟩ <;> constructor <;> intro z <;> omega)
/-- both kitchens in one world -/
def RR (nf ns nr : Nat) (κ : Kp) : Prop := Iv nf ns nr κ ∧ Rl nf ns nr κ κ
theorem RR.of (h : RR nf ns nr κ) (h1 : ∀ q, q < 136 → κ' q = κ q) : RR nf ns nr κ' :=
  ⟨h.1.of (fun q hq => h1 q (by omega)), h.2.of ⟨h.1.1.1, h.1.1.2.1, h.1.1.2.2.1⟩ (fun q hq => h1 q (by omega)) (fun q _ hq => h1 q hq)⟩
theorem RR.b (h : RR nf ns nr κ) : nf ≤ 3 ∧ ns ≤ 6 ∧ nr ≤ 16 := ⟨h.1.1.1, h.1.1.2.1, h.1.1.2.2.1⟩
theorem Rl.up1 {k f : Nat} {v : Int32} (h : Rl nf ns nr κ m) (hb : nf ≤ 3 ∧ ns ≤ 6 ∧ nr ≤ 16) (hk : 46 ≤ k) : Rl nf ns nr (up2 κ k f v) m := h.of hb (fun q hq => up2_row (by omega)) (fun _ _ _ => rfl)
/-- the same number into both -/
theorem Rl.both {k f q g : Nat} {v : Int32} (h : Rl nf ns nr κ κ) (hb : nf ≤ 3 ∧ ns ≤ 6 ∧ nr ≤ 16) (hc : Cor k f q g) (hk : k < 46) (hq : 91 ≤ q) : Rl nf ns nr (up2 (up2 κ q g v) k f v) (up2 (up2 κ q g v) k f v) := by
  have h1 := h.set hb hc (v := v)
  refine Rl.of (κ := up2 κ k f v) (m := up2 κ q g v) h1 hb (fun x hx => ?_) (fun x hx _ => up2_row (by omega))
  funext y
  have e0 : ∀ (μ : Kp), up2 μ k f v x y = if x = k ∧ y = f then v else μ x y := fun μ => up2_at μ k f v x y
  rw [e0, e0]
  by_cases c : x = k ∧ y = f
  · rw [if_pos c, if_pos c]
  · rw [if_neg c, if_neg c, up2_row (by omega)]
-- where things are
theorem fireN (hI : Iv nf ns nr κ) {i : Nat} (hi : i < nf) : f_X4_needFire κ (nI i) = .inr (5 + i) := by
  unfold f_X4_needFire
  rw [fireAt_N hI.2.1.1 hi hI.1.1]
theorem spitAt_N {κ : Kp} {k i ns : Nat} (h : κ k 4 = nI ns) (hi : i < ns) (hns : ns ≤ 6) : f_X1_spitAt κ k (nI i) = some (k + 7 + i) := by
  unfold f_X1_spitAt
  have c3 : ¬ (6 : Int32) ≤ nI i := fun q => by
    have := (nIle (a := 6) (b := i) (by decide) (by omega)).mp q
    omega
  rw [if_neg (nI0 (by omega)), h, if_neg (by rw [nIle (by omega) (by omega)]; omega), if_neg c3, nI_clamp (by omega)]
theorem spitN (hI : Iv nf ns nr κ) {i : Nat} (hi : i < ns) : f_X4_needSpit κ (nI i) = .inr (8 + i) := by
  unfold f_X4_needSpit
  rw [spitAt_N hI.2.1.2.1 hi hI.1.2.1]
theorem roastN (hI : Iv nf ns nr κ) {j : Nat} (hj : j < nr) : f_X4_needRoast κ (nI j) = .inr (14 + 2 * j) := by
  unfold f_X4_needRoast
  rw [roastAt_N hI.2.1.2.2 hj hI.1.2.2.1]
theorem roastOfN (hI : Iv nf ns nr κ) {q j : Nat} (hj : j < nr) (e : κ q 5 = nI j) : f_X4_needRoastOf κ q = .inr (14 + 2 * j) := by
  unfold f_X4_needRoastOf
  rw [e, roastAt_N hI.2.1.2.2 hj hI.1.2.2.1]
theorem feetN {w : Nat} (h1 : 1 ≤ w) (h3 : w ≤ 3) : f_X4_needFeet κ (nI w) = .inr () := by
  unfold f_X4_needFeet
  rw [if_neg (show ¬ nI w < (1 : Int32) from fun q => by
    have := (nIlt (a := w) (b := 1) (by omega) (by decide)).mp q
    omega), if_pos (show nI w ≤ (3 : Int32) from (nIle (a := w) (b := 3) (by omega) (by decide)).mpr h3)]
theorem poundsN {w : Nat} (h1 : 1 ≤ w) (h3 : w ≤ 12) : f_X4_needPounds κ (nI w) = .inr () := by
  unfold f_X4_needPounds
  rw [if_neg (show ¬ nI w < (1 : Int32) from fun q => by
    have := (nIlt (a := w) (b := 1) (by omega) (by decide)).mp q
    omega), if_pos (show nI w ≤ (12 : Int32) from (nIle (a := w) (b := 12) (by omega) (by decide)).mpr h3)]
-- what is told (κ is κ0 below 136)
theorem Iv.to (h : RR nf ns nr κ) (hq : ∀ q, q < 136 → κ' q = κ q) : Iv nf ns nr κ' := (h.of hq).1
theorem rd_fire (h : RR nf ns nr κ) (hq : ∀ q, q < 136 → κ' q = κ q) {i : Nat} (hi : i < nf) : f_X4_logsOf κ' (nI i) = .inr (κ (5 + i) 0, κ') ∧ f_X4_heatOf κ' (nI i) = .inr (κ (5 + i) 1, κ') := by
  have hI := Iv.to h hq
  have hb := h.b
  unfold f_X4_logsOf f_X4_heatOf
  rw [fireN hI hi]
  dsimp only
  rw [hq _ (by omega)]
  exact ⟨rfl, rfl⟩
theorem rd_spit (h : RR nf ns nr κ) (hq : ∀ q, q < 136 → κ' q = κ q) {i : Nat} (hi : i < ns) : f_X4_fireOf κ' (nI i) = .inr (κ (8 + i) 0, κ') ∧ f_X4_feetOf κ' (nI i) = .inr (κ (8 + i) 1, κ') ∧ f_X4_turnedEach κ' (nI i) = .inr (κ (8 + i) 2, κ') ∧ f_X4_drippingsOf κ' (nI i) = .inr (κ (8 + i) 4, κ') ∧ f_X4_roastOn κ' (nI i) = .inr (κ (8 + i) 5, κ') ∧ f_X4_glowAt κ' (nI i) = .inr (gl κ i, κ') := by
  have hI := Iv.to h hq
  have hb := h.b
  have e8 : κ' (8 + i) = κ (8 + i) := hq _ (by omega)
  unfold f_X4_fireOf f_X4_feetOf f_X4_turnedEach f_X4_drippingsOf f_X4_roastOn f_X4_glowAt
  rw [spitN hI hi]
  dsimp only
  rw [e8]
  refine ⟨rfl, rfl, rfl, rfl, rfl, ?_⟩
  obtain ⟨f, hf, ef⟩ := vp_in_of (h.1.2.2.1.fire hi hb.2.1 (by have := h.1.1.2.2.2; omega)) (by omega)
  unfold f_X1_glowOf gl
  rw [e8, ef, fireAt_N hI.2.1.1 hf hb.1]
  dsimp only
  rw [if_pos (feet_pos (h.1.2.2.1.feet hi hb.2.1) (h.1.2.2.2.1.1 i hi)), nI_clamp (by omega), hq (1 + 4 + f) (by omega)]
theorem rd_roast (h : RR nf ns nr κ) (hq : ∀ q, q < 136 → κ' q = κ q) {j : Nat} (hj : j < nr) : f_X4_poundsOf κ' (nI j) = .inr (κ (14 + 2 * j) 1, κ') ∧ f_X4_spitOf κ' (nI j) = .inr (κ (14 + 2 * j) 2, κ') ∧ f_X4_sideToFire κ' (nI j) = .inr (κ (14 + 2 * j) 3, κ') ∧ f_X4_fatOf κ' (nI j) = .inr (κ (14 + 2 * j) 4, κ') ∧ f_X4_wetFor κ' (nI j) = .inr (κ (14 + 2 * j) 5, κ') ∧ (∀ w, w < 4 → f_X4_brownOf κ' (nI j) (nI w) = .inr (κ (15 + 2 * j) w, κ')) ∧ f_X4_isDone κ' (nI j) = .inr (bi (f_X2_done κ (14 + 2 * j)), κ') ∧ f_X4_isBurnt κ' (nI j) = .inr (bi (f_X2_burnt κ (14 + 2 * j)), κ') := by
  have hI := Iv.to h hq
  have hb := h.b
  have e14 : κ' (14 + 2 * j) = κ (14 + 2 * j) := hq _ (by omega)
  have e15 : κ' (14 + 2 * j + 1) = κ (14 + 2 * j + 1) := hq _ (by omega)
  have lD : ∀ (n t : Nat), lp_X2_done κ' (14 + 2 * j) n t = lp_X2_done κ (14 + 2 * j) n t := by
    intro n
    induction n with
    | zero => intro t; rfl
    | succ n ih => intro t; rw [lp_X2_done, lp_X2_done, e14, e15, ih]
  have lB : ∀ (n t : Nat), lp_X2_burnt κ' (14 + 2 * j) n t = lp_X2_burnt κ (14 + 2 * j) n t := by
    intro n
    induction n with
    | zero => intro t; rfl
    | succ n ih => intro t; rw [lp_X2_burnt, lp_X2_burnt, e14, e15, ih]
  unfold f_X4_poundsOf f_X4_spitOf f_X4_sideToFire f_X4_fatOf f_X4_wetFor f_X4_brownOf f_X4_isDone f_X4_isBurnt
  rw [roastN hI hj]
  dsimp only
  rw [e14]
  refine ⟨rfl, rfl, rfl, rfl, rfl, fun w hw => ?_, ?_, ?_⟩
  · rw [if_neg (nI0 (by omega)), if_pos (show nI w < (4 : Int32) from (nIlt (a := w) (b := 4) (by omega) (by decide)).mpr hw), nI_clamp (by omega), e15, show 14 + 2 * j + 1 = 15 + 2 * j by omega]
  · unfold f_X2_done; rw [lD]
  · unfold f_X2_burnt; rw [lB]
-- minutes
def lpS (nf ns nr : Nat) : Nat → Int32 → Kp → Int32 × Kp
  | 0, v, m => (v, m)
  | n + 1, v, m => match f_X6_pass nf ns nr m with | (r, m1) => lpS nf ns nr n (v + r) m1
theorem runs (a : Int32) : ∀ (n j : Nat) (v : Int32) (κ m : Kp), Iv nf ns nr κ → Rl nf ns nr κ m → ∃ (w : Int32) (κ' m' : Kp), lp_X1_goMinutes 1 a n j v κ = (w, κ') ∧ lpS nf ns nr n v m = (w, m') ∧ Iv nf ns nr κ' ∧ Rl nf ns nr κ' m' ∧ (∀ q, 46 ≤ q → κ' q = κ q) ∧ (∀ q, q < 91 → m' q = m q) := by
  intro n
  induction n with
  | zero => intro j v κ m hI hR; exact ⟨v, κ, m, rfl, rfl, hI, hR, fun _ _ => rfl, fun _ _ => rfl⟩
  | succ n ih =>
    intro j v κ m hI hR
    obtain ⟨r, κ1, e1, hC⟩ := class_minute hI
    obtain ⟨m1, e2, hR1, hm⟩ := sim_minute hI hR hC
    obtain ⟨w, κ', m', a1, a2, a3, a4, a5, a6⟩ := ih (j + 1) (v + r) κ1 m1 (CM_Iv hI hC) hR1
    refine ⟨w, κ', m', ?_, ?_, a3, a4, fun q hq => (a5 q hq).trans (hC.2.2.2.2.1 q (by omega) (Or.inr hq)), fun q hq => (a6 q hq).trans (hm q (Or.inl hq))⟩
    · rw [lp_X1_goMinutes, e1]; exact a1
    · rw [lpS, e2]; exact a2
/-- the law lets minutes go by, then the class -/
theorem op_pass (h : RR nf ns nr κ) {k : Nat} (h1 : 1 ≤ k) (h2 : k ≤ 200) : ∃ (w : Int32) (κ1 κ2 : Kp), lpS nf ns nr k 0 κ = (w, κ1) ∧ f_X4_pass κ1 (nI k) = .inr (w, κ2) ∧ RR nf ns nr κ2 := by
  obtain ⟨w0, κ0, m0, -, b1, -, -, -, b5⟩ := runs (nI k) k 0 0 κ κ h.1 h.2
  have hI1 : Iv nf ns nr m0 := h.1.of (fun q hq => b5 q (by omega))
  have hR1 : Rl nf ns nr m0 κ := h.2.of h.b (fun q hq => b5 q (by omega)) (fun _ _ _ => rfl)
  obtain ⟨w, κ2, m', a1, a2, a3, a4, a5, a6⟩ := runs (nI k) k 0 0 m0 κ hI1 hR1
  rw [b1] at a2
  obtain ⟨rfl, rfl⟩ := Prod.mk.inj a2
  refine ⟨w0, m0, κ2, b1, ?_, a3, a4.of h.b (fun _ _ => rfl) (fun q q1 q2 => a5 q (by omega))⟩
  unfold f_X4_pass f_X1_goMinutes
  rw [if_neg (show ¬ nI k < (1 : Int32) from fun q => by
    have := (nIlt (a := k) (b := 1) (by omega) (by decide)).mp q
    omega), if_pos (show nI k ≤ (200 : Int32) from (nIle (a := k) (b := 200) (by omega) (by decide)).mpr h2), nI_clamp (by omega), a1]
end OPS
