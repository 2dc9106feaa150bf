/-! THE LAW'S ROWS OF A ROUND: where they are, and what they keep. -/
def TW (L : List Nat) (ad : Nat → Nat) (nf ns nr : Nat) : Prop := (136 ∈ L ∧ ∀ i, i < nr → 137 + i ∈ L) ∧ (∀ k, 153 ≤ k → k < 160 → k ∈ L) ∧ ad 1136 = nr ∧ ad 1153 = nr ∧ ad 1154 = nr ∧ ad 1155 = nr ∧ ad 1156 = nr ∧ ad 1157 = ns ∧ ad 1158 = nf ∧ ad 1159 = nf
section TWX
variable {L : List Nat} {ad : Nat → Nat} {nf ns nr : Nat} {cA : Nat → ClassId} {r : Nat → Int32}
theorem TW.m (h : TW L ad nf ns nr) (k : Nat) (h1 : 153 ≤ k) (h2 : k < 160) : k ∈ L := h.2.1 k h1 h2
theorem kd_153 : kd 153 = 23 := by decide
theorem kd_154 : kd 154 = 23 := by decide
theorem kd_155 : kd 155 = 23 := by decide
theorem kd_157 : kd 157 = 23 := by decide
theorem kd_158 : kd 158 = 23 := by decide
theorem kd_159 : kd 159 = 23 := by decide
theorem TW.s153 (h : TW L ad nf ns nr) : sh cA ad 153 r = .inl (cA 0, nr, .inl r) := by rw [sh23 kd_153, show ad (1000 + 153) = nr from h.2.2.2.1]
theorem TW.s154 (h : TW L ad nf ns nr) : sh cA ad 154 r = .inl (cA 0, nr, .inl r) := by rw [sh23 kd_154, show ad (1000 + 154) = nr from h.2.2.2.2.1]
theorem TW.s155 (h : TW L ad nf ns nr) : sh cA ad 155 r = .inl (cA 0, nr, .inl r) := by rw [sh23 kd_155, show ad (1000 + 155) = nr from h.2.2.2.2.2.1]
theorem TW.s156 (h : TW L ad nf ns nr) : sh cA ad 156 r = .inl (cA 6, nr, .inl r) := by rw [sh24 kd_156, show ad (1000 + 156) = nr from h.2.2.2.2.2.2.1]
theorem TW.s157 (h : TW L ad nf ns nr) : sh cA ad 157 r = .inl (cA 0, ns, .inl r) := by rw [sh23 kd_157, show ad (1000 + 157) = ns from h.2.2.2.2.2.2.2.1]
theorem TW.s158 (h : TW L ad nf ns nr) : sh cA ad 158 r = .inl (cA 0, nf, .inl r) := by rw [sh23 kd_158, show ad (1000 + 158) = nf from h.2.2.2.2.2.2.2.2.1]
theorem TW.s159 (h : TW L ad nf ns nr) : sh cA ad 159 r = .inl (cA 0, nf, .inl r) := by rw [sh23 kd_159, show ad (1000 + 159) = nf from h.2.2.2.2.2.2.2.2.2]
theorem TW.s136 (h : TW L ad nf ns nr) : sh cA ad 136 r = .inl (cA 1, nr, Qr (fun i => if i < nr then some (ad (137 + i)) else none)) := by
  rw [sh22 kd_136, show ad (1000 + 136) = nr from h.2.2.1]
end TWX
def LoQ (κ μ : Kp) : Prop := ∀ q, q < 136 → μ q = κ q
def TF (κ μ : Kp) (j : Nat) : Prop := ∀ i, i < j → μ 158 i = κ (5 + i) 1 ∧ μ 159 i = κ (5 + i) 0
def TS (κ μ : Kp) (j : Nat) : Prop := ∀ i, i < j → μ 157 i = gl κ i
def TRr (κ μ : Kp) (r : Nat) : Prop := μ 153 r = κ (14 + 2 * r) 4 ∧ μ 154 r = κ (14 + 2 * r) 3 ∧ μ 155 r = κ (14 + 2 * r) 5 ∧ μ 156 r = bi (f_X2_burnt κ (14 + 2 * r)) ∧ ∀ w, w < 4 → μ (137 + r) w = κ (15 + 2 * r) w
def TR (κ μ : Kp) (j : Nat) : Prop := ∀ r, r < j → TRr κ μ r
section TEMP
variable {nf ns nr j : Nat} {κ μ μ' : Kp} {k f : Nat} {v : Int32}
theorem LoQ.up (h : LoQ κ μ) (hk : 136 ≤ k) : LoQ κ (up2 μ k f v) := fun q hq => by rw [up2_row (by omega)]; exact h q hq
theorem TF.of (h : TF κ μ j) (h1 : μ' 158 = μ 158) (h2 : μ' 159 = μ 159) : TF κ μ' j := fun i hi => by rw [h1, h2]; exact h i hi
theorem TS.of (h : TS κ μ j) (h1 : μ' 157 = μ 157) : TS κ μ' j := fun i hi => by rw [h1]; exact h i hi
theorem TR.of (h : TR κ μ j) (hj : j ≤ 16) (h1 : ∀ q, 137 ≤ q → q < 157 → μ' q = μ q) : TR κ μ' j := fun r hr => by
  obtain ⟨a, b, c, d, e⟩ := h r hr
  refine ⟨?_, ?_, ?_, ?_, fun w hw => ?_⟩
  · rw [h1 153 (by decide) (by decide)]; exact a
  · rw [h1 154 (by decide) (by decide)]; exact b
  · rw [h1 155 (by decide) (by decide)]; exact c
  · rw [h1 156 (by decide) (by decide)]; exact d
  · rw [h1 _ (by omega) (by omega)]; exact e w hw
theorem TF.add (h : TF κ μ j) : TF κ (up2 (up2 μ 158 j (κ (5 + j) 1)) 159 j (κ (5 + j) 0)) (j + 1) := fun i hi => by
  by_cases e : i = j
  · subst e
    rw [up2_row (by decide), up2_self, up2_self]; exact ⟨rfl, rfl⟩
  · rw [up2_ne _ _ (by omega), up2_ne _ _ (by omega), up2_ne _ _ (by omega), up2_ne _ _ (by omega)]
    exact h i (by omega)
theorem TS.add (h : TS κ μ j) : TS κ (up2 μ 157 j (gl κ j)) (j + 1) := fun i hi => by
  by_cases e : i = j
  · subst e; exact up2_self _ _ _ _
  · rw [up2_ne _ _ (by omega)]; exact h i (by omega)
theorem TR.add (h : TR κ μ j) (hj : j < 16) (h1 : ∀ q, 137 ≤ q → q < 153 → q ≠ 137 + j → μ' q = μ q) (h2 : ∀ q, 153 ≤ q → q < 157 → ∀ i, i ≠ j → μ' q i = μ q i) (hr : TRr κ μ' j) : TR κ μ' (j + 1) := fun r hr2 => by
  by_cases e : r = j
  · subst e; exact hr
  · obtain ⟨a, b, c, d, x⟩ := h r (by omega)
    refine ⟨?_, ?_, ?_, ?_, fun w hw => ?_⟩
    · rw [h2 153 (by decide) (by decide) r e]; exact a
    · rw [h2 154 (by decide) (by decide) r e]; exact b
    · rw [h2 155 (by decide) (by decide) r e]; exact c
    · rw [h2 156 (by decide) (by decide) r e]; exact d
    · rw [h1 _ (by omega) (by omega) (by omega)]; exact x w hw
theorem gl_re (h : LoQ κ μ) (hI : Iv nf ns nr κ) {i : Nat} (hi : i < ns) : gl μ i = gl κ i := by
  obtain ⟨f, hf, ef⟩ := vp_in_of (hI.2.2.1.fire hi hI.1.2.1 (by have := hI.1.2.2.2; omega)) (by have := hI.1.1; omega)
  have h6 := hI.1
  unfold gl
  rw [h (8 + i) (by omega), ef, nI_clamp (by omega), h (5 + f) (by omega)]
theorem burnt_re (h : LoQ κ μ) {r : Nat} (hr : r < 16) : f_X2_burnt μ (14 + 2 * r) = f_X2_burnt κ (14 + 2 * r) := by
  have e14 := h (14 + 2 * r) (by omega)
  have e15 := h (14 + 2 * r + 1) (by omega)
  have lB : ∀ (n t : Nat), lp_X2_burnt μ (14 + 2 * r) n t = lp_X2_burnt κ (14 + 2 * r) n t := by
    intro n
    induction n with
    | zero => intro t; rfl
    | succ n ih => intro t; rw [lp_X2_burnt, lp_X2_burnt, e14, e15, ih]
  unfold f_X2_burnt
  rw [lB]
theorem TF.re {θ : Kp} (h : TF κ θ nf) (hq : LoQ κ μ) (hnf : nf ≤ 3) : TF μ θ nf := fun i hi => by rw [hq _ (by omega)]; exact h i hi
theorem TS.re {θ : Kp} (h : TS κ θ ns) (hq : LoQ κ μ) (hI : Iv nf ns nr κ) : TS μ θ ns := fun i hi => by rw [gl_re hq hI hi]; exact h i hi
theorem TR.re {θ : Kp} (h : TR κ θ nr) (hq : LoQ κ μ) (hnr : nr ≤ 16) : TR μ θ nr := fun r hr => by
  have h14 := hq (14 + 2 * r) (by omega)
  have h15 := hq (15 + 2 * r) (by omega)
  unfold TRr
  rw [h14, h15, burnt_re hq (by omega)]
  exact h r hr
theorem rng {x : Int32} {n : Nat} (h : vp_in x (n + 1)) (hn : n < 1000) : ¬ x < 0 ∧ ¬ nI n < x ∧ x ≤ nI n := by
  obtain ⟨k, hk, rfl⟩ := vp_in_of h (by omega)
  refine ⟨nI0 (by omega), fun z => ?_, (nIle (by omega) (by omega)).mpr (by omega)⟩
  have := (nIlt (a := n) (b := k) (by omega) (by omega)).mp z
  omega
theorem fat_rng (h : RR nf ns nr κ) (hj : j < nr) : ¬ κ (14 + 2 * j) 4 < 0 ∧ ¬ 3 * κ (14 + 2 * j) 1 < κ (14 + 2 * j) 4 := by
  have hb := h.b
  obtain ⟨p, hp, ep⟩ := vp_in_of (h.1.2.2.1.pounds hj hb.2.2) (by decide)
  have hf := (h.1.2.2.2.1.2 j hj).2
  rw [ep, nI_clamp (by omega)] at hf
  have := rng (n := 3 * p) hf (by omega)
  rw [ep, show (3 : Int32) * nI p = nI (3 * p) from nI_mul 3 p]
  exact ⟨this.1, this.2.1⟩
theorem drip_in (h : RR nf ns nr κ) (hj : j < ns) : vp_in (κ (8 + j) 4) 21 := by
  have hb := h.b
  have := h.1.2.2.1.drip (i := j) (by omega)
  rw [if_pos hj] at this; exact this
theorem on_lt (h : RR nf ns nr κ) (hj : j < ns) : ¬ nI nr ≤ κ (8 + j) 5 := by
  have hb := h.b
  rcases h.1.2.2.2.2.1 j (by omega) with q | ⟨_, i, hi, e, _⟩
  · rw [q]
    intro z
    exact nI0 (a := nr) (by omega) (Int32.lt_of_le_of_lt z n1_neg)
  · rw [e]
    intro z
    have := (nIle (a := nr) (b := i) (by omega) (by omega)).mp z
    omega
theorem bi_nar (b : Bool) : vp_nar .boolean (bi b) = bi b := by cases b <;> rfl
theorem bi_ne {b : Bool} (h : ¬ bi b = 0) : b = true := by cases b with | false => exact absurd rfl h | true => rfl
theorem op_min (h : RR nf ns nr κ) : ∃ (v : Int32) (κ1 κ2 : Kp), f_X4_pass κ (nI 1) = .inr (v, κ1) ∧ CM κ v κ1 ∧ SI nf ns nr κ1 ∧ f_X6_pass nf ns nr κ1 = (v, κ2) ∧ RR nf ns nr κ2 ∧ (∀ q, q < 91 → κ2 q = κ1 q) ∧ (∀ q, 136 ≤ q → q < 160 → κ2 q = κ q) := by
  have hb := h.b
  obtain ⟨v, κ1, e1, hC⟩ := class_minute h.1
  have h46 : ∀ q, 46 ≤ q → κ1 q = κ q := fun q hq => hC.2.2.2.2.1 q (by omega) (Or.inr hq)
  have hR1 : Rl nf ns nr κ κ1 := h.2.of hb (fun _ _ => rfl) (fun q h1 _ => h46 q (by omega))
  obtain ⟨κ2, e2, hR2, hm⟩ := sim_minute h.1 hR1 hC
  have hI1 := CM_Iv h.1 hC
  have hI2 : Iv nf ns nr κ2 := hI1.of (fun q hq => hm q (Or.inl (by omega)))
  refine ⟨v, κ1, κ2, ?_, hC, SI_of h.1 hR1, e2, ⟨hI2, hR2.of hb (fun q hq => hm q (Or.inl (by omega))) (fun _ _ _ => rfl)⟩, fun q hq => hm q (Or.inl hq), fun q q1 q2 => (hm q (Or.inr ⟨q1, q2⟩)).trans (h46 q (by omega))⟩
  unfold f_X4_pass f_X1_goMinutes
  rw [if_neg (show ¬ nI 1 < (1 : Int32) by decide), if_pos (show nI 1 ≤ (200 : Int32) by decide), show (nI 1).toNatClampNeg = 1 from rfl, lp_X1_goMinutes, e1]
  dsimp only
  rw [lp_X1_goMinutes, Int32.zero_add]
end TEMP
