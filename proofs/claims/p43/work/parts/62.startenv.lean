theorem ws_flags {l : Launch} (h : l.flags = flags0) : l.stackTraces = false := by
  unfold Launch.stackTraces
  rw [h]
  decide +kernel
theorem ws_env {s : State} {b : Addr} (hts : ∀ w ∈ lw_tbl, w.before #[Value.ref b] s = true) : ∃ (D : va_G) (cA : Nat → ClassId), EnvC D cA s := by
  have htu : ∀ w ∈ uW, w.before #[Value.ref b] s = true := fun w h => hts w (List.mem_filter.mp h).1
  obtain ⟨c0, i0, k0⟩ := u_known (C := RX0) (T := TX0) (N := 3) (n := 3) htu inW0 (htu _ u_ins_X0)
  obtain ⟨c1, i1, k1⟩ := u_known (C := RX1) (T := TX1) (N := 8) (n := 8) htu inW1 (htu _ u_ins_X1)
  obtain ⟨c2, i2, k2⟩ := u_known (C := RX2) (T := TX2) (N := 6) (n := 6) htu inW2 (htu _ u_ins_X2)
  obtain ⟨c3, i3, k3⟩ := u_known (C := RX3) (T := TX3) (N := 6) (n := 6) htu inW3 (htu _ u_ins_X3)
  obtain ⟨c4, i4, k4⟩ := u_known (C := RX4) (T := TX4) (N := 2) (n := 2) htu inW4 (htu _ u_ins_X4)
  obtain ⟨c5, i5, k5⟩ := u_known (C := RX5) (T := TX5) (N := 7) (n := 7) htu inW5 (htu _ u_ins_X5)
  obtain ⟨c6, i6, k6⟩ := u_known (C := RX6) (T := TX6) (N := 5) (n := 5) htu inW6 (htu _ u_ins_X6)
  obtain ⟨aI, kI, pI, aI1, aI2, aI3⟩ := Cond.arrayClass_spec (htu _ u_ac_int)
  obtain ⟨aZ, kZ, pZ, aZ1, aZ2, aZ3⟩ := Cond.arrayClass_spec (htu _ u_ac_boolean)
  have wA : (Cond.arrayOver (.array .int)).before #[Value.ref b] s = true := hts _ (by decide +kernel)
  have w0 : (Cond.arrayOver (.object "KitchenSpits$Fire")).before #[Value.ref b] s = true := hts _ (by decide +kernel)
  have w3 : (Cond.arrayOver (.object "KitchenSpits$Spit")).before #[Value.ref b] s = true := hts _ (by decide +kernel)
  have w2 : (Cond.arrayOver (.object "KitchenSpits$Roast")).before #[Value.ref b] s = true := hts _ (by decide +kernel)
  have w5 : (Cond.arrayOver (.object "KitchenSpitsLaw$Roast")).before #[Value.ref b] s = true := hts _ (by decide +kernel)
  obtain ⟨compA, aA, kA, A1, -, A3, A4, A5⟩ := arrayOverA_spec wA
  obtain ⟨pF, aF, kF, f1, -, f3, f4, f5⟩ := Cond.arrayOver_spec w0
  obtain ⟨pS, aS, kS, s1, -, s3, s4, s5⟩ := Cond.arrayOver_spec w3
  obtain ⟨pR, aR, kR, r1, -, r3, r4, r5⟩ := Cond.arrayOver_spec w2
  obtain ⟨pL, aL, kL, l1, -, l3, l4, l5⟩ := Cond.arrayOver_spec w5
  refine ⟨(fun k => match k with | 0 => c0 | 1 => c1 | 2 => c2 | 3 => c3 | 4 => c4 | 5 => c5 | _ => c6, fun k => match k with | 0 => i0 | 1 => i1 | 2 => i2 | 3 => i3 | 4 => i4 | 5 => i5 | _ => i6), (fun k => match k with | 0 => aI | 1 => aA | 2 => aF | 3 => aS | 4 => aR | 5 => aL | _ => aZ), ⟨fun k q hq => ?_, fun k q hq => ?_⟩, ⟨va_AO.of w0, va_AO.of w3, va_AO.of w2⟩, ⟨va_Nw.of rfl (hts (.methodLinkNest RX1 33 yX0_init "KitchenSpits") (by decide +kernel)), va_Nw.of rfl (hts (.methodLinkNest RX1 34 yX3_init "KitchenSpits") (by decide +kernel)), va_Nw.of rfl (hts (.methodLinkNest RX1 35 yX2_init "KitchenSpits") (by decide +kernel))⟩⟩
  · match k, hq with
    | 0, hq => cases hq; exact k0
    | 1, hq => cases hq; exact k1
    | 2, hq => cases hq; exact k2
    | 3, hq => cases hq; exact k3
    | 4, hq => cases hq; exact k4
    | 5, hq => cases hq; exact k5
    | 6, hq => cases hq; exact k6
    | k + 7, hq => simp [vwCl] at hq
  · match k, hq with
    | 0, hq => cases hq; exact ⟨fun n z => ⟨fun k h => (by cases h), kI, aI2, pI, aI3⟩, aI1⟩
    | 1, hq => cases hq; exact ⟨fun n z => ⟨fun k h => (by cases h), kA, A3, compA, A4⟩, A5⟩
    | 2, hq => cases hq; exact ⟨fun n z => ⟨fun k h => (by cases h), kF, f3, pF, f4⟩, kF, pF, f3, f4, f1, f5⟩
    | 3, hq => cases hq; exact ⟨fun n z => ⟨fun k h => (by cases h), kS, s3, pS, s4⟩, kS, pS, s3, s4, s1, s5⟩
    | 4, hq => cases hq; exact ⟨fun n z => ⟨fun k h => (by cases h), kR, r3, pR, r4⟩, kR, pR, r3, r4, r1, r5⟩
    | 5, hq => cases hq; exact ⟨fun n z => ⟨fun k h => (by cases h), kL, l3, pL, l4⟩, kL, pL, l3, l4, l1, l5⟩
    | 6, hq => cases hq; exact ⟨fun n z => ⟨fun k h => (by cases h), kZ, aZ2, pZ, aZ3⟩, aZ1⟩
    | k + 7, hq => simp [tyl] at hq
theorem ws_strs : ∀ q ∈ strl, Cond.stringRef RX4 q.1 q.2 ∈ lw_tbl ∧ Cond.exactly (.string RX4 q.1) "java/lang/String" ∈ flatC (Jvm.Cond.and given_1 narrow_1) := by decide +kernel
theorem ws_nwl : ∀ w ∈ nwl, w ∈ lw_tbl := by decide +kernel
theorem ws_env0 {s : State} {b : Addr} (hts : ∀ w ∈ lw_tbl, w.before #[Value.ref b] s = true) (hgv : (Jvm.Cond.and given_1 narrow_1).before #[Value.ref b] s = true) : Env0 s := by
  have hf := flat_of_before _ hgv
  refine ⟨fun w hw => va_Nw.of (nwl_tab hw) (hts w (ws_nwl w hw)), fun q hq => ?_, trivial, trivial, trivial, va_AOA.of (A := #[Value.ref b]) (hts _ (by decide +kernel)), va_AO.of (hts (Cond.arrayOver (.object "KitchenSpitsLaw$Roast")) (by decide +kernel)), va_Nw.of rfl (hts (.methodLinkNest RX6 28 yX5_init "KitchenSpitsLaw") (by decide +kernel)), va_Nw.of rfl (hts (.methodLinkNest RL 95 yX6_init "KitchenSpitsLaw") (by decide +kernel))⟩
  obtain ⟨h1, h2⟩ := ws_strs q hq
  obtain ⟨a, -, -, -, ha, -⟩ := Cond.exactly_spec (hf _ h2)
  exact ⟨a, vk_R.of (hts _ h1) ha⟩
theorem ws_zs {s : State} {b : Addr} {A : Nat → Prop} (hts : ∀ w ∈ lw_tbl, w.before #[Value.ref b] s = true) (hgv : (Jvm.Cond.and given_1 narrow_1).before #[Value.ref b] s = true) (hA : ∀ a : Nat, a < s.heap.size → ¬ A a) : Zs A s s.heap := by
  have hf := flat_of_before _ hgv
  have hi : (Cond.initialized Bundle.tN).before #[Value.ref b] s = true := hts _ (by decide +kernel)
  exact ⟨vx_Zqof (hts _ (by decide +kernel)) hi (hf _ (by decide +kernel)) hA, vx_Zqof (hts _ (by decide +kernel)) hi (hf _ (by decide +kernel)) hA⟩
theorem st_F : ∀ i, i < 3 → κst (5 + i) 0 = 0 ∧ κst (5 + i) 1 = 0 ∧ κst (5 + i) 2 = 0 := by decide +kernel
theorem st_S : ∀ i, i < 6 → κst (8 + i) 2 = 0 ∧ κst (8 + i) 3 = 0 ∧ κst (8 + i) 4 = 0 ∧ κst (8 + i) 5 = -1 := by decide +kernel
theorem st_R : ∀ j, j < 16 → κst (14 + 2 * j) 2 = -1 ∧ κst (14 + 2 * j) 3 = 0 ∧ κst (14 + 2 * j) 5 = 0 ∧ ∀ w, w < 4 → κst (15 + 2 * j) w = 0 := by decide +kernel
theorem ws_Iv : Iv 0 0 0 κst := by
  refine ⟨⟨by decide, by decide, by decide, Or.inl rfl⟩, ⟨by decide +kernel, by decide +kernel, by decide +kernel⟩, Rg.mk (by decide) (by decide) (fun i hi => ?_) (fun i hi => ?_) (fun j hj => ?_), ⟨fun i hi => absurd hi (Nat.not_lt_zero i), fun j hj => absurd hj (Nat.not_lt_zero j)⟩, ⟨fun i hi => Or.inl (st_S i hi).2.2.2, fun j hj => Or.inl (st_R j hj).1⟩⟩
  · obtain ⟨a, b, c⟩ := st_F i hi
    rw [a, b, c]
    exact ⟨vp_0 (by split <;> decide), vp_0 (by split <;> decide), rfl⟩
  · obtain ⟨a, b, c, d⟩ := st_S i hi
    rw [a, b, c]
    exact ⟨fun q => absurd q (Nat.not_lt_zero i), vp_0 (by split <;> decide), fun _ => rfl, vp_0 (by split <;> decide)⟩
  · obtain ⟨a, b, c, d⟩ := st_R j hj
    rw [b, c]
    exact ⟨fun q => absurd q (Nat.not_lt_zero j), vp_0 (by split <;> decide), vp_0 (by split <;> decide), fun w hw => by rw [d w hw]; exact vp_0 (by split <;> decide)⟩
