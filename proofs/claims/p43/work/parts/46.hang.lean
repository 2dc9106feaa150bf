/-- what hanging leaves of the law's numbers -/
def hgC (nr i p : Nat) (κ κ3 : Kp) : Prop := (∀ q, q < 136 → q ≠ 98 + i → q ≠ 104 + 2 * nr → q ≠ 105 + 2 * nr → κ3 q = κ q) ∧ (∀ y, y ≠ 3 → y ≠ 4 → κ3 (98 + i) y = κ (98 + i) y) ∧ κ3 (98 + i) 3 = nI nr ∧ κ3 (98 + i) 4 = 0 ∧ κ3 (104 + 2 * nr) 0 = nI p ∧ κ3 (104 + 2 * nr) 1 = nI i ∧ κ3 (104 + 2 * nr) 2 = 0 ∧ κ3 (104 + 2 * nr) 3 = 3 * nI p ∧ κ3 (104 + 2 * nr) 4 = 0 ∧ (∀ w, w < 4 → κ3 (105 + 2 * nr) w = 0)
theorem q_X6_hang : hdV yX6_hang RX6 2 := ⟨rfl, by decide +kernel, by decide +kernel, by decide +kernel⟩
theorem Lm.depA {L : List Nat} {ad : Nat → Nat} {nf ns nr k : Nat} (h : Lm L ad nf ns nr []) (hk : 95 ≤ k) (hk2 : k < 1000) (hkL : k ∉ L) {j x : Nat} {r : Nat → Int32} (hj : j ∈ L) (hx : dep ad j r x) : x ≠ k ∧ x ≠ 1000 + k := by
  have hjk : j ≠ k := fun z => hkL (z ▸ hj)
  have hj1 := h.lt (fun i hi => by cases hi) hj
  have hno := fun z => hkL ((h.1 k).mpr z)
  rcases dep_lm h hj hx with z | z | z | z | z | z
  · omega
  · omega
  · exact ⟨fun e => hno (Or.inr (Or.inl (by omega))), by have := h.2.2.1; omega⟩
  · exact ⟨fun e => hno (Or.inr (Or.inr (Or.inl (by omega)))), by have := h.2.2.1; omega⟩
  · exact ⟨fun e => hno (Or.inr (Or.inr (Or.inr (Or.inl (by omega))))), by have := h.2.2.1; omega⟩
  · cases z
theorem Lm.noN {L : List Nat} {ad : Nat → Nat} {nf ns nr k : Nat} (h : Lm L ad nf ns nr []) (hk : ¬ (k < 95 ∨ (95 ≤ k ∧ k < 95 + nf) ∨ (98 ≤ k ∧ k < 98 + ns) ∨ (104 ≤ k ∧ k < 104 + 2 * nr))) : k ∉ L := fun q => by
  rcases (h.1 k).mp q with z | z | z | z | z
  · exact hk (Or.inl z)
  · exact hk (Or.inr (Or.inl z))
  · exact hk (Or.inr (Or.inr (Or.inl z)))
  · exact hk (Or.inr (Or.inr (Or.inr z)))
  · cases z
set_option maxRecDepth 100000 in
set_option maxHeartbeats 4000000 in
theorem m_X6_hang (l : Launch) (g : Gt) (κ : Kp) (sz : Nat) {nf ns nr i pd : Nat} (hL : Lm g.1.2 g.2.2 nf ns nr []) (hi : i < ns) (hnr : nr < 16) : Met l yX6_hang (.code yX6_hang cX6_hang 5 (some .int) :: uW) { frames := 2, cells := 3, slots := 27, locals := 40 } (PRE g κ sz [.ref (g.2.2 91), .int (nI i), .int (nI pd)]) (va_Qi (fun r (u : GS) => r = nI nr ∧ Lm u.1.1 u.1.2 nf ns (nr + 1) [] ∧ (∀ k, k < 92 → u.1.2 k = g.2.2 k) ∧ hgC nr i pd κ u.2) (Wu g.1.1 g.2.1 (fr g sz)) (fr g sz)) 3 27 (fr g sz) := by
  refine k_enter (by decide +kernel) (Nat.le_of_ble_eq_true rfl) ?_
  intro p e s m below meth c ls hM hr hl hw hsz
  subst hsz
  have hl : lv_has ls 5 [(0, .ref (g.2.2 91)), (1, .int (nI i)), (2, .int (nI pd))] := hl
  have h164 := hw.2.2.1.2.2.2.2
  have hb := hL.2.2.1
  have hn162 : 162 ∉ g.1.2 := hL.noN (by omega)
  refine lv_aload_n hM.x hM.b dX6_hang_0 rfl (lv_at hl 0 rfl) ?_
  refine k_get6r 2 hM hw hL.m91 (by decide) u_fl_X6_24 dX6_hang_1 ?_
  refine k_alenD (n := nr) hM hw hL.m94 5 (lsh94 hL) rfl rfl dX6_hang_4 ?_
  refine lv_iconst (v := nI 1) hM.x hM.b dX6_hang_5 (by decide) ?_
  refine k_iaddN (a := nr) (b := 1) hM dX6_hang_6 ?_
  refine a_newQ (N := nr + 1) 162 (rr 0 0) hM hw hn162 (by omega) (fun j hj x hx => hL.depA (by decide) (by decide) hn162 hj hx) (fun ad' h => by rw [sh162 h (by decide)]; exact congrArg (fun z => Sum.inl (g.2.1 5, nr + 1, Qr z)) nil_Qr) u_cl_X6_22 rfl (by omega) (Nat.le_of_ble_eq_true rfl) (by show 0 + (nr + 1) ≤ 27; omega) dX6_hang_7 (fun ad1 H hX hw => ?_)
  refine W.widen (k := 1) (n := 16) (Nat.le_of_ble_eq_true rfl) (by show 0 + (nr + 1) ≤ 16; omega) ?_
  have hL1 : Lm (g.1.2 ++ [162]) ad1 nf ns nr [162] := hL.add hX (by decide) (by decide)
  have hl : lv_has ls 5 [(0, .ref (ad1 91)), (1, .int (nI i)), (2, .int (nI pd))] := by rw [hX.1 91 (by decide) (by decide)]; exact hl
  have m162 : 162 ∈ g.1.2 ++ [162] := List.mem_append_right _ (List.mem_singleton_self _)
  have hsl : ∀ j, j < 1000 → ∀ μ : Kp, sh g.2.1 ad1 162 (va_up μ 162 (rr j 0) 162) = .inl (g.2.1 5, nr + 1, Qr (fun i => if i < j then some (ad1 (104 + 2 * i)) else none)) := fun j hj μ => by rw [va_up_self]; exact sh162 hX.2 (by omega)
  have hset : ∀ j, j < 1000 → ∀ ad2 : Nat → Nat, ad2 1162 = nr + 1 → sh g.2.1 ad2 162 (rr (j + 1) 0) = .inl (g.2.1 5, nr + 1, Qr (va_up (fun i => if i < j then some (ad2 (104 + 2 * i)) else none) j (some (ad2 (104 + 2 * j))))) := fun j hj ad2 h => by
    rw [sh162 h (by omega)]
    exact congrArg (fun z => Sum.inl (g.2.1 5, nr + 1, Qr z)) (qr_next (f := fun i => ad2 (104 + 2 * i)))
  refine lv_astore_n (lv' := [(3, .ref (ad1 162)), (0, .ref (ad1 91)), (1, .int (nI i)), (2, .int (nI pd))]) hM.x hM.b dX6_hang_10 rfl hl (by decide) rfl (fun ls hl => ?_)
  refine lv_iconst (v := nI 0) hM.x hM.b dX6_hang_11 (by decide) ?_
  refine lv_istore (lv' := [(4, .int (nI 0)), (3, .ref (ad1 162)), (0, .ref (ad1 91)), (1, .int (nI i)), (2, .int (nI pd))]) hM.x hM.b dX6_hang_12 hl (by decide) rfl (fun ls hl => ?_)
  have loop : ∀ (n j : Nat), j + n = nr → ∀ (H : Heap) (locs : List Loc) (ls : Array Slot), lv_has ls 5 [(4, .int (nI j)), (3, .ref (ad1 162)), (0, .ref (ad1 91)), (1, .int (nI i)), (2, .int (nI pd))] → Wa (fr g s.heap.size) g.1.1 g.2.1 (g.1.2 ++ [162]) ad1 s (va_up κ 162 (rr j 0)) H locs → ∀ Q : State → Prop, (∀ (H : Heap) (locs : List Loc) (ls : Array Slot), lv_has ls 5 [(3, .ref (ad1 162)), (0, .ref (ad1 91)), (1, .int (nI i)), (2, .int (nI pd))] → Wa (fr g s.heap.size) g.1.1 g.2.1 (g.1.2 ++ [162]) ad1 s (va_up κ 162 (rr nr 0)) H locs → W p l e { frames := 2, cells := 3, slots := 27, locals := 40 } s m ([.ref (g.2.2 91), .int (nI i), .int (nI pd)] : List Value).toArray below meth c H locs 1 16 Q (F0 m 41 ls [])) → W p l e { frames := 2, cells := 3, slots := 27, locals := 40 } s m ([.ref (g.2.2 91), .int (nI i), .int (nI pd)] : List Value).toArray below meth c H locs 1 16 Q (F0 m 14 ls []) := by
    intro n
    induction n with
    | zero =>
      intro j hj H locs ls hl hw Q kk
      obtain rfl : j = nr := by omega
      refine lv_iload hM.x hM.b dX6_hang_14 (lv_at hl 0 rfl) ?_
      refine lv_aload_n hM.x hM.b dX6_hang_16 rfl (lv_at hl 2 rfl) ?_
      refine k_get6r 2 hM hw hL1.m91 (by decide) u_fl_X6_24 dX6_hang_17 ?_
      refine k_alenD (n := j) hM hw hL1.m94 5 (lsh94 hL1) rfl rfl dX6_hang_20 ?_
      refine lv_icmp_ge (tgt := 41) hM.x hM.b dX6_hang_21 (by decide) (fun _ => ?_) (fun cz => absurd (nI_le (by omega) (by omega)) cz)
      exact kk H locs ls (lv_sub hl [1, 2, 3, 4] rfl) hw
    | succ n ih =>
      intro j hj H locs ls hl hw Q kk
      have hjn : j < nr := by omega
      refine lv_iload hM.x hM.b dX6_hang_14 (lv_at hl 0 rfl) ?_
      refine lv_aload_n hM.x hM.b dX6_hang_16 rfl (lv_at hl 2 rfl) ?_
      refine k_get6r 2 hM hw hL1.m91 (by decide) u_fl_X6_24 dX6_hang_17 ?_
      refine k_alenD (n := nr) hM hw hL1.m94 5 (lsh94 hL1) rfl rfl dX6_hang_20 ?_
      refine lv_icmp_ge (tgt := 41) hM.x hM.b dX6_hang_21 (by decide) (fun cz => absurd cz (nI_ge (by omega) (by omega))) (fun _ => ?_)
      refine lv_aload_n hM.x hM.b dX6_hang_24 rfl (lv_at hl 1 rfl) ?_
      refine lv_iload hM.x hM.b dX6_hang_25 (lv_at hl 0 rfl) ?_
      refine lv_aload_n hM.x hM.b dX6_hang_27 rfl (lv_at hl 2 rfl) ?_
      refine k_get6r 2 hM hw hL1.m91 (by decide) u_fl_X6_24 dX6_hang_28 ?_
      refine lv_iload hM.x hM.b dX6_hang_31 (lv_at hl 0 rfl) ?_
      refine k_aldqN (i := j) (n := nr) (t := 5) (x := ad1 (104 + 2 * j)) hM hw hL1.m94 (lsh94 hL1) rfl hjn (by omega) (if_pos hjn) dX6_hang_33 ?_
      refine a_astQ (i := j) (n := nr + 1) (kv := 104 + 2 * j) hM hw m162 (hsl j (by omega) κ) (hL1.R hjn).1 (kdR j (by omega)).1 (by omega) (by omega) (hset j (by omega) ad1 hX.2) dX6_hang_34 (fun H locs hw => ?_)
      rw [va_up_up] at hw
      refine lv_iinc (v := nI (j + 1)) (lv' := [(4, .int (nI (j + 1))), (3, .ref (ad1 162)), (0, .ref (ad1 91)), (1, .int (nI i)), (2, .int (nI pd))]) hM.x hM.b dX6_hang_35 hl (k := 0) rfl (nI_up j) (by decide) rfl (fun ls hl => ?_)
      refine lv_goto (tgt := 14) hM.x hM.b dX6_hang_38 (by decide) ?_
      exact ih (j + 1) (by omega) H locs ls hl hw Q kk
  refine loop nr 0 (by omega) H _ ls hl hw _ (fun H locs ls hl hw => ?_)
  have nk : 104 + 2 * nr ∉ g.1.2 := hL.noN (by omega)
  have nk1 : 104 + 2 * nr + 1 ∉ g.1.2 := hL.noN (by omega)
  have inL1 : ∀ j, j ∈ g.1.2 ++ [162] → j ∈ g.1.2 ∨ j = 162 := fun j hj => (List.mem_append.mp hj).imp id (fun z => List.mem_singleton.mp z)
  have hdd : ∀ j ∈ g.1.2 ++ [162], ∀ x, dep ad1 j (va_up κ 162 (rr nr 0) j) x → x ≠ 104 + 2 * nr ∧ x ≠ 104 + 2 * nr + 1 := by
    intro j hj x hx
    rcases inL1 j hj with h | h
    · have hx2 : dep g.2.2 j (va_up κ 162 (rr nr 0) j) x := by
        unfold dep at hx ⊢
        rw [show ad1 (1000 + j) = g.2.2 (1000 + j) from hX.1 _ (by omega) (by have := h164 j h; have : j ≠ 162 := fun z => hn162 (z ▸ h); omega)] at hx
        exact hx
      exact ⟨(hL.depA (by omega) (by omega) nk h hx2).1, (hL.depA (by omega) (by omega) nk1 h hx2).1⟩
    · subst h
      rw [va_up_self] at hx
      unfold dep at hx
      rw [kd_162] at hx
      rcases hx with hx | ⟨i2, hi2, hx⟩
      · omega
      · rw [show rr nr 0 0 = nI nr from rfl, nI_clamp (by omega)] at hi2
        omega
  refine a_newR (104 + 2 * nr) hM hw (kdR nr hnr).1 (fun q => (inL1 _ q).elim nk (by omega)) (fun q => (inL1 _ q).elim nk1 (by omega)) (by omega) hdd hl.1 (Nat.le_of_ble_eq_true rfl) (Nat.le_of_ble_eq_true rfl) (Nat.le_of_ble_eq_true rfl) (Nat.le_of_ble_eq_true rfl) (Nat.le_of_ble_eq_true rfl) u_cl_X6_22 rfl dX6_hang_41 dX6_hang_44 dX6_hang_45 (fun ad2 H locs hA2 hw => ?_)
  have hk2 : ∀ x, x < 104 → ad2 x = ad1 x := fun x hx => hA2 x (by omega) (by omega)
  have hl : lv_has ls 5 [(3, .ref (ad2 162)), (0, .ref (ad2 91)), (1, .int (nI i)), (2, .int (nI pd))] := by rw [hA2 162 (by omega) (by omega), hA2 91 (by omega) (by omega)]; exact hl
  have len2 : ad2 1092 = nf ∧ ad2 1093 = ns ∧ ad2 1094 = nr ∧ ad2 1162 = nr + 1 := ⟨by rw [hA2 _ (by omega) (by omega)]; exact hL1.2.1.1, by rw [hA2 _ (by omega) (by omega)]; exact hL1.2.1.2.1, by rw [hA2 _ (by omega) (by omega)]; exact hL1.2.1.2.2, by rw [hA2 _ (by omega) (by omega)]; exact hX.2⟩
  have in2 : ∀ j, j ∈ g.1.2 → j ∈ g.1.2 ++ [162] ++ [104 + 2 * nr] ++ [104 + 2 * nr + 1] := fun j hj => List.mem_append_left _ (List.mem_append_left _ (List.mem_append_left _ hj))
  have mk2 : 104 + 2 * nr ∈ g.1.2 ++ [162] ++ [104 + 2 * nr] ++ [104 + 2 * nr + 1] := List.mem_append_left _ (List.mem_append_right _ (List.mem_singleton_self _))
  have mk3 : 104 + 2 * nr + 1 ∈ g.1.2 ++ [162] ++ [104 + 2 * nr] ++ [104 + 2 * nr + 1] := List.mem_append_right _ (List.mem_singleton_self _)
  have m162b : 162 ∈ g.1.2 ++ [162] ++ [104 + 2 * nr] ++ [104 + 2 * nr + 1] := List.mem_append_left _ (List.mem_append_left _ m162)
  have s94 : ∀ r, sh g.2.1 ad2 94 r = .inl (g.2.1 5, nr, Qr (fun i => if i < nr then some (ad2 (104 + 2 * i)) else none)) := fun r => by rw [sh18 kd_94, show ad2 (1000 + 94) = nr from len2.2.2.1]
  have s93 : ∀ r, sh g.2.1 ad2 93 r = .inl (g.2.1 1, ns, Qr (fun i => if i < ns then some (ad2 (98 + i)) else none)) := fun r => by rw [sh17 kd_93, show ad2 (1000 + 93) = ns from len2.2.1]
  have inv2 : ∀ j, j ∈ g.1.2 ++ [162] ++ [104 + 2 * nr] ++ [104 + 2 * nr + 1] → j ∈ g.1.2 ∨ j = 162 ∨ j = 104 + 2 * nr ∨ j = 104 + 2 * nr + 1 := fun j hj => by
    rcases List.mem_append.mp hj with h | h
    · rcases List.mem_append.mp h with h | h
      · rcases inL1 j h with h | h
        · exact Or.inl h
        · exact Or.inr (Or.inl h)
      · exact Or.inr (Or.inr (Or.inl (List.mem_singleton.mp h)))
    · exact Or.inr (Or.inr (Or.inr (List.mem_singleton.mp h)))
  generalize g.1.2 ++ [162] ++ [104 + 2 * nr] ++ [104 + 2 * nr + 1] = L2 at hw in2 mk2 mk3 m162b inv2
  have kdn := (kdR nr hnr).1
  have kds := kdS i (by omega)
  refine lv_astore (lv' := [(4, .ref (ad2 (104 + 2 * nr))), (3, .ref (ad2 162)), (0, .ref (ad2 91)), (1, .int (nI i)), (2, .int (nI pd))]) hM.x hM.b dX6_hang_48 hl (by decide) rfl (fun ls hl => ?_)
  refine lv_aload hM.x hM.b dX6_hang_50 (lv_at hl 0 rfl) ?_
  refine lv_iload_n hM.x hM.b dX6_hang_52 rfl (lv_at hl 4 rfl) ?_
  refine k_put5 0 hM hw kdn mk2 (by decide) u_fl_X6_29 dX6_hang_53 (fun H locs hw => ?_)
  refine lv_aload hM.x hM.b dX6_hang_56 (lv_at hl 0 rfl) ?_
  refine lv_iload_n hM.x hM.b dX6_hang_58 rfl (lv_at hl 3 rfl) ?_
  refine k_put5 1 hM hw kdn mk2 (by decide) u_fl_X6_32 dX6_hang_59 (fun H locs hw => ?_)
  refine lv_aload hM.x hM.b dX6_hang_62 (lv_at hl 0 rfl) ?_
  refine lv_iconst (v := 3) hM.x hM.b dX6_hang_64 (by decide) ?_
  refine lv_iload_n hM.x hM.b dX6_hang_65 rfl (lv_at hl 4 rfl) ?_
  refine lv_imul hM.x hM.b dX6_hang_66 ?_
  refine k_put5 3 hM hw kdn mk2 (by decide) u_fl_X6_35 dX6_hang_67 (fun H locs hw => ?_)
  obtain ⟨κ4, e4⟩ : ∃ κ4, up2 (up2 (up2 (va_up (va_up (va_up κ 162 (rr nr 0)) (104 + 2 * nr) (fun _ => 0)) (104 + 2 * nr + 1) (fun _ => 0)) (104 + 2 * nr) 0 (nI pd)) (104 + 2 * nr) 1 (nI i)) (104 + 2 * nr) 3 (3 * nI pd) = κ4 := ⟨_, rfl⟩
  rw [e4] at hw
  have q162 : κ4 162 = rr nr 0 := by rw [← e4, up2_row (by omega), up2_row (by omega), up2_row (by omega), va_up_ne _ _ (by omega), va_up_ne _ _ (by omega), va_up_self]
  have qo : ∀ q, q ≠ 162 → q ≠ 104 + 2 * nr → q ≠ 104 + 2 * nr + 1 → κ4 q = κ q := fun q h1 h2 h3 => by rw [← e4, up2_row h2, up2_row h2, up2_row h2, va_up_ne _ _ h3, va_up_ne _ _ h2, va_up_ne _ _ h1]
  have qb : κ4 (104 + 2 * nr + 1) = fun _ => 0 := by rw [← e4, up2_row (by omega), up2_row (by omega), up2_row (by omega), va_up_self]
  have qn0 : κ4 (104 + 2 * nr) 0 = nI pd := by rw [← e4, up2_ne _ _ (by omega), up2_ne _ _ (by omega), up2_self]
  have qn1 : κ4 (104 + 2 * nr) 1 = nI i := by rw [← e4, up2_ne _ _ (by omega), up2_self]
  have qn3 : κ4 (104 + 2 * nr) 3 = 3 * nI pd := by rw [← e4, up2_self]
  have qn2 : ∀ y, y = 2 ∨ y = 4 → κ4 (104 + 2 * nr) y = 0 := fun y hy => by rw [← e4, up2_ne _ _ (by omega), up2_ne _ _ (by omega), up2_ne _ _ (by omega), va_up_ne _ _ (by omega), va_up_self]
  refine lv_aload_n hM.x hM.b dX6_hang_70 rfl (lv_at hl 1 rfl) ?_
  refine lv_aload_n hM.x hM.b dX6_hang_71 rfl (lv_at hl 2 rfl) ?_
  refine k_get6r 2 hM hw (in2 _ hL.m91) (by decide) u_fl_X6_24 dX6_hang_72 ?_
  refine k_alenD (n := nr) hM hw (in2 _ hL.m94) 5 (s94 _) rfl rfl dX6_hang_75 ?_
  refine lv_aload hM.x hM.b dX6_hang_76 (lv_at hl 0 rfl) ?_
  refine a_astQ (i := nr) (n := nr + 1) (kv := 104 + 2 * nr) (f := fun i => if i < nr then some (ad2 (104 + 2 * i)) else none) hM hw m162b (by rw [q162]; exact sh162 len2.2.2.2 (by omega)) mk2 kdn (by omega) (by omega) (hset nr (by omega) ad2 len2.2.2.2) dX6_hang_78 (fun H locs hw => ?_)
  refine lv_aload_n hM.x hM.b dX6_hang_79 rfl (lv_at hl 2 rfl) ?_
  refine k_get6r 1 hM hw (in2 _ hL.m91) (by decide) u_fl_X6_19 dX6_hang_80 ?_
  refine lv_iload_n hM.x hM.b dX6_hang_83 rfl (lv_at hl 3 rfl) ?_
  refine k_aldaN (i := i) (n := ns) (t := 1) (x := ad2 (98 + i)) hM hw (in2 _ hL.m93) (s93 _) rfl hi (by omega) (if_pos hi) dX6_hang_84 ?_
  refine lv_iconst (v := nI 3) hM.x hM.b dX6_hang_85 (by decide) ?_
  refine lv_aload_n hM.x hM.b dX6_hang_86 rfl (lv_at hl 2 rfl) ?_
  refine k_get6r 2 hM hw (in2 _ hL.m91) (by decide) u_fl_X6_24 dX6_hang_87 ?_
  refine k_alenD (n := nr) hM hw (in2 _ hL.m94) 5 (s94 _) rfl rfl dX6_hang_90 ?_
  refine k_iastN (i := 3) (n := 6) hM hw (in2 _ (hL.S hi)) (fun r => sh20 kds) (by decide) (by decide) dX6_hang_91 (fun H locs hw => ?_)
  refine lv_aload_n hM.x hM.b dX6_hang_92 rfl (lv_at hl 2 rfl) ?_
  refine k_get6r 1 hM hw (in2 _ hL.m91) (by decide) u_fl_X6_19 dX6_hang_93 ?_
  refine lv_iload_n hM.x hM.b dX6_hang_96 rfl (lv_at hl 3 rfl) ?_
  refine k_aldaN (i := i) (n := ns) (t := 1) (x := ad2 (98 + i)) hM hw (in2 _ hL.m93) (s93 _) rfl hi (by omega) (if_pos hi) dX6_hang_97 ?_
  refine lv_iconst (v := nI 4) hM.x hM.b dX6_hang_98 (by decide) ?_
  refine lv_iconst (v := 0) hM.x hM.b dX6_hang_99 (by decide) ?_
  refine k_iastN (i := 4) (n := 6) hM hw (in2 _ (hL.S hi)) (fun r => sh20 kds) (by decide) (by decide) dX6_hang_100 (fun H locs hw => ?_)
  obtain ⟨κ5, e5⟩ : ∃ κ5, up2 (up2 (va_up κ4 162 (rr (nr + 1) 0)) (98 + i) 3 (nI nr)) (98 + i) 4 0 = κ5 := ⟨_, rfl⟩
  rw [e5] at hw
  have k162 : κ5 162 = rr (nr + 1) 0 := by rw [← e5, up2_row (by omega), up2_row (by omega), va_up_self]
  have ko : ∀ q, q ≠ 98 + i → q ≠ 162 → κ5 q = κ4 q := fun q h1 h2 => by rw [← e5, up2_row h1, up2_row h1, va_up_ne _ _ h2]
  have kf : ∀ y, y ≠ 3 → y ≠ 4 → κ5 (98 + i) y = κ4 (98 + i) y := fun y h1 h2 => by rw [← e5, up2_ne _ _ (by omega), up2_ne _ _ (by omega), va_up_ne _ _ (by omega)]
  have k3 : κ5 (98 + i) 3 = nI nr := by rw [← e5, up2_ne _ _ (by omega), up2_self]
  have k4 : κ5 (98 + i) 4 = 0 := by rw [← e5, up2_self]
  refine lv_aload_n hM.x hM.b dX6_hang_101 rfl (lv_at hl 2 rfl) ?_
  refine lv_aload_n hM.x hM.b dX6_hang_102 rfl (lv_at hl 1 rfl) ?_
  have hLt : ∀ k ∈ L2, k ≠ 162 → k < 136 := fun k hk hk2 => by
    rcases inv2 k hk with h | h | h | h
    · rcases (hL.1 k).mp h with z | z | z | z | z
      · omega
      · omega
      · omega
      · omega
      · cases z
    · exact absurd h hk2
    · omega
    · omega
  refine k_relab 94 162 (nr + 1) hM hw (in2 _ hL.m91) ⟨by omega, by omega, by omega⟩ ⟨by decide, by decide⟩ m162b (by decide) hLt ?_ u_fl_X6_24 dX6_hang_103 (fun H locs hw => ?_)
  · rw [k162, sh162 len2.2.2.2 (by omega), sh18 kd_94, show lab ad2 94 162 (nr + 1) (1000 + 94) = nr + 1 from lab_len]
    exact congrArg (fun z => Sum.inl (g.2.1 5, nr + 1, Qr z)) (qr_congr (fun i2 hi2 => lab_ne (by omega) (by omega)))
  have a94 : lab ad2 94 162 (nr + 1) 94 = ad2 162 := lab_at (by decide)
  have hl : lv_has ls 5 [(4, .ref (ad2 (104 + 2 * nr))), (3, .ref (lab ad2 94 162 (nr + 1) 94)), (0, .ref (ad2 91)), (1, .int (nI i)), (2, .int (nI pd))] := by rw [a94]; exact hl
  have hL3 : Lm (L2.filter (fun x => x != 162)) (lab ad2 94 162 (nr + 1)) nf ns (nr + 1) [] := by
    refine ⟨fun k => ?_, ⟨by rw [lab_ne (by decide) (by decide)]; exact len2.1, by rw [lab_ne (by decide) (by decide)]; exact len2.2.1, lab_len⟩, ⟨hb.1, hb.2.1, by omega⟩, fun k hk => by cases hk⟩
    rw [List.mem_filter]
    constructor
    · rintro ⟨h1, h2⟩
      have h2 : k ≠ 162 := by simpa using h2
      rcases inv2 k h1 with h | h | h | h
      · rcases (hL.1 k).mp h with z | z | z | z | z
        · exact Or.inl z
        · exact Or.inr (Or.inl z)
        · exact Or.inr (Or.inr (Or.inl z))
        · exact Or.inr (Or.inr (Or.inr (Or.inl (by omega))))
        · cases z
      · exact absurd h h2
      · exact Or.inr (Or.inr (Or.inr (Or.inl (by omega))))
      · exact Or.inr (Or.inr (Or.inr (Or.inl (by omega))))
    · intro h
      have h162 : k ≠ 162 := by
        rcases h with z | z | z | z | z
        · omega
        · omega
        · omega
        · omega
        · cases z
      refine ⟨?_, by simpa using h162⟩
      rcases h with z | z | z | z | z
      · exact in2 k ((hL.1 k).mpr (Or.inl z))
      · exact in2 k ((hL.1 k).mpr (Or.inr (Or.inl z)))
      · exact in2 k ((hL.1 k).mpr (Or.inr (Or.inr (Or.inl z))))
      · by_cases q : k < 104 + 2 * nr
        · exact in2 k ((hL.1 k).mpr (Or.inr (Or.inr (Or.inr (Or.inl ⟨z.1, q⟩)))))
        · have : k = 104 + 2 * nr ∨ k = 104 + 2 * nr + 1 := by omega
          rcases this with rfl | rfl
          · exact mk2
          · exact mk3
      · cases z
  refine lv_aload_n hM.x hM.b dX6_hang_106 rfl (lv_at hl 1 rfl) ?_
  refine k_alenD (n := nr + 1) hM hw hL3.m94 5 (lsh94 hL3) rfl rfl dX6_hang_107 ?_
  refine lv_iconst (v := 1) hM.x hM.b dX6_hang_108 (by decide) ?_
  refine lv_isub hM.x hM.b dX6_hang_109 ?_
  rw [nI_back]
  refine a_iret (u := ((L2.filter (fun x => x != 162), lab ad2 94 162 (nr + 1)), κ5)) hM hr hw.2.1 (Nat.le_of_ble_eq_true rfl) (Nat.le_of_ble_eq_true rfl) ⟨rfl, hL3, fun k hk => ?_, ?_⟩ (fun t ht => ⟨by rw [ht]; exact hw.1, hw.2.2.1⟩) dX6_hang_110
  · show lab ad2 94 162 (nr + 1) k = _
    rw [lab_ne (by omega) (by omega), hk2 k (by omega), hX.1 k (by omega) (by omega)]
  · refine ⟨fun q h1 h2 h3 h4 => ?_, fun y h1 h2 => ?_, k3, k4, ?_, ?_, ?_, ?_, ?_, fun w hw => ?_⟩
    · show κ5 q = κ q
      rw [ko q h2 (by omega), qo q (by omega) h3 (by omega)]
    · show κ5 (98 + i) y = _
      rw [kf y h1 h2, qo _ (by omega) (by omega) (by omega)]
    · show κ5 (104 + 2 * nr) 0 = _
      rw [ko _ (by omega) (by omega)]; exact qn0
    · show κ5 (104 + 2 * nr) 1 = _
      rw [ko _ (by omega) (by omega)]; exact qn1
    · show κ5 (104 + 2 * nr) 2 = _
      rw [ko _ (by omega) (by omega)]; exact qn2 2 (Or.inl rfl)
    · show κ5 (104 + 2 * nr) 3 = _
      rw [ko _ (by omega) (by omega)]; exact qn3
    · show κ5 (104 + 2 * nr) 4 = _
      rw [ko _ (by omega) (by omega)]; exact qn2 4 (Or.inr rfl)
    · show κ5 (105 + 2 * nr) w = 0
      rw [ko _ (by omega) (by omega), show 105 + 2 * nr = 104 + 2 * nr + 1 by omega, qb]
