theorem kd_160 : kd 160 = 23 := by decide
theorem kd_161 : kd 161 = 23 := by decide
theorem sh160 {c : Nat → ClassId} {ad : Nat → Nat} {r : Nat → Int32} {n : Nat} (h : ad 1160 = n) : sh c ad 160 r = .inl (c 0, n, .inl r) := by
  rw [sh23 kd_160, show ad (1000 + 160) = n from h]
theorem sh161 {c : Nat → ClassId} {ad : Nat → Nat} {r : Nat → Int32} {n : Nat} (h : ad 1161 = n) : sh c ad 161 r = .inl (c 0, n, .inl r) := by
  rw [sh23 kd_161, show ad (1000 + 161) = n from h]
theorem rem4_in {x : Int32} (h : vp_in x 4) : vp_in ((x + 1) - (x + 1) / 4 * 4) 4 := by
  obtain ⟨n, hn, rfl⟩ := vp_in_of h (by decide)
  have h1 : ∀ n : Nat, n < 4 → (nI n + 1) - (nI n + 1) / 4 * 4 = nI ((n + 1) % 4) := by decide
  rw [h1 n hn]
  exact vp_in_nI (Nat.mod_lt _ (by decide)) (by decide)
theorem tan_at {κ : Kp} {k q f : Nat} {a b : Int32} (h : ¬ q = k + 1) : f_X5_tan κ k a b q f = κ q f := by
  unfold f_X5_tan
  split
  · exact up2_ne _ _ (Or.inl h)
  · exact up2_ne _ _ (Or.inl h)
theorem gets_at {κ : Kp} {k q f : Nat} {a : Int32} (h : ¬ q = k + 1) (h2 : q = k → f ≠ 4 ∧ f ≠ 5) : f_X5_gets κ k a q f = κ q f := by
  have h4 : q ≠ k ∨ f ≠ 4 := by by_cases e : q = k; exact Or.inr (h2 e).1; exact Or.inl e
  have h5 : q ≠ k ∨ f ≠ 5 := by by_cases e : q = k; exact Or.inr (h2 e).2; exact Or.inl e
  have key : ∀ (c : Prop) [Decidable c] (x y : Kp), x q f = κ q f → y q f = κ q f → (if c then x else y) q f = κ q f := by
    intro c _ x y h1 h2
    by_cases hc : c
    · rw [if_pos hc]; exact h1
    · rw [if_neg hc]; exact h2
  unfold f_X5_gets
  dsimp only
  repeat' (with_reducible refine key _ _ _ ?_ ?_)
  all_goals simp only [tan_at h, up2_ne _ _ h4, up2_ne _ _ h5]
theorem SI_gets {nf ns nr : Nat} {κ : Kp} {j : Nat} {a : Int32} (h : SI nf ns nr κ) (hns : ns ≤ 6) (hnr : nr ≤ 16) : SI nf ns nr (f_X5_gets κ (104 + 2 * j) a) :=
  h.of (fun i hi => ⟨gets_at (by omega) (by omega), gets_at (by omega) (by omega), gets_at (by omega) (by omega)⟩) (fun i hi => ⟨gets_at (by omega) (by omega), gets_at (by omega) (by omega)⟩)
theorem q_X6_glow : hdV yX6_glow RX6 1 := ⟨rfl, by decide +kernel, by decide +kernel, by decide +kernel⟩
def f_X6_glow (κ : Kp) (a : Int32) : Int32 := ((κ (95 + (κ (98 + (a).toNatClampNeg) (0)).toNatClampNeg) (1)) / (κ (98 + (a).toNatClampNeg) (1)))
set_option maxRecDepth 100000 in
set_option maxHeartbeats 4000000 in
theorem m_X6_glow (l : Launch) (g : Gt) (κ : Kp) (sz : Nat) (a : Int32) {nf ns nr : Nat} {T : List Nat} (hL : Lm g.1.2 g.2.2 nf ns nr T) (hS : SI nf ns nr κ) (ha : vp_in a ns) (hb : nf ≤ 3 ∧ ns ≤ 6 ∧ nr ≤ 16) : Met l yX6_glow (.code yX6_glow cX6_glow 2 (some .int) :: uW) { frames := 0, cells := 0, slots := 0, locals := 0 } (PRE g κ sz [.ref (g.2.2 (91)), .int (a)]) (va_Qi (fun r κ' => r = f_X6_glow κ a ∧ κ' = κ) (Wp g) (fr g sz)) 0 0 (fr g sz) := by
  refine k_enter (by decide +kernel) (Nat.le_of_ble_eq_true rfl) ?_
  intro p e s m below meth c ls hM hr hl hw hsz
  subst hsz
  have hl : lv_has ls 2 [(0, .ref (g.2.2 (91))), (1, .int (a))] := hl
  obtain ⟨hnf, hns, hnr⟩ := hb
  have hF := f_X6_glow.eq_1 κ a
  refine lv_aload_n hM.x hM.b dX6_glow_0 rfl (lv_at hl 0 rfl) ?_
  refine k_get6r 0 hM hw hL.m91 (by decide) u_fl_X6_15 dX6_glow_1 ?_
  refine lv_aload_n hM.x hM.b dX6_glow_4 rfl (lv_at hl 0 rfl) ?_
  refine k_get6r 1 hM hw hL.m91 (by decide) u_fl_X6_19 dX6_glow_5 ?_
  refine lv_iload_n hM.x hM.b dX6_glow_8 rfl (lv_at hl 1 rfl) ?_
  refine k_alda (n := ns) (t := 1) (x := g.2.2 (98 + (a).toNatClampNeg)) hM hw (hL.m93) (lsh93 hL) rfl ha (if_pos (vpi_lt ha)) dX6_glow_9 ?_
  refine lv_iconst (v := 0) hM.x hM.b dX6_glow_10 (by decide) ?_
  refine k_ialdN (i := 0) (n := 6) hM hw (hL.S (vpi_lt ha)) (sh20 (kdS _ (hL.s6 (vpi_lt ha)))) (by decide) (by decide) dX6_glow_11 ?_
  refine k_alda (n := nf) (t := 1) (x := g.2.2 (95 + (κ (98 + (a).toNatClampNeg) (0)).toNatClampNeg)) hM hw (hL.m92) (lsh92 hL) rfl ((hS).1 ((a).toNatClampNeg) (vpi_lt ha)).1 (if_pos (vpi_lt ((hS).1 ((a).toNatClampNeg) (vpi_lt ha)).1)) dX6_glow_12 ?_
  refine lv_iconst (v := 1) hM.x hM.b dX6_glow_13 (by decide) ?_
  refine k_ialdN (i := 1) (n := 2) hM hw (hL.F (vpi_lt ((hS).1 ((a).toNatClampNeg) (vpi_lt ha)).1)) (sh19 (kdF _ (hL.f3 (vpi_lt ((hS).1 ((a).toNatClampNeg) (vpi_lt ha)).1)))) (by decide) (by decide) dX6_glow_14 ?_
  refine lv_aload_n hM.x hM.b dX6_glow_15 rfl (lv_at hl 0 rfl) ?_
  refine k_get6r 1 hM hw hL.m91 (by decide) u_fl_X6_19 dX6_glow_16 ?_
  refine lv_iload_n hM.x hM.b dX6_glow_19 rfl (lv_at hl 1 rfl) ?_
  refine k_alda (n := ns) (t := 1) (x := g.2.2 (98 + (a).toNatClampNeg)) hM hw (hL.m93) (lsh93 hL) rfl ha (if_pos (vpi_lt ha)) dX6_glow_20 ?_
  refine lv_iconst (v := 1) hM.x hM.b dX6_glow_21 (by decide) ?_
  refine k_ialdN (i := 1) (n := 6) hM hw (hL.S (vpi_lt ha)) (sh20 (kdS _ (hL.s6 (vpi_lt ha)))) (by decide) (by decide) dX6_glow_22 ?_
  refine lv_idiv hM.x hM.b dX6_glow_23 ((hS).1 ((a).toNatClampNeg) (vpi_lt ha)).2.1 ?_
  exact k_iret hM hr hw (Nat.le_of_ble_eq_true rfl) (Nat.le_of_ble_eq_true rfl) ⟨hF.symm, rfl⟩ dX6_glow_24
def lp_X6_pass_10  : Nat → Nat → Kp → Kp
  | 0, j, κ => κ
  | n + 1, j, κ => (fun κ1 : Kp => lp_X6_pass_10  n (j + 1) κ1) (up2 κ (160) (j) (f_X6_glow κ (nI (j))))
set_option maxRecDepth 100000 in
set_option maxHeartbeats 4000000 in
theorem ml_X6_pass_10 {p : Program} {e : Env} {s : State} {m : MethodId} {below : List Frame} {meth : Method} {c : Code} {Q : State → Prop} {A : Nat → Prop} {D : va_G} {cA : Nat → ClassId} {L : List Nat} {ad : Nat → Nat} {nf ns nr : Nat} {T : List Nat} {args : Array Value} (l : Launch)  (hnf : nf ≤ 3) (hns : ns ≤ 6) (hnr : nr ≤ 16) (hL : Lm L ad nf ns nr T) (h160 : 160 ∈ L ∧ ad 1160 = ns) (hM : Ma A D cA p s m args meth c cX6_pass 9 yX6_pass.cls) : ∀ (n j : Nat), j + n = ns → ∀ (κ : Kp), SI nf ns nr κ → ∀ (H : Heap) (locs : List Loc) (ls : Array Slot), lv_has ls 9 [(2, .int (nI (j))), (1, .ref (ad (160))), (0, .ref (ad (91)))] → Wa A D cA L ad s κ H locs → (∀ (κz : Kp) (H : Heap) (locs : List Loc) (ls : Array Slot), lp_X6_pass_10  n j κ = κz → lv_has ls 9 [(1, .ref (ad (160))), (0, .ref (ad (91)))] → SI nf ns nr κz → Wa A D cA L ad s κz H locs → W p l e { frames := 2, cells := 2, slots := 9, locals := 60 } s m args below meth c H locs 1 6 Q (F0 m 33 ls [])) → W p l e { frames := 2, cells := 2, slots := 9, locals := 60 } s m args below meth c H locs 1 6 Q (F0 m 10 ls []) := by
  intro n
  induction n with
  | zero =>
    intro j hj κ hinv H locs ls hl hw hx33
    have hF := Eq.refl (lp_X6_pass_10  0 j κ)
    conv at hF => rhs; rw [lp_X6_pass_10]
    refine lv_iload_n hM.x hM.b dX6_pass_10 rfl (lv_at hl 0 rfl) ?_
    refine lv_aload_n hM.x hM.b dX6_pass_11 rfl (lv_at hl 2 rfl) ?_
    refine k_get6r 1 hM hw hL.m91 (by decide) u_fl_X6_19 dX6_pass_12 ?_
    refine k_alenD (n := ns) hM hw (hL.m93) 1 (lsh93 hL) rfl rfl dX6_pass_15 ?_
    refine lv_icmp_ge (tgt := 33) hM.x hM.b dX6_pass_16 (by decide) (fun _ => ?_) (fun cz => absurd (nI_le (by omega) (by omega) : nI (ns) ≤ nI (j)) cz)
    exact hx33 κ H locs ls hF (lv_sub hl [1, 2] rfl) (hinv) hw
  | succ n ih =>
    intro j hj κ hinv H locs ls hl hw hx33
    have hF := Eq.refl (lp_X6_pass_10  (n + 1) j κ)
    conv at hF => rhs; rw [lp_X6_pass_10]
    refine lv_iload_n hM.x hM.b dX6_pass_10 rfl (lv_at hl 0 rfl) ?_
    refine lv_aload_n hM.x hM.b dX6_pass_11 rfl (lv_at hl 2 rfl) ?_
    refine k_get6r 1 hM hw hL.m91 (by decide) u_fl_X6_19 dX6_pass_12 ?_
    refine k_alenD (n := ns) hM hw (hL.m93) 1 (lsh93 hL) rfl rfl dX6_pass_15 ?_
    refine lv_icmp_ge (tgt := 33) hM.x hM.b dX6_pass_16 (by decide) (fun cz => absurd cz (nI_ge (by omega) (by omega) : ¬ nI (ns) ≤ nI (j))) (fun _ => ?_)
    refine lv_aload_n hM.x hM.b dX6_pass_19 rfl (lv_at hl 1 rfl) ?_
    refine lv_iload_n hM.x hM.b dX6_pass_20 rfl (lv_at hl 0 rfl) ?_
    refine lv_aload_n hM.x hM.b dX6_pass_21 rfl (lv_at hl 2 rfl) ?_
    refine lv_iload_n hM.x hM.b dX6_pass_22 rfl (lv_at hl 0 rfl) ?_
    refine k_cip hw (k_runV [.int (nI (j))] [.int (nI (j)), .ref (ad (160))] hM hw (m_X6_glow l ((D, L), cA, ad) κ _ (nI (j)) hL hinv (vp_in_nI (n := j) (N := ns) (by omega) (by omega)) ⟨by omega, by omega, by omega⟩) hL.m91 (sh15 kd_91) rfl (k_gV u_ml_X6_50 u_im_X6_glow u_se_X6_glow u_ini_X6 u_co_X6_glow) (q_X6_glow) rfl rfl rfl ⟨Nat.le_of_ble_eq_true rfl, Nat.le_of_ble_eq_true rfl⟩ hl.1 rfl (Nat.le_of_ble_eq_true rfl) dX6_pass_23 ⟨Nat.le_of_ble_eq_true rfl, Nat.le_of_ble_eq_true rfl⟩) (fun H locs hw => ?_)
    refine k_iastN (i := j) (n := ns) hM hw h160.1 (fun r => sh160 h160.2) (by omega) (by omega) dX6_pass_26 (fun H locs hw => ?_)
    obtain ⟨κ1, eκ1⟩ : ∃ z : Kp, up2 κ (160) (j) (f_X6_glow κ (nI (j))) = z := ⟨_, rfl⟩
    rw [eκ1] at hw
    rw [eκ1] at hF
    try dsimp only at hF
    have hSκ1 : SI nf ns nr κ1 := by rw [← eκ1]; exact (SI.up hinv (by omega) (by omega) (by omega))
    refine lv_iinc (v := nI (j + 1)) (lv' := [(2, .int (nI (j + 1))), (1, .ref (ad (160))), (0, .ref (ad (91)))]) hM.x hM.b dX6_pass_27 hl (k := 0) rfl (nI_1 (j)) (by decide) rfl (fun ls hl => ?_)
    refine lv_goto (tgt := 10) hM.x hM.b dX6_pass_30 (by decide) ?_
    exact ih (j + 1) (by omega) κ1 (hSκ1) H locs ls (lv_sub hl [0, 1, 2] rfl) hw (fun κz H locs ls he hl hiz hw => hx33 κz H locs ls (hF.trans he) hl hiz hw)
def lp_X6_pass_44  : Nat → Nat → Kp → Kp
  | 0, j, κ => κ
  | n + 1, j, κ => if (κ (104 + 2 * (j)) 1) < 0 then (lp_X6_pass_44  n (j + 1) κ) else ((fun κ1 : Kp => lp_X6_pass_44  n (j + 1) κ1) (f_X5_gets κ (104 + 2 * (j)) (κ (160) (κ (104 + 2 * (j)) 1).toNatClampNeg)))
set_option maxRecDepth 100000 in
set_option maxHeartbeats 4000000 in
theorem ml_X6_pass_44 {p : Program} {e : Env} {s : State} {m : MethodId} {below : List Frame} {meth : Method} {c : Code} {Q : State → Prop} {A : Nat → Prop} {D : va_G} {cA : Nat → ClassId} {L : List Nat} {ad : Nat → Nat} {nf ns nr : Nat} {T : List Nat} {args : Array Value} (l : Launch)  (hnf : nf ≤ 3) (hns : ns ≤ 6) (hnr : nr ≤ 16) (hL : Lm L ad nf ns nr T) (h160 : 160 ∈ L ∧ ad 1160 = ns) (hM : Ma A D cA p s m args meth c cX6_pass 9 yX6_pass.cls) : ∀ (n j : Nat), j + n = nr → ∀ (κ : Kp), SI nf ns nr κ → ∀ (H : Heap) (locs : List Loc) (ls : Array Slot), lv_has ls 9 [(4, .int (nI (j))), (3, .int (nI (nr))), (2, .ref (ad (94))), (1, .ref (ad (160))), (0, .ref (ad (91)))] → Wa A D cA L ad s κ H locs → (∀ (κz : Kp) (H : Heap) (locs : List Loc) (ls : Array Slot), lp_X6_pass_44  n j κ = κz → lv_has ls 9 [(0, .ref (ad (91)))] → SI nf ns nr κz → Wa A D cA L ad s κz H locs → W p l e { frames := 2, cells := 2, slots := 9, locals := 60 } s m args below meth c H locs 1 6 Q (F0 m 82 ls [])) → W p l e { frames := 2, cells := 2, slots := 9, locals := 60 } s m args below meth c H locs 1 6 Q (F0 m 44 ls []) := by
  intro n
  induction n with
  | zero =>
    intro j hj κ hinv H locs ls hl hw hx82
    have hF := Eq.refl (lp_X6_pass_44  0 j κ)
    conv at hF => rhs; rw [lp_X6_pass_44]
    refine lv_iload hM.x hM.b dX6_pass_44 (lv_at hl 0 rfl) ?_
    refine lv_iload_n hM.x hM.b dX6_pass_46 rfl (lv_at hl 1 rfl) ?_
    refine lv_icmp_ge (tgt := 82) hM.x hM.b dX6_pass_47 (by decide) (fun _ => ?_) (fun cz => absurd (nI_le (by omega) (by omega) : nI (nr) ≤ nI (j)) cz)
    exact hx82 κ H locs ls hF (lv_sub hl [4] rfl) (hinv) hw
  | succ n ih =>
    intro j hj κ hinv H locs ls hl hw hx82
    have hF := Eq.refl (lp_X6_pass_44  (n + 1) j κ)
    conv at hF => rhs; rw [lp_X6_pass_44]
    refine lv_iload hM.x hM.b dX6_pass_44 (lv_at hl 0 rfl) ?_
    refine lv_iload_n hM.x hM.b dX6_pass_46 rfl (lv_at hl 1 rfl) ?_
    refine lv_icmp_ge (tgt := 82) hM.x hM.b dX6_pass_47 (by decide) (fun cz => absurd cz (nI_ge (by omega) (by omega) : ¬ nI (nr) ≤ nI (j))) (fun _ => ?_)
    refine lv_aload_n hM.x hM.b dX6_pass_50 rfl (lv_at hl 2 rfl) ?_
    refine lv_iload hM.x hM.b dX6_pass_51 (lv_at hl 0 rfl) ?_
    refine k_aldqN (i := j) (n := nr) (t := 5) (x := ad (104 + 2 * (j))) hM hw (hL.m94) (lsh94 hL) rfl (by omega) (by omega) (if_pos (by omega)) dX6_pass_53 ?_
    refine lv_astore (lv' := [(5, .ref (ad (104 + 2 * (j)))), (4, .int (nI (j))), (3, .int (nI (nr))), (2, .ref (ad (94))), (1, .ref (ad (160))), (0, .ref (ad (91)))]) hM.x hM.b dX6_pass_54 hl (by decide) rfl (fun ls hl => ?_)
    refine lv_aload hM.x hM.b dX6_pass_56 (lv_at hl 0 rfl) ?_
    refine k_get5 1 hM hw (kdR _ (hL.r16 (by omega))).1 (hL.R (by omega)).1 (by decide) u_fl_X6_32 dX6_pass_58 ?_
    refine lv_if_lt (tgt := 76) hM.x hM.b dX6_pass_61 (by decide) (fun c1 => ?_) (fun c1 => ?_)
    · rw [if_pos c1] at hF
      refine lv_iinc (v := nI (j + 1)) (lv' := [(4, .int (nI (j + 1))), (5, .ref (ad (104 + 2 * (j)))), (3, .int (nI (nr))), (2, .ref (ad (94))), (1, .ref (ad (160))), (0, .ref (ad (91)))]) hM.x hM.b dX6_pass_76 hl (k := 1) rfl (nI_1 (j)) (by decide) rfl (fun ls hl => ?_)
      refine lv_goto (tgt := 44) hM.x hM.b dX6_pass_79 (by decide) ?_
      exact ih (j + 1) (by omega) κ (hinv) H locs ls (lv_sub hl [0, 2, 3, 4, 5] rfl) hw (fun κz H locs ls he hl hiz hw => hx82 κz H locs ls (hF.trans he) hl hiz hw)
    · rw [if_neg c1] at hF
      refine lv_aload hM.x hM.b dX6_pass_64 (lv_at hl 0 rfl) ?_
      refine lv_aload_n hM.x hM.b dX6_pass_66 rfl (lv_at hl 4 rfl) ?_
      refine lv_aload hM.x hM.b dX6_pass_67 (lv_at hl 0 rfl) ?_
      refine k_get5 1 hM hw (kdR _ (hL.r16 (by omega))).1 (hL.R (by omega)).1 (by decide) u_fl_X6_32 dX6_pass_69 ?_
      refine k_iald (n := ns) hM hw h160.1 (sh160 h160.2) (((hinv).2 (j) (by omega)).1 c1) dX6_pass_72 ?_
      refine k_cvp hw (k_runV [.int (κ (160) (κ (104 + 2 * (j)) 1).toNatClampNeg)] [] hM hw (m_X5_gets l ((D, L), cA, ad) κ _ (104 + 2 * (j)) (κ (160) (κ (104 + 2 * (j)) 1).toNatClampNeg) ((kdR _ (hL.r16 (by omega))).1) (hL.R (by omega)) ((hinv).2 (j) (by omega)).2) (hL.R (by omega)).1 (sh21 (kdR _ (hL.r16 (by omega))).1) rfl (k_gV u_ml_X6_54 u_im_X5_gets u_se_X5_gets u_ini_X5 u_co_X5_gets) (q_X5_gets) rfl rfl rfl ⟨Nat.le_of_ble_eq_true rfl, Nat.le_of_ble_eq_true rfl⟩ hl.1 rfl (Nat.le_of_ble_eq_true rfl) dX6_pass_73 ⟨Nat.le_of_ble_eq_true rfl, Nat.le_of_ble_eq_true rfl⟩) (fun κ1 H locs eκ1 hw => ?_)
      rw [eκ1] at hF
      try dsimp only at hF
      have hSκ1 : SI nf ns nr κ1 := by rw [← eκ1]; exact (SI_gets hinv (by omega) (by omega))
      refine lv_iinc (v := nI (j + 1)) (lv' := [(4, .int (nI (j + 1))), (5, .ref (ad (104 + 2 * (j)))), (3, .int (nI (nr))), (2, .ref (ad (94))), (1, .ref (ad (160))), (0, .ref (ad (91)))]) hM.x hM.b dX6_pass_76 hl (k := 1) rfl (nI_1 (j)) (by decide) rfl (fun ls hl => ?_)
      refine lv_goto (tgt := 44) hM.x hM.b dX6_pass_79 (by decide) ?_
      exact ih (j + 1) (by omega) κ1 (hSκ1) H locs ls (lv_sub hl [0, 2, 3, 4, 5] rfl) hw (fun κz H locs ls he hl hiz hw => hx82 κz H locs ls (hF.trans he) hl hiz hw)
def lp_X6_pass_106  : Nat → Nat → Int32 → Kp → Int32 × Kp
  | 0, j, v3, κ => (v3, κ)
  | n + 1, j, v3, κ => if (κ (104 + 2 * (j)) 1) < 0 then (lp_X6_pass_106  n (j + 1) (v3) κ) else (if (κ (104 + 2 * (j)) 5) < (2) then (lp_X6_pass_106  n (j + 1) (v3) κ) else (if (κ (104 + 2 * (j)) 3) = 0 then (lp_X6_pass_106  n (j + 1) (v3) κ) else ((fun κ1 : Kp => if (20) ≤ (κ1 (98 + (κ1 (104 + 2 * (j)) 1).toNatClampNeg) (2)) then ((fun κ2 : Kp => lp_X6_pass_106  n (j + 1) ((v3) + 1) κ2) (up2 κ1 (161) ((κ1 (98 + (κ1 (104 + 2 * (j)) 1).toNatClampNeg) (0)).toNatClampNeg) (((κ1 (161) (κ1 (98 + (κ1 (104 + 2 * (j)) 1).toNatClampNeg) (0)).toNatClampNeg) + (1))))) else ((fun κ3 : Kp => lp_X6_pass_106  n (j + 1) (v3) κ3) (up2 κ1 (98 + (κ1 (104 + 2 * (j)) 1).toNatClampNeg) (2) (((κ1 (98 + (κ1 (104 + 2 * (j)) 1).toNatClampNeg) (2)) + (1)))))) (up2 κ (104 + 2 * (j)) 3 (((κ (104 + 2 * (j)) 3) - (1)))))))
set_option maxRecDepth 100000 in
set_option maxHeartbeats 4000000 in
theorem ml_X6_pass_106 {p : Program} {e : Env} {s : State} {m : MethodId} {below : List Frame} {meth : Method} {c : Code} {Q : State → Prop} {A : Nat → Prop} {D : va_G} {cA : Nat → ClassId} {L : List Nat} {ad : Nat → Nat} {nf ns nr : Nat} {T : List Nat} {args : Array Value} (l : Launch)  (hnf : nf ≤ 3) (hns : ns ≤ 6) (hnr : nr ≤ 16) (hL : Lm L ad nf ns nr T) (h161 : 161 ∈ L ∧ ad 1161 = nf) (hM : Ma A D cA p s m args meth c cX6_pass 9 yX6_pass.cls) : ∀ (n j : Nat), j + n = nr → ∀ (v3 : Int32) (κ : Kp), SI nf ns nr κ → ∀ (H : Heap) (locs : List Loc) (ls : Array Slot), lv_has ls 9 [(6, .int (nI (j))), (5, .int (nI (nr))), (4, .ref (ad (94))), (3, .int (v3)), (2, .ref (ad (161))), (0, .ref (ad (91)))] → Wa A D cA L ad s κ H locs → (∀ (u3 : Int32) (κz : Kp) (H : Heap) (locs : List Loc) (ls : Array Slot), lp_X6_pass_106  n j v3 κ = (u3, κz) → lv_has ls 9 [(3, .int (u3)), (2, .ref (ad (161))), (0, .ref (ad (91)))] → SI nf ns nr κz → Wa A D cA L ad s κz H locs → W p l e { frames := 2, cells := 2, slots := 9, locals := 60 } s m args below meth c H locs 2 9 Q (F0 m 210 ls [])) → W p l e { frames := 2, cells := 2, slots := 9, locals := 60 } s m args below meth c H locs 2 9 Q (F0 m 106 ls []) := by
  intro n
  induction n with
  | zero =>
    intro j hj v3 κ hinv H locs ls hl hw hx210
    have hF := Eq.refl (lp_X6_pass_106  0 j v3 κ)
    conv at hF => rhs; rw [lp_X6_pass_106]
    refine lv_iload hM.x hM.b dX6_pass_106 (lv_at hl 0 rfl) ?_
    refine lv_iload hM.x hM.b dX6_pass_108 (lv_at hl 1 rfl) ?_
    refine lv_icmp_ge (tgt := 210) hM.x hM.b dX6_pass_110 (by decide) (fun _ => ?_) (fun cz => absurd (nI_le (by omega) (by omega) : nI (nr) ≤ nI (j)) cz)
    exact hx210 (v3) κ H locs ls hF (lv_sub hl [3, 4, 5] rfl) (hinv) hw
  | succ n ih =>
    intro j hj v3 κ hinv H locs ls hl hw hx210
    have hF := Eq.refl (lp_X6_pass_106  (n + 1) j v3 κ)
    conv at hF => rhs; rw [lp_X6_pass_106]
    refine lv_iload hM.x hM.b dX6_pass_106 (lv_at hl 0 rfl) ?_
    refine lv_iload hM.x hM.b dX6_pass_108 (lv_at hl 1 rfl) ?_
    refine lv_icmp_ge (tgt := 210) hM.x hM.b dX6_pass_110 (by decide) (fun cz => absurd cz (nI_ge (by omega) (by omega) : ¬ nI (nr) ≤ nI (j))) (fun _ => ?_)
    refine lv_aload hM.x hM.b dX6_pass_113 (lv_at hl 2 rfl) ?_
    refine lv_iload hM.x hM.b dX6_pass_115 (lv_at hl 0 rfl) ?_
    refine k_aldqN (i := j) (n := nr) (t := 5) (x := ad (104 + 2 * (j))) hM hw (hL.m94) (lsh94 hL) rfl (by omega) (by omega) (if_pos (by omega)) dX6_pass_117 ?_
    refine lv_astore (lv' := [(7, .ref (ad (104 + 2 * (j)))), (6, .int (nI (j))), (5, .int (nI (nr))), (4, .ref (ad (94))), (3, .int (v3)), (2, .ref (ad (161))), (0, .ref (ad (91)))]) hM.x hM.b dX6_pass_118 hl (by decide) rfl (fun ls hl => ?_)
    refine lv_aload hM.x hM.b dX6_pass_120 (lv_at hl 0 rfl) ?_
    refine k_get5 1 hM hw (kdR _ (hL.r16 (by omega))).1 (hL.R (by omega)).1 (by decide) u_fl_X6_32 dX6_pass_122 ?_
    refine lv_if_lt (tgt := 204) hM.x hM.b dX6_pass_125 (by decide) (fun c1 => ?_) (fun c1 => ?_)
    · rw [if_pos c1] at hF
      refine lv_iinc (v := nI (j + 1)) (lv' := [(6, .int (nI (j + 1))), (7, .ref (ad (104 + 2 * (j)))), (5, .int (nI (nr))), (4, .ref (ad (94))), (3, .int (v3)), (2, .ref (ad (161))), (0, .ref (ad (91)))]) hM.x hM.b dX6_pass_204 hl (k := 1) rfl (nI_1 (j)) (by decide) rfl (fun ls hl => ?_)
      refine lv_goto (tgt := 106) hM.x hM.b dX6_pass_207 (by decide) ?_
      exact ih (j + 1) (by omega) (v3) κ (hinv) H locs ls (lv_sub hl [0, 2, 3, 4, 5, 6] rfl) hw (fun u3 κz H locs ls he hl hiz hw => hx210 u3 κz H locs ls (hF.trans he) hl hiz hw)
    · rw [if_neg c1] at hF
      refine lv_aload hM.x hM.b dX6_pass_128 (lv_at hl 0 rfl) ?_
      refine k_get5 5 hM hw (kdR _ (hL.r16 (by omega))).1 (hL.R (by omega)).1 (by decide) u_fl_X6_58 dX6_pass_130 ?_
      refine lv_iconst (v := 2) hM.x hM.b dX6_pass_133 (by decide) ?_
      refine lv_icmp_lt (tgt := 204) hM.x hM.b dX6_pass_134 (by decide) (fun c2 => ?_) (fun c2 => ?_)
      · rw [if_pos c2] at hF
        refine lv_iinc (v := nI (j + 1)) (lv' := [(6, .int (nI (j + 1))), (7, .ref (ad (104 + 2 * (j)))), (5, .int (nI (nr))), (4, .ref (ad (94))), (3, .int (v3)), (2, .ref (ad (161))), (0, .ref (ad (91)))]) hM.x hM.b dX6_pass_204 hl (k := 1) rfl (nI_1 (j)) (by decide) rfl (fun ls hl => ?_)
        refine lv_goto (tgt := 106) hM.x hM.b dX6_pass_207 (by decide) ?_
        exact ih (j + 1) (by omega) (v3) κ (hinv) H locs ls (lv_sub hl [0, 2, 3, 4, 5, 6] rfl) hw (fun u3 κz H locs ls he hl hiz hw => hx210 u3 κz H locs ls (hF.trans he) hl hiz hw)
      · rw [if_neg c2] at hF
        refine lv_aload hM.x hM.b dX6_pass_137 (lv_at hl 0 rfl) ?_
        refine k_get5 3 hM hw (kdR _ (hL.r16 (by omega))).1 (hL.R (by omega)).1 (by decide) u_fl_X6_35 dX6_pass_139 ?_
        refine lv_if_ne (tgt := 148) hM.x hM.b dX6_pass_142 (by decide) (fun c3 => ?_) (fun c3 => ?_)
        · rw [if_neg c3] at hF
          refine lv_aload hM.x hM.b dX6_pass_148 (lv_at hl 0 rfl) ?_
          refine lv_dup hM.x hM.b dX6_pass_150 rfl ?_
          refine k_get5 3 hM hw (kdR _ (hL.r16 (by omega))).1 (hL.R (by omega)).1 (by decide) u_fl_X6_35 dX6_pass_151 ?_
          refine lv_iconst (v := 1) hM.x hM.b dX6_pass_154 (by decide) ?_
          refine lv_isub hM.x hM.b dX6_pass_155 ?_
          refine k_put5 3 hM hw (kdR _ (hL.r16 (by omega))).1 (hL.R (by omega)).1 (by decide) u_fl_X6_35 dX6_pass_156 (fun H locs hw => ?_)
          obtain ⟨κ1, eκ1⟩ : ∃ z : Kp, up2 κ (104 + 2 * (j)) 3 (((κ (104 + 2 * (j)) 3) - (1))) = z := ⟨_, rfl⟩
          rw [eκ1] at hw
          rw [eκ1] at hF
          try dsimp only at hF
          have hSκ1 : SI nf ns nr κ1 := by rw [← eκ1]; exact (SI.up hinv (by omega) (by omega) (by omega))
          refine lv_aload_n hM.x hM.b dX6_pass_159 rfl (lv_at hl 6 rfl) ?_
          refine k_get6r 1 hM hw hL.m91 (by decide) u_fl_X6_19 dX6_pass_160 ?_
          refine lv_aload hM.x hM.b dX6_pass_163 (lv_at hl 0 rfl) ?_
          refine k_get5 1 hM hw (kdR _ (hL.r16 (by omega))).1 (hL.R (by omega)).1 (by decide) u_fl_X6_32 dX6_pass_165 ?_
          refine k_alda (n := ns) (t := 1) (x := ad (98 + (κ1 (104 + 2 * (j)) 1).toNatClampNeg)) hM hw (hL.m93) (lsh93 hL) rfl (((hSκ1).2 (j) (by omega)).1 (by rw [← eκ1, up2_ne _ _ (by first | exact Or.inr (by decide) | exact Or.inl (by omega))]; exact c1)) (if_pos (vpi_lt (((hSκ1).2 (j) (by omega)).1 (by rw [← eκ1, up2_ne _ _ (by first | exact Or.inr (by decide) | exact Or.inl (by omega))]; exact c1)))) dX6_pass_168 ?_
          refine lv_astore (lv' := [(8, .ref (ad (98 + (κ1 (104 + 2 * (j)) 1).toNatClampNeg))), (7, .ref (ad (104 + 2 * (j)))), (6, .int (nI (j))), (5, .int (nI (nr))), (4, .ref (ad (94))), (3, .int (v3)), (2, .ref (ad (161))), (0, .ref (ad (91)))]) hM.x hM.b dX6_pass_169 hl (by decide) rfl (fun ls hl => ?_)
          refine lv_aload hM.x hM.b dX6_pass_171 (lv_at hl 0 rfl) ?_
          refine lv_iconst (v := 2) hM.x hM.b dX6_pass_173 (by decide) ?_
          refine k_ialdN (i := 2) (n := 6) hM hw (hL.S (vpi_lt (((hSκ1).2 (j) (by omega)).1 (by rw [← eκ1, up2_ne _ _ (by first | exact Or.inr (by decide) | exact Or.inl (by omega))]; exact c1)))) (sh20 (kdS _ (hL.s6 (vpi_lt (((hSκ1).2 (j) (by omega)).1 (by rw [← eκ1, up2_ne _ _ (by first | exact Or.inr (by decide) | exact Or.inl (by omega))]; exact c1)))))) (by decide) (by decide) dX6_pass_174 ?_
          refine lv_bipush (v := 20) hM.x hM.b dX6_pass_175 (by decide) ?_
          refine lv_icmp_ge (tgt := 191) hM.x hM.b dX6_pass_177 (by decide) (fun c4 => ?_) (fun c4 => ?_)
          · rw [if_pos c4] at hF
            refine lv_aload_n hM.x hM.b dX6_pass_191 rfl (lv_at hl 6 rfl) ?_
            refine lv_aload hM.x hM.b dX6_pass_192 (lv_at hl 0 rfl) ?_
            refine lv_iconst (v := 0) hM.x hM.b dX6_pass_194 (by decide) ?_
            refine k_ialdN (i := 0) (n := 6) hM hw (hL.S (vpi_lt (((hSκ1).2 (j) (by omega)).1 (by rw [← eκ1, up2_ne _ _ (by first | exact Or.inr (by decide) | exact Or.inl (by omega))]; exact c1)))) (sh20 (kdS _ (hL.s6 (vpi_lt (((hSκ1).2 (j) (by omega)).1 (by rw [← eκ1, up2_ne _ _ (by first | exact Or.inr (by decide) | exact Or.inl (by omega))]; exact c1)))))) (by decide) (by decide) dX6_pass_195 ?_
            refine lv_dup2_11 hM.x hM.b dX6_pass_196 rfl rfl ?_
            refine k_iald (n := nf) hM hw h161.1 (sh161 h161.2) ((hSκ1).1 ((κ1 (104 + 2 * (j)) 1).toNatClampNeg) (vpi_lt (((hSκ1).2 (j) (by omega)).1 (by rw [← eκ1, up2_ne _ _ (by first | exact Or.inr (by decide) | exact Or.inl (by omega))]; exact c1)))).1 dX6_pass_197 ?_
            refine lv_iconst (v := 1) hM.x hM.b dX6_pass_198 (by decide) ?_
            refine lv_iadd hM.x hM.b dX6_pass_199 ?_
            refine k_iast (n := nf) hM hw h161.1 (fun r => sh161 h161.2) ((hSκ1).1 ((κ1 (104 + 2 * (j)) 1).toNatClampNeg) (vpi_lt (((hSκ1).2 (j) (by omega)).1 (by rw [← eκ1, up2_ne _ _ (by first | exact Or.inr (by decide) | exact Or.inl (by omega))]; exact c1)))).1 dX6_pass_200 (fun H locs hw => ?_)
            obtain ⟨κ2, eκ2⟩ : ∃ z : Kp, up2 κ1 (161) ((κ1 (98 + (κ1 (104 + 2 * (j)) 1).toNatClampNeg) (0)).toNatClampNeg) (((κ1 (161) (κ1 (98 + (κ1 (104 + 2 * (j)) 1).toNatClampNeg) (0)).toNatClampNeg) + (1))) = z := ⟨_, rfl⟩
            rw [eκ2] at hw
            rw [eκ2] at hF
            try dsimp only at hF
            have hSκ2 : SI nf ns nr κ2 := by rw [← eκ2]; exact (SI.up hSκ1 (by omega) (by omega) (by omega))
            refine lv_iinc (v := (v3) + 1) (lv' := [(3, .int ((v3) + 1)), (8, .ref (ad (98 + (κ1 (104 + 2 * (j)) 1).toNatClampNeg))), (7, .ref (ad (104 + 2 * (j)))), (6, .int (nI (j))), (5, .int (nI (nr))), (4, .ref (ad (94))), (2, .ref (ad (161))), (0, .ref (ad (91)))]) hM.x hM.b dX6_pass_201 hl (k := 5) rfl rfl (by decide) rfl (fun ls hl => ?_)
            refine lv_iinc (v := nI (j + 1)) (lv' := [(6, .int (nI (j + 1))), (3, .int ((v3) + 1)), (8, .ref (ad (98 + (κ1 (104 + 2 * (j)) 1).toNatClampNeg))), (7, .ref (ad (104 + 2 * (j)))), (5, .int (nI (nr))), (4, .ref (ad (94))), (2, .ref (ad (161))), (0, .ref (ad (91)))]) hM.x hM.b dX6_pass_204 hl (k := 3) rfl (nI_1 (j)) (by decide) rfl (fun ls hl => ?_)
            refine lv_goto (tgt := 106) hM.x hM.b dX6_pass_207 (by decide) ?_
            exact ih (j + 1) (by omega) ((v3) + 1) κ2 (hSκ2) H locs ls (lv_sub hl [0, 4, 5, 1, 6, 7] rfl) hw (fun u3 κz H locs ls he hl hiz hw => hx210 u3 κz H locs ls (hF.trans he) hl hiz hw)
          · rw [if_neg c4] at hF
            refine lv_aload hM.x hM.b dX6_pass_180 (lv_at hl 0 rfl) ?_
            refine lv_iconst (v := 2) hM.x hM.b dX6_pass_182 (by decide) ?_
            refine lv_dup2_11 hM.x hM.b dX6_pass_183 rfl rfl ?_
            refine k_ialdN (i := 2) (n := 6) hM hw (hL.S (vpi_lt (((hSκ1).2 (j) (by omega)).1 (by rw [← eκ1, up2_ne _ _ (by first | exact Or.inr (by decide) | exact Or.inl (by omega))]; exact c1)))) (sh20 (kdS _ (hL.s6 (vpi_lt (((hSκ1).2 (j) (by omega)).1 (by rw [← eκ1, up2_ne _ _ (by first | exact Or.inr (by decide) | exact Or.inl (by omega))]; exact c1)))))) (by decide) (by decide) dX6_pass_184 ?_
            refine lv_iconst (v := 1) hM.x hM.b dX6_pass_185 (by decide) ?_
            refine lv_iadd hM.x hM.b dX6_pass_186 ?_
            refine k_iastN (i := 2) (n := 6) hM hw (hL.S (vpi_lt (((hSκ1).2 (j) (by omega)).1 (by rw [← eκ1, up2_ne _ _ (by first | exact Or.inr (by decide) | exact Or.inl (by omega))]; exact c1)))) (fun r => sh20 (kdS _ (hL.s6 (vpi_lt (((hSκ1).2 (j) (by omega)).1 (by rw [← eκ1, up2_ne _ _ (by first | exact Or.inr (by decide) | exact Or.inl (by omega))]; exact c1)))))) (by decide) (by decide) dX6_pass_187 (fun H locs hw => ?_)
            obtain ⟨κ3, eκ3⟩ : ∃ z : Kp, up2 κ1 (98 + (κ1 (104 + 2 * (j)) 1).toNatClampNeg) (2) (((κ1 (98 + (κ1 (104 + 2 * (j)) 1).toNatClampNeg) (2)) + (1))) = z := ⟨_, rfl⟩
            rw [eκ3] at hw
            rw [eκ3] at hF
            try dsimp only at hF
            have hSκ3 : SI nf ns nr κ3 := by rw [← eκ3]; exact (SI.up hSκ1 (by omega) (by have := (vpi_lt (((hSκ1).2 (j) (by omega)).1 (by rw [← eκ1, up2_ne _ _ (by first | exact Or.inr (by decide) | exact Or.inl (by omega))]; exact c1))); omega) (by omega))
            refine lv_goto (tgt := 204) hM.x hM.b dX6_pass_188 (by decide) ?_
            refine lv_iinc (v := nI (j + 1)) (lv' := [(6, .int (nI (j + 1))), (8, .ref (ad (98 + (κ1 (104 + 2 * (j)) 1).toNatClampNeg))), (7, .ref (ad (104 + 2 * (j)))), (5, .int (nI (nr))), (4, .ref (ad (94))), (3, .int (v3)), (2, .ref (ad (161))), (0, .ref (ad (91)))]) hM.x hM.b dX6_pass_204 hl (k := 2) rfl (nI_1 (j)) (by decide) rfl (fun ls hl => ?_)
            refine lv_goto (tgt := 106) hM.x hM.b dX6_pass_207 (by decide) ?_
            exact ih (j + 1) (by omega) (v3) κ3 (hSκ3) H locs ls (lv_sub hl [0, 3, 4, 5, 6, 7] rfl) hw (fun u3 κz H locs ls he hl hiz hw => hx210 u3 κz H locs ls (hF.trans he) hl hiz hw)
        · rw [if_pos c3] at hF
          refine lv_goto (tgt := 204) hM.x hM.b dX6_pass_145 (by decide) ?_
          refine lv_iinc (v := nI (j + 1)) (lv' := [(6, .int (nI (j + 1))), (7, .ref (ad (104 + 2 * (j)))), (5, .int (nI (nr))), (4, .ref (ad (94))), (3, .int (v3)), (2, .ref (ad (161))), (0, .ref (ad (91)))]) hM.x hM.b dX6_pass_204 hl (k := 1) rfl (nI_1 (j)) (by decide) rfl (fun ls hl => ?_)
          refine lv_goto (tgt := 106) hM.x hM.b dX6_pass_207 (by decide) ?_
          exact ih (j + 1) (by omega) (v3) κ (hinv) H locs ls (lv_sub hl [0, 2, 3, 4, 5, 6] rfl) hw (fun u3 κz H locs ls he hl hiz hw => hx210 u3 κz H locs ls (hF.trans he) hl hiz hw)
def lp_X6_pass_224  : Nat → Nat → Kp → Kp
  | 0, j, κ => κ
  | n + 1, j, κ => if 0 ≤ (κ (98 + (j)) (3)) then ((fun κ1 : Kp => if (κ1 (98 + (j)) (5)) ≤ 0 then (lp_X6_pass_224  n (j + 1) κ1) else (if (((κ1 (98 + (j)) (4)) - (κ1 (98 + (j)) (4)) / (κ1 (98 + (j)) (5)) * (κ1 (98 + (j)) (5)))) = 0 then ((fun κ2 : Kp => lp_X6_pass_224  n (j + 1) κ2) (up2 κ1 (104 + 2 * (κ1 (98 + (j)) (3)).toNatClampNeg) 2 (((((κ1 (104 + 2 * (κ1 (98 + (j)) (3)).toNatClampNeg) 2) + (1))) - (((κ1 (104 + 2 * (κ1 (98 + (j)) (3)).toNatClampNeg) 2) + (1))) / (4) * (4))))) else (lp_X6_pass_224  n (j + 1) κ1))) (up2 κ (98 + (j)) (4) (((κ (98 + (j)) (4)) + (1))))) else (lp_X6_pass_224  n (j + 1) κ)
set_option maxRecDepth 100000 in
set_option maxHeartbeats 4000000 in
theorem ml_X6_pass_224 {p : Program} {e : Env} {s : State} {m : MethodId} {below : List Frame} {meth : Method} {c : Code} {Q : State → Prop} {A : Nat → Prop} {D : va_G} {cA : Nat → ClassId} {L : List Nat} {ad : Nat → Nat} {nf ns nr : Nat} {T : List Nat} {args : Array Value} (l : Launch)  (hnf : nf ≤ 3) (hns : ns ≤ 6) (hnr : nr ≤ 16) (hL : Lm L ad nf ns nr T) (h161 : 161 ∈ L ∧ ad 1161 = nf) (v3 : Int32) (hM : Ma A D cA p s m args meth c cX6_pass 9 yX6_pass.cls) : ∀ (n j : Nat), j + n = ns → ∀ (κ : Kp), SI nf ns nr κ → ∀ (H : Heap) (locs : List Loc) (ls : Array Slot), lv_has ls 9 [(6, .int (nI (j))), (5, .int (nI (ns))), (4, .ref (ad (93))), (3, .int (v3)), (2, .ref (ad (161))), (0, .ref (ad (91)))] → Wa A D cA L ad s κ H locs → (∀ (κz : Kp) (H : Heap) (locs : List Loc) (ls : Array Slot), lp_X6_pass_224  n j κ = κz → lv_has ls 9 [(3, .int (v3)), (2, .ref (ad (161))), (0, .ref (ad (91)))] → SI nf ns nr κz → Wa A D cA L ad s κz H locs → W p l e { frames := 2, cells := 2, slots := 9, locals := 60 } s m args below meth c H locs 2 9 Q (F0 m 309 ls [])) → W p l e { frames := 2, cells := 2, slots := 9, locals := 60 } s m args below meth c H locs 2 9 Q (F0 m 224 ls []) := by
  intro n
  induction n with
  | zero =>
    intro j hj κ hinv H locs ls hl hw hx309
    have hF := Eq.refl (lp_X6_pass_224  0 j κ)
    conv at hF => rhs; rw [lp_X6_pass_224]
    refine lv_iload hM.x hM.b dX6_pass_224 (lv_at hl 0 rfl) ?_
    refine lv_iload hM.x hM.b dX6_pass_226 (lv_at hl 1 rfl) ?_
    refine lv_icmp_ge (tgt := 309) hM.x hM.b dX6_pass_228 (by decide) (fun _ => ?_) (fun cz => absurd (nI_le (by omega) (by omega) : nI (ns) ≤ nI (j)) cz)
    exact hx309 κ H locs ls hF (lv_sub hl [3, 4, 5] rfl) (hinv) hw
  | succ n ih =>
    intro j hj κ hinv H locs ls hl hw hx309
    have hF := Eq.refl (lp_X6_pass_224  (n + 1) j κ)
    conv at hF => rhs; rw [lp_X6_pass_224]
    refine lv_iload hM.x hM.b dX6_pass_224 (lv_at hl 0 rfl) ?_
    refine lv_iload hM.x hM.b dX6_pass_226 (lv_at hl 1 rfl) ?_
    refine lv_icmp_ge (tgt := 309) hM.x hM.b dX6_pass_228 (by decide) (fun cz => absurd cz (nI_ge (by omega) (by omega) : ¬ nI (ns) ≤ nI (j))) (fun _ => ?_)
    refine lv_aload hM.x hM.b dX6_pass_231 (lv_at hl 2 rfl) ?_
    refine lv_iload hM.x hM.b dX6_pass_233 (lv_at hl 0 rfl) ?_
    refine k_aldaN (i := j) (n := ns) (t := 1) (x := ad (98 + (j))) hM hw (hL.m93) (lsh93 hL) rfl (by omega) (by omega) (if_pos (by omega)) dX6_pass_235 ?_
    refine lv_astore (lv' := [(7, .ref (ad (98 + (j)))), (6, .int (nI (j))), (5, .int (nI (ns))), (4, .ref (ad (93))), (3, .int (v3)), (2, .ref (ad (161))), (0, .ref (ad (91)))]) hM.x hM.b dX6_pass_236 hl (by decide) rfl (fun ls hl => ?_)
    refine lv_aload hM.x hM.b dX6_pass_238 (lv_at hl 0 rfl) ?_
    refine lv_iconst (v := 3) hM.x hM.b dX6_pass_240 (by decide) ?_
    refine k_ialdN (i := 3) (n := 6) hM hw (hL.S (by omega)) (sh20 (kdS _ (hL.s6 (by omega)))) (by decide) (by decide) dX6_pass_241 ?_
    refine lv_if_ge (tgt := 248) hM.x hM.b dX6_pass_242 (by decide) (fun c1 => ?_) (fun c1 => ?_)
    · rw [if_pos c1] at hF
      refine lv_aload hM.x hM.b dX6_pass_248 (lv_at hl 0 rfl) ?_
      refine lv_iconst (v := 4) hM.x hM.b dX6_pass_250 (by decide) ?_
      refine lv_dup2_11 hM.x hM.b dX6_pass_251 rfl rfl ?_
      refine k_ialdN (i := 4) (n := 6) hM hw (hL.S (by omega)) (sh20 (kdS _ (hL.s6 (by omega)))) (by decide) (by decide) dX6_pass_252 ?_
      refine lv_iconst (v := 1) hM.x hM.b dX6_pass_253 (by decide) ?_
      refine lv_iadd hM.x hM.b dX6_pass_254 ?_
      refine k_iastN (i := 4) (n := 6) hM hw (hL.S (by omega)) (fun r => sh20 (kdS _ (hL.s6 (by omega)))) (by decide) (by decide) dX6_pass_255 (fun H locs hw => ?_)
      obtain ⟨κ1, eκ1⟩ : ∃ z : Kp, up2 κ (98 + (j)) (4) (((κ (98 + (j)) (4)) + (1))) = z := ⟨_, rfl⟩
      rw [eκ1] at hw
      rw [eκ1] at hF
      try dsimp only at hF
      have hSκ1 : SI nf ns nr κ1 := by rw [← eκ1]; exact (SI.up hinv (by omega) (by have := (by omega); omega) (by omega))
      refine lv_aload hM.x hM.b dX6_pass_256 (lv_at hl 0 rfl) ?_
      refine lv_iconst (v := 5) hM.x hM.b dX6_pass_258 (by decide) ?_
      refine k_ialdN (i := 5) (n := 6) hM hw (hL.S (by omega)) (sh20 (kdS _ (hL.s6 (by omega)))) (by decide) (by decide) dX6_pass_259 ?_
      refine lv_if_le (tgt := 303) hM.x hM.b dX6_pass_260 (by decide) (fun c2 => ?_) (fun c2 => ?_)
      · rw [if_pos c2] at hF
        refine lv_iinc (v := nI (j + 1)) (lv' := [(6, .int (nI (j + 1))), (7, .ref (ad (98 + (j)))), (5, .int (nI (ns))), (4, .ref (ad (93))), (3, .int (v3)), (2, .ref (ad (161))), (0, .ref (ad (91)))]) hM.x hM.b dX6_pass_303 hl (k := 1) rfl (nI_1 (j)) (by decide) rfl (fun ls hl => ?_)
        refine lv_goto (tgt := 224) hM.x hM.b dX6_pass_306 (by decide) ?_
        exact ih (j + 1) (by omega) κ1 (hSκ1) H locs ls (lv_sub hl [0, 2, 3, 4, 5, 6] rfl) hw (fun κz H locs ls he hl hiz hw => hx309 κz H locs ls (hF.trans he) hl hiz hw)
      · rw [if_neg c2] at hF
        refine lv_aload hM.x hM.b dX6_pass_263 (lv_at hl 0 rfl) ?_
        refine lv_iconst (v := 4) hM.x hM.b dX6_pass_265 (by decide) ?_
        refine k_ialdN (i := 4) (n := 6) hM hw (hL.S (by omega)) (sh20 (kdS _ (hL.s6 (by omega)))) (by decide) (by decide) dX6_pass_266 ?_
        refine lv_aload hM.x hM.b dX6_pass_267 (lv_at hl 0 rfl) ?_
        refine lv_iconst (v := 5) hM.x hM.b dX6_pass_269 (by decide) ?_
        refine k_ialdN (i := 5) (n := 6) hM hw (hL.S (by omega)) (sh20 (kdS _ (hL.s6 (by omega)))) (by decide) (by decide) dX6_pass_270 ?_
        refine lv_irem hM.x hM.b dX6_pass_271 (nz_pos1 c2) ?_
        refine lv_if_ne (tgt := 303) hM.x hM.b dX6_pass_272 (by decide) (fun c3 => ?_) (fun c3 => ?_)
        · rw [if_neg c3] at hF
          refine lv_iinc (v := nI (j + 1)) (lv' := [(6, .int (nI (j + 1))), (7, .ref (ad (98 + (j)))), (5, .int (nI (ns))), (4, .ref (ad (93))), (3, .int (v3)), (2, .ref (ad (161))), (0, .ref (ad (91)))]) hM.x hM.b dX6_pass_303 hl (k := 1) rfl (nI_1 (j)) (by decide) rfl (fun ls hl => ?_)
          refine lv_goto (tgt := 224) hM.x hM.b dX6_pass_306 (by decide) ?_
          exact ih (j + 1) (by omega) κ1 (hSκ1) H locs ls (lv_sub hl [0, 2, 3, 4, 5, 6] rfl) hw (fun κz H locs ls he hl hiz hw => hx309 κz H locs ls (hF.trans he) hl hiz hw)
        · rw [if_pos c3] at hF
          refine lv_aload_n hM.x hM.b dX6_pass_275 rfl (lv_at hl 6 rfl) ?_
          refine k_get6r 2 hM hw hL.m91 (by decide) u_fl_X6_24 dX6_pass_276 ?_
          refine lv_aload hM.x hM.b dX6_pass_279 (lv_at hl 0 rfl) ?_
          refine lv_iconst (v := 3) hM.x hM.b dX6_pass_281 (by decide) ?_
          refine k_ialdN (i := 3) (n := 6) hM hw (hL.S (by omega)) (sh20 (kdS _ (hL.s6 (by omega)))) (by decide) (by decide) dX6_pass_282 ?_
          refine k_aldq (n := nr) (t := 5) (x := ad (104 + 2 * (κ1 (98 + (j)) (3)).toNatClampNeg)) hM hw (hL.m94) (lsh94 hL) rfl (((hSκ1).1 (j) (by omega)).2.2 (by rw [← eκ1, up2_ne _ _ (by first | exact Or.inr (by decide) | exact Or.inl (by omega))]; exact (Int32.not_lt.mpr c1))) (if_pos (vpi_lt (((hSκ1).1 (j) (by omega)).2.2 (by rw [← eκ1, up2_ne _ _ (by first | exact Or.inr (by decide) | exact Or.inl (by omega))]; exact (Int32.not_lt.mpr c1))))) dX6_pass_283 ?_
          refine lv_aload_n hM.x hM.b dX6_pass_284 rfl (lv_at hl 6 rfl) ?_
          refine k_get6r 2 hM hw hL.m91 (by decide) u_fl_X6_24 dX6_pass_285 ?_
          refine lv_aload hM.x hM.b dX6_pass_288 (lv_at hl 0 rfl) ?_
          refine lv_iconst (v := 3) hM.x hM.b dX6_pass_290 (by decide) ?_
          refine k_ialdN (i := 3) (n := 6) hM hw (hL.S (by omega)) (sh20 (kdS _ (hL.s6 (by omega)))) (by decide) (by decide) dX6_pass_291 ?_
          refine k_aldq (n := nr) (t := 5) (x := ad (104 + 2 * (κ1 (98 + (j)) (3)).toNatClampNeg)) hM hw (hL.m94) (lsh94 hL) rfl (((hSκ1).1 (j) (by omega)).2.2 (by rw [← eκ1, up2_ne _ _ (by first | exact Or.inr (by decide) | exact Or.inl (by omega))]; exact (Int32.not_lt.mpr c1))) (if_pos (vpi_lt (((hSκ1).1 (j) (by omega)).2.2 (by rw [← eκ1, up2_ne _ _ (by first | exact Or.inr (by decide) | exact Or.inl (by omega))]; exact (Int32.not_lt.mpr c1))))) dX6_pass_292 ?_
          refine k_get5 2 hM hw (kdR _ (hL.r16 (vpi_lt (((hSκ1).1 (j) (by omega)).2.2 (by rw [← eκ1, up2_ne _ _ (by first | exact Or.inr (by decide) | exact Or.inl (by omega))]; exact (Int32.not_lt.mpr c1)))))).1 (hL.R (vpi_lt (((hSκ1).1 (j) (by omega)).2.2 (by rw [← eκ1, up2_ne _ _ (by first | exact Or.inr (by decide) | exact Or.inl (by omega))]; exact (Int32.not_lt.mpr c1))))).1 (by decide) u_fl_X6_61 dX6_pass_293 ?_
          refine lv_iconst (v := 1) hM.x hM.b dX6_pass_296 (by decide) ?_
          refine lv_iadd hM.x hM.b dX6_pass_297 ?_
          refine lv_iconst (v := 4) hM.x hM.b dX6_pass_298 (by decide) ?_
          refine lv_irem hM.x hM.b dX6_pass_299 (by decide) ?_
          refine k_put5 2 hM hw (kdR _ (hL.r16 (vpi_lt (((hSκ1).1 (j) (by omega)).2.2 (by rw [← eκ1, up2_ne _ _ (by first | exact Or.inr (by decide) | exact Or.inl (by omega))]; exact (Int32.not_lt.mpr c1)))))).1 (hL.R (vpi_lt (((hSκ1).1 (j) (by omega)).2.2 (by rw [← eκ1, up2_ne _ _ (by first | exact Or.inr (by decide) | exact Or.inl (by omega))]; exact (Int32.not_lt.mpr c1))))).1 (by decide) u_fl_X6_61 dX6_pass_300 (fun H locs hw => ?_)
          obtain ⟨κ2, eκ2⟩ : ∃ z : Kp, up2 κ1 (104 + 2 * (κ1 (98 + (j)) (3)).toNatClampNeg) 2 (((((κ1 (104 + 2 * (κ1 (98 + (j)) (3)).toNatClampNeg) 2) + (1))) - (((κ1 (104 + 2 * (κ1 (98 + (j)) (3)).toNatClampNeg) 2) + (1))) / (4) * (4))) = z := ⟨_, rfl⟩
          rw [eκ2] at hw
          rw [eκ2] at hF
          try dsimp only at hF
          have hSκ2 : SI nf ns nr κ2 := by rw [← eκ2]; exact (SI.side hSκ1 (by omega) (by omega) (vpi_lt (((hSκ1).1 (j) (by omega)).2.2 (by rw [← eκ1, up2_ne _ _ (by first | exact Or.inr (by decide) | exact Or.inl (by omega))]; exact (Int32.not_lt.mpr c1)))) (rem4_in ((hSκ1).2 ((κ1 (98 + (j)) (3)).toNatClampNeg) (vpi_lt (((hSκ1).1 (j) (by omega)).2.2 (by rw [← eκ1, up2_ne _ _ (by first | exact Or.inr (by decide) | exact Or.inl (by omega))]; exact (Int32.not_lt.mpr c1))))).2))
          refine lv_iinc (v := nI (j + 1)) (lv' := [(6, .int (nI (j + 1))), (7, .ref (ad (98 + (j)))), (5, .int (nI (ns))), (4, .ref (ad (93))), (3, .int (v3)), (2, .ref (ad (161))), (0, .ref (ad (91)))]) hM.x hM.b dX6_pass_303 hl (k := 1) rfl (nI_1 (j)) (by decide) rfl (fun ls hl => ?_)
          refine lv_goto (tgt := 224) hM.x hM.b dX6_pass_306 (by decide) ?_
          exact ih (j + 1) (by omega) κ2 (hSκ2) H locs ls (lv_sub hl [0, 2, 3, 4, 5, 6] rfl) hw (fun κz H locs ls he hl hiz hw => hx309 κz H locs ls (hF.trans he) hl hiz hw)
    · rw [if_neg c1] at hF
      refine lv_goto (tgt := 303) hM.x hM.b dX6_pass_245 (by decide) ?_
      refine lv_iinc (v := nI (j + 1)) (lv' := [(6, .int (nI (j + 1))), (7, .ref (ad (98 + (j)))), (5, .int (nI (ns))), (4, .ref (ad (93))), (3, .int (v3)), (2, .ref (ad (161))), (0, .ref (ad (91)))]) hM.x hM.b dX6_pass_303 hl (k := 1) rfl (nI_1 (j)) (by decide) rfl (fun ls hl => ?_)
      refine lv_goto (tgt := 224) hM.x hM.b dX6_pass_306 (by decide) ?_
      exact ih (j + 1) (by omega) κ (hinv) H locs ls (lv_sub hl [0, 2, 3, 4, 5, 6] rfl) hw (fun κz H locs ls he hl hiz hw => hx309 κz H locs ls (hF.trans he) hl hiz hw)
def lp_X6_pass_312  : Nat → Nat → Kp → Kp
  | 0, j, κ => κ
  | n + 1, j, κ => if (κ (95 + (j)) (0)) ≤ 0 then (if 0 ≤ (((((κ (95 + (j)) (1)) + (κ (161) (j)))) + ((-1)))) then (if (((((κ (95 + (j)) (1)) + (κ (161) (j)))) + ((-1)))) ≤ (9) then ((fun κ1 : Kp => lp_X6_pass_312  n (j + 1) κ1) (up2 κ (95 + (j)) (1) (((((κ (95 + (j)) (1)) + (κ (161) (j)))) + ((-1)))))) else ((fun κ2 : Kp => lp_X6_pass_312  n (j + 1) κ2) (up2 κ (95 + (j)) (1) (9)))) else ((fun κ3 : Kp => lp_X6_pass_312  n (j + 1) κ3) (up2 κ (95 + (j)) (1) (0)))) else (if (((κ (91) 0) - (κ (91) 0) / (5) * (5))) = 0 then ((fun κ7 : Kp => if 0 ≤ (((((κ (95 + (j)) (1)) + (κ (161) (j)))) + (1))) then (if (((((κ (95 + (j)) (1)) + (κ (161) (j)))) + (1))) ≤ (9) then ((fun κ8 : Kp => lp_X6_pass_312  n (j + 1) κ8) (up2 κ7 (95 + (j)) (1) (((((κ (95 + (j)) (1)) + (κ (161) (j)))) + (1))))) else ((fun κ9 : Kp => lp_X6_pass_312  n (j + 1) κ9) (up2 κ7 (95 + (j)) (1) (9)))) else ((fun κ10 : Kp => lp_X6_pass_312  n (j + 1) κ10) (up2 κ7 (95 + (j)) (1) (0)))) (up2 κ (95 + (j)) (0) (((κ (95 + (j)) (0)) - (1))))) else (if 0 ≤ (((((κ (95 + (j)) (1)) + (κ (161) (j)))) + (1))) then (if (((((κ (95 + (j)) (1)) + (κ (161) (j)))) + (1))) ≤ (9) then ((fun κ4 : Kp => lp_X6_pass_312  n (j + 1) κ4) (up2 κ (95 + (j)) (1) (((((κ (95 + (j)) (1)) + (κ (161) (j)))) + (1))))) else ((fun κ5 : Kp => lp_X6_pass_312  n (j + 1) κ5) (up2 κ (95 + (j)) (1) (9)))) else ((fun κ6 : Kp => lp_X6_pass_312  n (j + 1) κ6) (up2 κ (95 + (j)) (1) (0)))))
set_option maxRecDepth 100000 in
set_option maxHeartbeats 4000000 in
theorem ml_X6_pass_312 {p : Program} {e : Env} {s : State} {m : MethodId} {below : List Frame} {meth : Method} {c : Code} {Q : State → Prop} {A : Nat → Prop} {D : va_G} {cA : Nat → ClassId} {L : List Nat} {ad : Nat → Nat} {nf ns nr : Nat} {T : List Nat} {args : Array Value} (l : Launch)  (hnf : nf ≤ 3) (hns : ns ≤ 6) (hnr : nr ≤ 16) (hL : Lm L ad nf ns nr T) (h161 : 161 ∈ L ∧ ad 1161 = nf) (v3 : Int32) (hM : Ma A D cA p s m args meth c cX6_pass 9 yX6_pass.cls) : ∀ (n j : Nat), j + n = nf → ∀ (κ : Kp), SI nf ns nr κ → ∀ (H : Heap) (locs : List Loc) (ls : Array Slot), lv_has ls 9 [(4, .int (nI (j))), (3, .int (v3)), (2, .ref (ad (161))), (0, .ref (ad (91)))] → Wa A D cA L ad s κ H locs → (∀ (κz : Kp) (H : Heap) (locs : List Loc) (ls : Array Slot), lp_X6_pass_312  n j κ = κz → lv_has ls 9 [(3, .int (v3)), (0, .ref (ad (91)))] → SI nf ns nr κz → Wa A D cA L ad s κz H locs → W p l e { frames := 2, cells := 2, slots := 9, locals := 60 } s m args below meth c H locs 2 9 Q (F0 m 428 ls [])) → W p l e { frames := 2, cells := 2, slots := 9, locals := 60 } s m args below meth c H locs 2 9 Q (F0 m 312 ls []) := by
  intro n
  induction n with
  | zero =>
    intro j hj κ hinv H locs ls hl hw hx428
    have hF := Eq.refl (lp_X6_pass_312  0 j κ)
    conv at hF => rhs; rw [lp_X6_pass_312]
    refine lv_iload hM.x hM.b dX6_pass_312 (lv_at hl 0 rfl) ?_
    refine lv_aload_n hM.x hM.b dX6_pass_314 rfl (lv_at hl 3 rfl) ?_
    refine k_get6r 0 hM hw hL.m91 (by decide) u_fl_X6_15 dX6_pass_315 ?_
    refine k_alenD (n := nf) hM hw (hL.m92) 1 (lsh92 hL) rfl rfl dX6_pass_318 ?_
    refine lv_icmp_ge (tgt := 428) hM.x hM.b dX6_pass_319 (by decide) (fun _ => ?_) (fun cz => absurd (nI_le (by omega) (by omega) : nI (nf) ≤ nI (j)) cz)
    exact hx428 κ H locs ls hF (lv_sub hl [1, 3] rfl) (hinv) hw
  | succ n ih =>
    intro j hj κ hinv H locs ls hl hw hx428
    have hF := Eq.refl (lp_X6_pass_312  (n + 1) j κ)
    conv at hF => rhs; rw [lp_X6_pass_312]
    refine lv_iload hM.x hM.b dX6_pass_312 (lv_at hl 0 rfl) ?_
    refine lv_aload_n hM.x hM.b dX6_pass_314 rfl (lv_at hl 3 rfl) ?_
    refine k_get6r 0 hM hw hL.m91 (by decide) u_fl_X6_15 dX6_pass_315 ?_
    refine k_alenD (n := nf) hM hw (hL.m92) 1 (lsh92 hL) rfl rfl dX6_pass_318 ?_
    refine lv_icmp_ge (tgt := 428) hM.x hM.b dX6_pass_319 (by decide) (fun cz => absurd cz (nI_ge (by omega) (by omega) : ¬ nI (nf) ≤ nI (j))) (fun _ => ?_)
    refine lv_aload_n hM.x hM.b dX6_pass_322 rfl (lv_at hl 3 rfl) ?_
    refine k_get6r 0 hM hw hL.m91 (by decide) u_fl_X6_15 dX6_pass_323 ?_
    refine lv_iload hM.x hM.b dX6_pass_326 (lv_at hl 0 rfl) ?_
    refine k_aldaN (i := j) (n := nf) (t := 1) (x := ad (95 + (j))) hM hw (hL.m92) (lsh92 hL) rfl (by omega) (by omega) (if_pos (by omega)) dX6_pass_328 ?_
    refine lv_iconst (v := 1) hM.x hM.b dX6_pass_329 (by decide) ?_
    refine k_ialdN (i := 1) (n := 2) hM hw (hL.F (by omega)) (sh19 (kdF _ (hL.f3 (by omega)))) (by decide) (by decide) dX6_pass_330 ?_
    refine lv_aload_n hM.x hM.b dX6_pass_331 rfl (lv_at hl 2 rfl) ?_
    refine lv_iload hM.x hM.b dX6_pass_332 (lv_at hl 0 rfl) ?_
    refine k_ialdN (i := j) (n := nf) hM hw h161.1 (sh161 h161.2) (by omega) (by omega) dX6_pass_334 ?_
    refine lv_iadd hM.x hM.b dX6_pass_335 ?_
    refine lv_aload_n hM.x hM.b dX6_pass_336 rfl (lv_at hl 3 rfl) ?_
    refine k_get6r 0 hM hw hL.m91 (by decide) u_fl_X6_15 dX6_pass_337 ?_
    refine lv_iload hM.x hM.b dX6_pass_340 (lv_at hl 0 rfl) ?_
    refine k_aldaN (i := j) (n := nf) (t := 1) (x := ad (95 + (j))) hM hw (hL.m92) (lsh92 hL) rfl (by omega) (by omega) (if_pos (by omega)) dX6_pass_342 ?_
    refine lv_iconst (v := 0) hM.x hM.b dX6_pass_343 (by decide) ?_
    refine k_ialdN (i := 0) (n := 2) hM hw (hL.F (by omega)) (sh19 (kdF _ (hL.f3 (by omega)))) (by decide) (by decide) dX6_pass_344 ?_
    refine lv_if_le (tgt := 352) hM.x hM.b dX6_pass_345 (by decide) (fun c1 => ?_) (fun c1 => ?_)
    · rw [if_pos c1] at hF
      refine lv_iconst (v := -1) hM.x hM.b dX6_pass_352 (by decide) ?_
      refine lv_iadd hM.x hM.b dX6_pass_353 ?_
      refine lv_istore (lv' := [(5, .int (((((κ (95 + (j)) (1)) + (κ (161) (j)))) + ((-1))))), (4, .int (nI (j))), (3, .int (v3)), (2, .ref (ad (161))), (0, .ref (ad (91)))]) hM.x hM.b dX6_pass_354 hl (by decide) rfl (fun ls hl => ?_)
      refine lv_aload_n hM.x hM.b dX6_pass_356 rfl (lv_at hl 4 rfl) ?_
      refine k_get6r 0 hM hw hL.m91 (by decide) u_fl_X6_15 dX6_pass_357 ?_
      refine lv_iload hM.x hM.b dX6_pass_360 (lv_at hl 1 rfl) ?_
      refine k_aldaN (i := j) (n := nf) (t := 1) (x := ad (95 + (j))) hM hw (hL.m92) (lsh92 hL) rfl (by omega) (by omega) (if_pos (by omega)) dX6_pass_362 ?_
      refine lv_iconst (v := 0) hM.x hM.b dX6_pass_363 (by decide) ?_
      refine k_ialdN (i := 0) (n := 2) hM hw (hL.F (by omega)) (sh19 (kdF _ (hL.f3 (by omega)))) (by decide) (by decide) dX6_pass_364 ?_
      refine lv_if_le (tgt := 390) hM.x hM.b dX6_pass_365 (by decide) (fun _ => ?_) (fun cz => absurd c1 cz)
      refine lv_aload_n hM.x hM.b dX6_pass_390 rfl (lv_at hl 4 rfl) ?_
      refine k_get6r 0 hM hw hL.m91 (by decide) u_fl_X6_15 dX6_pass_391 ?_
      refine lv_iload hM.x hM.b dX6_pass_394 (lv_at hl 1 rfl) ?_
      refine k_aldaN (i := j) (n := nf) (t := 1) (x := ad (95 + (j))) hM hw (hL.m92) (lsh92 hL) rfl (by omega) (by omega) (if_pos (by omega)) dX6_pass_396 ?_
      refine lv_iconst (v := 1) hM.x hM.b dX6_pass_397 (by decide) ?_
      refine lv_iload hM.x hM.b dX6_pass_398 (lv_at hl 0 rfl) ?_
      refine lv_if_ge (tgt := 407) hM.x hM.b dX6_pass_400 (by decide) (fun c2 => ?_) (fun c2 => ?_)
      · rw [if_pos c2] at hF
        refine lv_iload hM.x hM.b dX6_pass_407 (lv_at hl 0 rfl) ?_
        refine lv_bipush (v := 9) hM.x hM.b dX6_pass_409 (by decide) ?_
        refine lv_icmp_le (tgt := 419) hM.x hM.b dX6_pass_411 (by decide) (fun c3 => ?_) (fun c3 => ?_)
        · rw [if_pos c3] at hF
          refine lv_iload hM.x hM.b dX6_pass_419 (lv_at hl 0 rfl) ?_
          refine k_iastN (i := 1) (n := 2) hM hw (hL.F (by omega)) (fun r => sh19 (kdF _ (hL.f3 (by omega)))) (by decide) (by decide) dX6_pass_421 (fun H locs hw => ?_)
          obtain ⟨κ1, eκ1⟩ : ∃ z : Kp, up2 κ (95 + (j)) (1) (((((κ (95 + (j)) (1)) + (κ (161) (j)))) + ((-1)))) = z := ⟨_, rfl⟩
          rw [eκ1] at hw
          rw [eκ1] at hF
          try dsimp only at hF
          have hSκ1 : SI nf ns nr κ1 := by rw [← eκ1]; exact (SI.up hinv (by omega) (by have := (by omega); omega) (by omega))
          refine lv_iinc (v := nI (j + 1)) (lv' := [(4, .int (nI (j + 1))), (5, .int (((((κ (95 + (j)) (1)) + (κ (161) (j)))) + ((-1))))), (3, .int (v3)), (2, .ref (ad (161))), (0, .ref (ad (91)))]) hM.x hM.b dX6_pass_422 hl (k := 1) rfl (nI_1 (j)) (by decide) rfl (fun ls hl => ?_)
          refine lv_goto (tgt := 312) hM.x hM.b dX6_pass_425 (by decide) ?_
          exact ih (j + 1) (by omega) κ1 (hSκ1) H locs ls (lv_sub hl [0, 2, 3, 4] rfl) hw (fun κz H locs ls he hl hiz hw => hx428 κz H locs ls (hF.trans he) hl hiz hw)
        · rw [if_neg c3] at hF
          refine lv_bipush (v := 9) hM.x hM.b dX6_pass_414 (by decide) ?_
          refine lv_goto (tgt := 421) hM.x hM.b dX6_pass_416 (by decide) ?_
          refine k_iastN (i := 1) (n := 2) hM hw (hL.F (by omega)) (fun r => sh19 (kdF _ (hL.f3 (by omega)))) (by decide) (by decide) dX6_pass_421 (fun H locs hw => ?_)
          obtain ⟨κ2, eκ2⟩ : ∃ z : Kp, up2 κ (95 + (j)) (1) (9) = z := ⟨_, rfl⟩
          rw [eκ2] at hw
          rw [eκ2] at hF
          try dsimp only at hF
          have hSκ2 : SI nf ns nr κ2 := by rw [← eκ2]; exact (SI.up hinv (by omega) (by have := (by omega); omega) (by omega))
          refine lv_iinc (v := nI (j + 1)) (lv' := [(4, .int (nI (j + 1))), (5, .int (((((κ (95 + (j)) (1)) + (κ (161) (j)))) + ((-1))))), (3, .int (v3)), (2, .ref (ad (161))), (0, .ref (ad (91)))]) hM.x hM.b dX6_pass_422 hl (k := 1) rfl (nI_1 (j)) (by decide) rfl (fun ls hl => ?_)
          refine lv_goto (tgt := 312) hM.x hM.b dX6_pass_425 (by decide) ?_
          exact ih (j + 1) (by omega) κ2 (hSκ2) H locs ls (lv_sub hl [0, 2, 3, 4] rfl) hw (fun κz H locs ls he hl hiz hw => hx428 κz H locs ls (hF.trans he) hl hiz hw)
      · rw [if_neg c2] at hF
        refine lv_iconst (v := 0) hM.x hM.b dX6_pass_403 (by decide) ?_
        refine lv_goto (tgt := 421) hM.x hM.b dX6_pass_404 (by decide) ?_
        refine k_iastN (i := 1) (n := 2) hM hw (hL.F (by omega)) (fun r => sh19 (kdF _ (hL.f3 (by omega)))) (by decide) (by decide) dX6_pass_421 (fun H locs hw => ?_)
        obtain ⟨κ3, eκ3⟩ : ∃ z : Kp, up2 κ (95 + (j)) (1) (0) = z := ⟨_, rfl⟩
        rw [eκ3] at hw
        rw [eκ3] at hF
        try dsimp only at hF
        have hSκ3 : SI nf ns nr κ3 := by rw [← eκ3]; exact (SI.up hinv (by omega) (by have := (by omega); omega) (by omega))
        refine lv_iinc (v := nI (j + 1)) (lv' := [(4, .int (nI (j + 1))), (5, .int (((((κ (95 + (j)) (1)) + (κ (161) (j)))) + ((-1))))), (3, .int (v3)), (2, .ref (ad (161))), (0, .ref (ad (91)))]) hM.x hM.b dX6_pass_422 hl (k := 1) rfl (nI_1 (j)) (by decide) rfl (fun ls hl => ?_)
        refine lv_goto (tgt := 312) hM.x hM.b dX6_pass_425 (by decide) ?_
        exact ih (j + 1) (by omega) κ3 (hSκ3) H locs ls (lv_sub hl [0, 2, 3, 4] rfl) hw (fun κz H locs ls he hl hiz hw => hx428 κz H locs ls (hF.trans he) hl hiz hw)
    · rw [if_neg c1] at hF
      refine lv_iconst (v := 1) hM.x hM.b dX6_pass_348 (by decide) ?_
      refine lv_goto (tgt := 353) hM.x hM.b dX6_pass_349 (by decide) ?_
      refine lv_iadd hM.x hM.b dX6_pass_353 ?_
      refine lv_istore (lv' := [(5, .int (((((κ (95 + (j)) (1)) + (κ (161) (j)))) + (1)))), (4, .int (nI (j))), (3, .int (v3)), (2, .ref (ad (161))), (0, .ref (ad (91)))]) hM.x hM.b dX6_pass_354 hl (by decide) rfl (fun ls hl => ?_)
      refine lv_aload_n hM.x hM.b dX6_pass_356 rfl (lv_at hl 4 rfl) ?_
      refine k_get6r 0 hM hw hL.m91 (by decide) u_fl_X6_15 dX6_pass_357 ?_
      refine lv_iload hM.x hM.b dX6_pass_360 (lv_at hl 1 rfl) ?_
      refine k_aldaN (i := j) (n := nf) (t := 1) (x := ad (95 + (j))) hM hw (hL.m92) (lsh92 hL) rfl (by omega) (by omega) (if_pos (by omega)) dX6_pass_362 ?_
      refine lv_iconst (v := 0) hM.x hM.b dX6_pass_363 (by decide) ?_
      refine k_ialdN (i := 0) (n := 2) hM hw (hL.F (by omega)) (sh19 (kdF _ (hL.f3 (by omega)))) (by decide) (by decide) dX6_pass_364 ?_
      refine lv_if_le (tgt := 390) hM.x hM.b dX6_pass_365 (by decide) (fun cz => absurd cz c1) (fun _ => ?_)
      refine lv_aload_n hM.x hM.b dX6_pass_368 rfl (lv_at hl 4 rfl) ?_
      refine k_get6 0 hM hw hL.m91 (by decide) u_fl_X6_39 dX6_pass_369 ?_
      refine lv_iconst (v := 5) hM.x hM.b dX6_pass_372 (by decide) ?_
      refine lv_irem hM.x hM.b dX6_pass_373 (by decide) ?_
      refine lv_if_ne (tgt := 390) hM.x hM.b dX6_pass_374 (by decide) (fun c4 => ?_) (fun c4 => ?_)
      · rw [if_neg c4] at hF
        refine lv_aload_n hM.x hM.b dX6_pass_390 rfl (lv_at hl 4 rfl) ?_
        refine k_get6r 0 hM hw hL.m91 (by decide) u_fl_X6_15 dX6_pass_391 ?_
        refine lv_iload hM.x hM.b dX6_pass_394 (lv_at hl 1 rfl) ?_
        refine k_aldaN (i := j) (n := nf) (t := 1) (x := ad (95 + (j))) hM hw (hL.m92) (lsh92 hL) rfl (by omega) (by omega) (if_pos (by omega)) dX6_pass_396 ?_
        refine lv_iconst (v := 1) hM.x hM.b dX6_pass_397 (by decide) ?_
        refine lv_iload hM.x hM.b dX6_pass_398 (lv_at hl 0 rfl) ?_
        refine lv_if_ge (tgt := 407) hM.x hM.b dX6_pass_400 (by decide) (fun c5 => ?_) (fun c5 => ?_)
        · rw [if_pos c5] at hF
          refine lv_iload hM.x hM.b dX6_pass_407 (lv_at hl 0 rfl) ?_
          refine lv_bipush (v := 9) hM.x hM.b dX6_pass_409 (by decide) ?_
          refine lv_icmp_le (tgt := 419) hM.x hM.b dX6_pass_411 (by decide) (fun c6 => ?_) (fun c6 => ?_)
          · rw [if_pos c6] at hF
            refine lv_iload hM.x hM.b dX6_pass_419 (lv_at hl 0 rfl) ?_
            refine k_iastN (i := 1) (n := 2) hM hw (hL.F (by omega)) (fun r => sh19 (kdF _ (hL.f3 (by omega)))) (by decide) (by decide) dX6_pass_421 (fun H locs hw => ?_)
            obtain ⟨κ4, eκ4⟩ : ∃ z : Kp, up2 κ (95 + (j)) (1) (((((κ (95 + (j)) (1)) + (κ (161) (j)))) + (1))) = z := ⟨_, rfl⟩
            rw [eκ4] at hw
            rw [eκ4] at hF
            try dsimp only at hF
            have hSκ4 : SI nf ns nr κ4 := by rw [← eκ4]; exact (SI.up hinv (by omega) (by have := (by omega); omega) (by omega))
            refine lv_iinc (v := nI (j + 1)) (lv' := [(4, .int (nI (j + 1))), (5, .int (((((κ (95 + (j)) (1)) + (κ (161) (j)))) + (1)))), (3, .int (v3)), (2, .ref (ad (161))), (0, .ref (ad (91)))]) hM.x hM.b dX6_pass_422 hl (k := 1) rfl (nI_1 (j)) (by decide) rfl (fun ls hl => ?_)
            refine lv_goto (tgt := 312) hM.x hM.b dX6_pass_425 (by decide) ?_
            exact ih (j + 1) (by omega) κ4 (hSκ4) H locs ls (lv_sub hl [0, 2, 3, 4] rfl) hw (fun κz H locs ls he hl hiz hw => hx428 κz H locs ls (hF.trans he) hl hiz hw)
          · rw [if_neg c6] at hF
            refine lv_bipush (v := 9) hM.x hM.b dX6_pass_414 (by decide) ?_
            refine lv_goto (tgt := 421) hM.x hM.b dX6_pass_416 (by decide) ?_
            refine k_iastN (i := 1) (n := 2) hM hw (hL.F (by omega)) (fun r => sh19 (kdF _ (hL.f3 (by omega)))) (by decide) (by decide) dX6_pass_421 (fun H locs hw => ?_)
            obtain ⟨κ5, eκ5⟩ : ∃ z : Kp, up2 κ (95 + (j)) (1) (9) = z := ⟨_, rfl⟩
            rw [eκ5] at hw
            rw [eκ5] at hF
            try dsimp only at hF
            have hSκ5 : SI nf ns nr κ5 := by rw [← eκ5]; exact (SI.up hinv (by omega) (by have := (by omega); omega) (by omega))
            refine lv_iinc (v := nI (j + 1)) (lv' := [(4, .int (nI (j + 1))), (5, .int (((((κ (95 + (j)) (1)) + (κ (161) (j)))) + (1)))), (3, .int (v3)), (2, .ref (ad (161))), (0, .ref (ad (91)))]) hM.x hM.b dX6_pass_422 hl (k := 1) rfl (nI_1 (j)) (by decide) rfl (fun ls hl => ?_)
            refine lv_goto (tgt := 312) hM.x hM.b dX6_pass_425 (by decide) ?_
            exact ih (j + 1) (by omega) κ5 (hSκ5) H locs ls (lv_sub hl [0, 2, 3, 4] rfl) hw (fun κz H locs ls he hl hiz hw => hx428 κz H locs ls (hF.trans he) hl hiz hw)
        · rw [if_neg c5] at hF
          refine lv_iconst (v := 0) hM.x hM.b dX6_pass_403 (by decide) ?_
          refine lv_goto (tgt := 421) hM.x hM.b dX6_pass_404 (by decide) ?_
          refine k_iastN (i := 1) (n := 2) hM hw (hL.F (by omega)) (fun r => sh19 (kdF _ (hL.f3 (by omega)))) (by decide) (by decide) dX6_pass_421 (fun H locs hw => ?_)
          obtain ⟨κ6, eκ6⟩ : ∃ z : Kp, up2 κ (95 + (j)) (1) (0) = z := ⟨_, rfl⟩
          rw [eκ6] at hw
          rw [eκ6] at hF
          try dsimp only at hF
          have hSκ6 : SI nf ns nr κ6 := by rw [← eκ6]; exact (SI.up hinv (by omega) (by have := (by omega); omega) (by omega))
          refine lv_iinc (v := nI (j + 1)) (lv' := [(4, .int (nI (j + 1))), (5, .int (((((κ (95 + (j)) (1)) + (κ (161) (j)))) + (1)))), (3, .int (v3)), (2, .ref (ad (161))), (0, .ref (ad (91)))]) hM.x hM.b dX6_pass_422 hl (k := 1) rfl (nI_1 (j)) (by decide) rfl (fun ls hl => ?_)
          refine lv_goto (tgt := 312) hM.x hM.b dX6_pass_425 (by decide) ?_
          exact ih (j + 1) (by omega) κ6 (hSκ6) H locs ls (lv_sub hl [0, 2, 3, 4] rfl) hw (fun κz H locs ls he hl hiz hw => hx428 κz H locs ls (hF.trans he) hl hiz hw)
      · rw [if_pos c4] at hF
        refine lv_aload_n hM.x hM.b dX6_pass_377 rfl (lv_at hl 4 rfl) ?_
        refine k_get6r 0 hM hw hL.m91 (by decide) u_fl_X6_15 dX6_pass_378 ?_
        refine lv_iload hM.x hM.b dX6_pass_381 (lv_at hl 1 rfl) ?_
        refine k_aldaN (i := j) (n := nf) (t := 1) (x := ad (95 + (j))) hM hw (hL.m92) (lsh92 hL) rfl (by omega) (by omega) (if_pos (by omega)) dX6_pass_383 ?_
        refine lv_iconst (v := 0) hM.x hM.b dX6_pass_384 (by decide) ?_
        refine lv_dup2_11 hM.x hM.b dX6_pass_385 rfl rfl ?_
        refine k_ialdN (i := 0) (n := 2) hM hw (hL.F (by omega)) (sh19 (kdF _ (hL.f3 (by omega)))) (by decide) (by decide) dX6_pass_386 ?_
        refine lv_iconst (v := 1) hM.x hM.b dX6_pass_387 (by decide) ?_
        refine lv_isub hM.x hM.b dX6_pass_388 ?_
        refine k_iastN (i := 0) (n := 2) hM hw (hL.F (by omega)) (fun r => sh19 (kdF _ (hL.f3 (by omega)))) (by decide) (by decide) dX6_pass_389 (fun H locs hw => ?_)
        obtain ⟨κ7, eκ7⟩ : ∃ z : Kp, up2 κ (95 + (j)) (0) (((κ (95 + (j)) (0)) - (1))) = z := ⟨_, rfl⟩
        rw [eκ7] at hw
        rw [eκ7] at hF
        try dsimp only at hF
        have hSκ7 : SI nf ns nr κ7 := by rw [← eκ7]; exact (SI.up hinv (by omega) (by have := (by omega); omega) (by omega))
        refine lv_aload_n hM.x hM.b dX6_pass_390 rfl (lv_at hl 4 rfl) ?_
        refine k_get6r 0 hM hw hL.m91 (by decide) u_fl_X6_15 dX6_pass_391 ?_
        refine lv_iload hM.x hM.b dX6_pass_394 (lv_at hl 1 rfl) ?_
        refine k_aldaN (i := j) (n := nf) (t := 1) (x := ad (95 + (j))) hM hw (hL.m92) (lsh92 hL) rfl (by omega) (by omega) (if_pos (by omega)) dX6_pass_396 ?_
        refine lv_iconst (v := 1) hM.x hM.b dX6_pass_397 (by decide) ?_
        refine lv_iload hM.x hM.b dX6_pass_398 (lv_at hl 0 rfl) ?_
        refine lv_if_ge (tgt := 407) hM.x hM.b dX6_pass_400 (by decide) (fun c7 => ?_) (fun c7 => ?_)
        · rw [if_pos c7] at hF
          refine lv_iload hM.x hM.b dX6_pass_407 (lv_at hl 0 rfl) ?_
          refine lv_bipush (v := 9) hM.x hM.b dX6_pass_409 (by decide) ?_
          refine lv_icmp_le (tgt := 419) hM.x hM.b dX6_pass_411 (by decide) (fun c8 => ?_) (fun c8 => ?_)
          · rw [if_pos c8] at hF
            refine lv_iload hM.x hM.b dX6_pass_419 (lv_at hl 0 rfl) ?_
            refine k_iastN (i := 1) (n := 2) hM hw (hL.F (by omega)) (fun r => sh19 (kdF _ (hL.f3 (by omega)))) (by decide) (by decide) dX6_pass_421 (fun H locs hw => ?_)
            obtain ⟨κ8, eκ8⟩ : ∃ z : Kp, up2 κ7 (95 + (j)) (1) (((((κ (95 + (j)) (1)) + (κ (161) (j)))) + (1))) = z := ⟨_, rfl⟩
            rw [eκ8] at hw
            rw [eκ8] at hF
            try dsimp only at hF
            have hSκ8 : SI nf ns nr κ8 := by rw [← eκ8]; exact (SI.up hSκ7 (by omega) (by have := (by omega); omega) (by omega))
            refine lv_iinc (v := nI (j + 1)) (lv' := [(4, .int (nI (j + 1))), (5, .int (((((κ (95 + (j)) (1)) + (κ (161) (j)))) + (1)))), (3, .int (v3)), (2, .ref (ad (161))), (0, .ref (ad (91)))]) hM.x hM.b dX6_pass_422 hl (k := 1) rfl (nI_1 (j)) (by decide) rfl (fun ls hl => ?_)
            refine lv_goto (tgt := 312) hM.x hM.b dX6_pass_425 (by decide) ?_
            exact ih (j + 1) (by omega) κ8 (hSκ8) H locs ls (lv_sub hl [0, 2, 3, 4] rfl) hw (fun κz H locs ls he hl hiz hw => hx428 κz H locs ls (hF.trans he) hl hiz hw)
          · rw [if_neg c8] at hF
            refine lv_bipush (v := 9) hM.x hM.b dX6_pass_414 (by decide) ?_
            refine lv_goto (tgt := 421) hM.x hM.b dX6_pass_416 (by decide) ?_
            refine k_iastN (i := 1) (n := 2) hM hw (hL.F (by omega)) (fun r => sh19 (kdF _ (hL.f3 (by omega)))) (by decide) (by decide) dX6_pass_421 (fun H locs hw => ?_)
            obtain ⟨κ9, eκ9⟩ : ∃ z : Kp, up2 κ7 (95 + (j)) (1) (9) = z := ⟨_, rfl⟩
            rw [eκ9] at hw
            rw [eκ9] at hF
            try dsimp only at hF
            have hSκ9 : SI nf ns nr κ9 := by rw [← eκ9]; exact (SI.up hSκ7 (by omega) (by have := (by omega); omega) (by omega))
            refine lv_iinc (v := nI (j + 1)) (lv' := [(4, .int (nI (j + 1))), (5, .int (((((κ (95 + (j)) (1)) + (κ (161) (j)))) + (1)))), (3, .int (v3)), (2, .ref (ad (161))), (0, .ref (ad (91)))]) hM.x hM.b dX6_pass_422 hl (k := 1) rfl (nI_1 (j)) (by decide) rfl (fun ls hl => ?_)
            refine lv_goto (tgt := 312) hM.x hM.b dX6_pass_425 (by decide) ?_
            exact ih (j + 1) (by omega) κ9 (hSκ9) H locs ls (lv_sub hl [0, 2, 3, 4] rfl) hw (fun κz H locs ls he hl hiz hw => hx428 κz H locs ls (hF.trans he) hl hiz hw)
        · rw [if_neg c7] at hF
          refine lv_iconst (v := 0) hM.x hM.b dX6_pass_403 (by decide) ?_
          refine lv_goto (tgt := 421) hM.x hM.b dX6_pass_404 (by decide) ?_
          refine k_iastN (i := 1) (n := 2) hM hw (hL.F (by omega)) (fun r => sh19 (kdF _ (hL.f3 (by omega)))) (by decide) (by decide) dX6_pass_421 (fun H locs hw => ?_)
          obtain ⟨κ10, eκ10⟩ : ∃ z : Kp, up2 κ7 (95 + (j)) (1) (0) = z := ⟨_, rfl⟩
          rw [eκ10] at hw
          rw [eκ10] at hF
          try dsimp only at hF
          have hSκ10 : SI nf ns nr κ10 := by rw [← eκ10]; exact (SI.up hSκ7 (by omega) (by have := (by omega); omega) (by omega))
          refine lv_iinc (v := nI (j + 1)) (lv' := [(4, .int (nI (j + 1))), (5, .int (((((κ (95 + (j)) (1)) + (κ (161) (j)))) + (1)))), (3, .int (v3)), (2, .ref (ad (161))), (0, .ref (ad (91)))]) hM.x hM.b dX6_pass_422 hl (k := 1) rfl (nI_1 (j)) (by decide) rfl (fun ls hl => ?_)
          refine lv_goto (tgt := 312) hM.x hM.b dX6_pass_425 (by decide) ?_
          exact ih (j + 1) (by omega) κ10 (hSκ10) H locs ls (lv_sub hl [0, 2, 3, 4] rfl) hw (fun κz H locs ls he hl hiz hw => hx428 κz H locs ls (hF.trans he) hl hiz hw)
