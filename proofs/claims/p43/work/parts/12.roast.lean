theorem cl_ge {a : Int32} {j : Nat} (h : j + 0 = a.toNatClampNeg) : a ≤ nI j := by
  rw [Int32.le_iff_toInt_le]
  have h1 : a.toNatClampNeg = a.toInt.toNat := rfl
  have h2 := a.toInt_lt
  rw [nI_toInt (by omega)]
  omega
theorem cl_lt {a : Int32} {j n : Nat} (h : j + (n + 1) = a.toNatClampNeg) : ¬ a ≤ nI j := by
  rw [Int32.le_iff_toInt_le]
  have h1 : a.toNatClampNeg = a.toInt.toNat := rfl
  have h2 := a.toInt_lt
  rw [nI_toInt (by omega)]
  omega
theorem q_X2_done : hdV yX2_done RX2 0 := ⟨rfl, by decide +kernel, by decide +kernel, by decide +kernel⟩
def lp_X2_done (κ : Kp) (k : Nat) : Nat → Nat → Bool
  | 0, j => true
  | n + 1, j => if (κ (k + 1) (j)) < (((3) * (κ (k) 1))) then (false) else (if (κ (k + 1) (j)) ≤ (((((3) * (κ (k) 1))) + (30))) then (lp_X2_done (κ) (k) n (j + 1) ) else (false))
set_option maxRecDepth 100000 in
set_option maxHeartbeats 4000000 in
theorem ml_X2_done {p : Program} {e : Env} {s : State} {m : MethodId} {below : List Frame} {meth : Method} {c : Code} {Q : State → Prop} (l : Launch) (g : Gt) (κ : Kp) (k : Nat) (hk : kd k = 2) (hM : Mc g p s m ([.ref (g.2.2 (k))] : List Value).toArray meth c cX2_done 5 yX2_done.cls) : ∀ (n j : Nat), j + n = 4 → ∀ (H : Heap) (locs : List Loc) (ls : Array Slot), lv_has ls 5 [(3, .int (nI (j))), (2, .int (nI (4))), (1, .ref (g.2.2 (k + 1))), (0, .ref (g.2.2 (k)))] → Ws g s κ H locs → (∀ (H : Heap) (locs : List Loc) (ls : Array Slot), lp_X2_done κ k n j = false → lv_has ls 5 [(0, .ref (g.2.2 (k)))] → Ws g s κ H locs → W p l e { frames := 0, cells := 0, slots := 0, locals := 0 } s m ([.ref (g.2.2 (k))] : List Value).toArray below meth c H locs 0 0 Q (F0 m 45 ls [])) → (∀ (H : Heap) (locs : List Loc) (ls : Array Slot), lp_X2_done κ k n j = true → lv_has ls 5 [(0, .ref (g.2.2 (k)))] → Ws g s κ H locs → W p l e { frames := 0, cells := 0, slots := 0, locals := 0 } s m ([.ref (g.2.2 (k))] : List Value).toArray below meth c H locs 0 0 Q (F0 m 53 ls [])) → W p l e { frames := 0, cells := 0, slots := 0, locals := 0 } s m ([.ref (g.2.2 (k))] : List Value).toArray below meth c H locs 0 0 Q (F0 m 10 ls []) := by
  intro n
  induction n with
  | zero =>
    intro j hj H locs ls hl hw hx45 hx53
    have hF := Eq.refl (lp_X2_done κ k 0 j)
    conv at hF => rhs; rw [lp_X2_done]
    refine lv_iload_n hM.x hM.b dX2_done_10 rfl (lv_at hl 0 rfl) ?_
    refine lv_iload_n hM.x hM.b dX2_done_11 rfl (lv_at hl 1 rfl) ?_
    refine lv_icmp_ge (tgt := 53) hM.x hM.b dX2_done_12 (by decide) (fun _ => ?_) (fun cz => absurd (nI_le (by omega) (by omega) : nI 4 ≤ nI j) cz)
    exact hx53  H locs ls hF (lv_sub hl [3] rfl) hw
  | succ n ih =>
    intro j hj H locs ls hl hw hx45 hx53
    have hF := Eq.refl (lp_X2_done κ k (n + 1) j)
    conv at hF => rhs; rw [lp_X2_done]
    refine lv_iload_n hM.x hM.b dX2_done_10 rfl (lv_at hl 0 rfl) ?_
    refine lv_iload_n hM.x hM.b dX2_done_11 rfl (lv_at hl 1 rfl) ?_
    refine lv_icmp_ge (tgt := 53) hM.x hM.b dX2_done_12 (by decide) (fun cz => absurd cz (nI_ge (by omega) (by decide) : ¬ nI 4 ≤ nI j)) (fun _ => ?_)
    refine lv_aload_n hM.x hM.b dX2_done_15 rfl (lv_at hl 2 rfl) ?_
    refine lv_iload_n hM.x hM.b dX2_done_16 rfl (lv_at hl 0 rfl) ?_
    refine k_ialdN (i := j) (n := 4) hM hw (hw.dm (kd2_6 hk) (by decide)) (sh6 (kd2_6 hk)) (by omega) (by decide) dX2_done_17 ?_
    refine lv_istore (lv' := [(4, .int (κ (k + 1) (j))), (3, .int (nI (j))), (2, .int (nI (4))), (1, .ref (g.2.2 (k + 1))), (0, .ref (g.2.2 (k)))]) hM.x hM.b dX2_done_18 hl (by decide) rfl (fun ls hl => ?_)
    refine lv_iload hM.x hM.b dX2_done_20 (lv_at hl 0 rfl) ?_
    refine lv_iconst (v := 3) hM.x hM.b dX2_done_22 (by decide) ?_
    refine lv_aload_n hM.x hM.b dX2_done_23 rfl (lv_at hl 4 rfl) ?_
    refine k_get2 1 hM hw hk (by decide) u_fl_X2_19 dX2_done_24 ?_
    refine lv_imul hM.x hM.b dX2_done_27 ?_
    refine lv_icmp_lt (tgt := 45) hM.x hM.b dX2_done_28 (by decide) (fun c1 => ?_) (fun c1 => ?_)
    · rw [if_pos c1] at hF
      exact hx45  H locs ls hF (lv_sub hl [4] rfl) hw
    · rw [if_neg c1] at hF
      refine lv_iload hM.x hM.b dX2_done_31 (lv_at hl 0 rfl) ?_
      refine lv_iconst (v := 3) hM.x hM.b dX2_done_33 (by decide) ?_
      refine lv_aload_n hM.x hM.b dX2_done_34 rfl (lv_at hl 4 rfl) ?_
      refine k_get2 1 hM hw hk (by decide) u_fl_X2_19 dX2_done_35 ?_
      refine lv_imul hM.x hM.b dX2_done_38 ?_
      refine lv_bipush (v := 30) hM.x hM.b dX2_done_39 (by decide) ?_
      refine lv_iadd hM.x hM.b dX2_done_41 ?_
      refine lv_icmp_le (tgt := 47) hM.x hM.b dX2_done_42 (by decide) (fun c2 => ?_) (fun c2 => ?_)
      · rw [if_pos c2] at hF
        refine lv_iinc (v := nI (j + 1)) (lv' := [(3, .int (nI (j + 1))), (4, .int (κ (k + 1) (j))), (2, .int (nI (4))), (1, .ref (g.2.2 (k + 1))), (0, .ref (g.2.2 (k)))]) hM.x hM.b dX2_done_47 hl (k := 1) rfl (nI_1 (j)) (by decide) rfl (fun ls hl => ?_)
        refine lv_goto (tgt := 10) hM.x hM.b dX2_done_50 (by decide) ?_
        exact ih (j + 1) (by omega)  H locs ls (lv_sub hl [0, 2, 3, 4] rfl) hw (fun  H locs ls he hl hw => hx45  H locs ls (hF.trans he) hl hw) (fun  H locs ls he hl hw => hx53  H locs ls (hF.trans he) hl hw)
      · rw [if_neg c2] at hF
        exact hx45  H locs ls hF (lv_sub hl [4] rfl) hw
def f_X2_done (κ : Kp) (k : Nat) : Bool := match lp_X2_done κ k 4 0  with | false => (false) | true => (true)
set_option maxRecDepth 100000 in
set_option maxHeartbeats 4000000 in
theorem m_X2_done (l : Launch) (g : Gt) (κ : Kp) (sz : Nat) (k : Nat) (hk : kd k = 2) : Met l yX2_done (.code yX2_done cX2_done 5 (some .boolean) :: uW) { frames := 0, cells := 0, slots := 0, locals := 0 } (PRE g κ sz [.ref (g.2.2 (k))]) (va_Qi (fun r κ' => r = bi (f_X2_done κ k) ∧ κ' = κ) (Wp g) (fr g sz)) 0 0 (fr g sz) := by
  refine k_enter (by decide +kernel) (Nat.le_of_ble_eq_true rfl) ?_
  intro p e s m below meth c ls hM hr hl hw hsz
  subst hsz
  have hl : lv_has ls 5 [(0, .ref (g.2.2 (k)))] := hl
  have hF := f_X2_done.eq_1 κ k
  refine lv_aload_n hM.x hM.b dX2_done_0 rfl (lv_at hl 0 rfl) ?_
  refine k_get2r hM hw hk u_fl_X2_9 dX2_done_1 ?_
  refine lv_astore_n (lv' := [(1, .ref (g.2.2 (k + 1))), (0, .ref (g.2.2 (k)))]) hM.x hM.b dX2_done_4 rfl hl (by decide) rfl (fun ls hl => ?_)
  refine lv_aload_n hM.x hM.b dX2_done_5 rfl (lv_at hl 0 rfl) ?_
  refine k_alen (v := nI 4) hM hw (hw.dm (kd2_6 hk) (by decide)) 0 (sh6 (kd2_6 hk)) rfl rfl dX2_done_6 ?_
  refine lv_istore_n (lv' := [(2, .int (nI (4))), (1, .ref (g.2.2 (k + 1))), (0, .ref (g.2.2 (k)))]) hM.x hM.b dX2_done_7 rfl hl (by decide) rfl (fun ls hl => ?_)
  refine lv_iconst (v := nI 0) hM.x hM.b dX2_done_8 (by decide) ?_
  refine lv_istore_n (lv' := [(3, .int (nI (0))), (2, .int (nI (4))), (1, .ref (g.2.2 (k + 1))), (0, .ref (g.2.2 (k)))]) hM.x hM.b dX2_done_9 rfl hl (by decide) rfl (fun ls hl => ?_)
  refine ml_X2_done l g κ k hk hM (4) (0) (by omega)  _ _ _ (lv_sub hl [0, 1, 2, 3] rfl) hw (fun  H locs ls he hl hw => ?_) (fun  H locs ls he hl hw => ?_)
  · rw [he] at hF; try dsimp only at hF
    refine lv_iconst (v := 0) hM.x hM.b dX2_done_45 (by decide) ?_
    exact k_zret (b := false) hM hr hw (Nat.le_of_ble_eq_true rfl) (Nat.le_of_ble_eq_true rfl) ⟨congrArg bi hF.symm, rfl⟩ dX2_done_46
  · rw [he] at hF; try dsimp only at hF
    refine lv_iconst (v := 1) hM.x hM.b dX2_done_53 (by decide) ?_
    exact k_zret (b := true) hM hr hw (Nat.le_of_ble_eq_true rfl) (Nat.le_of_ble_eq_true rfl) ⟨congrArg bi hF.symm, rfl⟩ dX2_done_54
theorem q_X2_burnt : hdV yX2_burnt RX2 0 := ⟨rfl, by decide +kernel, by decide +kernel, by decide +kernel⟩
def lp_X2_burnt (κ : Kp) (k : Nat) : Nat → Nat → Bool
  | 0, j => false
  | n + 1, j => if (κ (k + 1) (j)) ≤ (((((3) * (κ (k) 1))) + (30))) then (lp_X2_burnt (κ) (k) n (j + 1) ) else (true)
set_option maxRecDepth 100000 in
set_option maxHeartbeats 4000000 in
theorem ml_X2_burnt {p : Program} {e : Env} {s : State} {m : MethodId} {below : List Frame} {meth : Method} {c : Code} {Q : State → Prop} (l : Launch) (g : Gt) (κ : Kp) (k : Nat) (hk : kd k = 2) (hM : Mc g p s m ([.ref (g.2.2 (k))] : List Value).toArray meth c cX2_burnt 5 yX2_burnt.cls) : ∀ (n j : Nat), j + n = 4 → ∀ (H : Heap) (locs : List Loc) (ls : Array Slot), lv_has ls 5 [(3, .int (nI (j))), (2, .int (nI (4))), (1, .ref (g.2.2 (k + 1))), (0, .ref (g.2.2 (k)))] → Ws g s κ H locs → (∀ (H : Heap) (locs : List Loc) (ls : Array Slot), lp_X2_burnt κ k n j = false → lv_has ls 5 [(0, .ref (g.2.2 (k)))] → Ws g s κ H locs → W p l e { frames := 0, cells := 0, slots := 0, locals := 0 } s m ([.ref (g.2.2 (k))] : List Value).toArray below meth c H locs 0 0 Q (F0 m 42 ls [])) → (∀ (H : Heap) (locs : List Loc) (ls : Array Slot), lp_X2_burnt κ k n j = true → lv_has ls 5 [(0, .ref (g.2.2 (k)))] → Ws g s κ H locs → W p l e { frames := 0, cells := 0, slots := 0, locals := 0 } s m ([.ref (g.2.2 (k))] : List Value).toArray below meth c H locs 0 0 Q (F0 m 34 ls [])) → W p l e { frames := 0, cells := 0, slots := 0, locals := 0 } s m ([.ref (g.2.2 (k))] : List Value).toArray below meth c H locs 0 0 Q (F0 m 10 ls []) := by
  intro n
  induction n with
  | zero =>
    intro j hj H locs ls hl hw hx42 hx34
    have hF := Eq.refl (lp_X2_burnt κ k 0 j)
    conv at hF => rhs; rw [lp_X2_burnt]
    refine lv_iload_n hM.x hM.b dX2_burnt_10 rfl (lv_at hl 0 rfl) ?_
    refine lv_iload_n hM.x hM.b dX2_burnt_11 rfl (lv_at hl 1 rfl) ?_
    refine lv_icmp_ge (tgt := 42) hM.x hM.b dX2_burnt_12 (by decide) (fun _ => ?_) (fun cz => absurd (nI_le (by omega) (by omega) : nI 4 ≤ nI j) cz)
    exact hx42  H locs ls hF (lv_sub hl [3] rfl) hw
  | succ n ih =>
    intro j hj H locs ls hl hw hx42 hx34
    have hF := Eq.refl (lp_X2_burnt κ k (n + 1) j)
    conv at hF => rhs; rw [lp_X2_burnt]
    refine lv_iload_n hM.x hM.b dX2_burnt_10 rfl (lv_at hl 0 rfl) ?_
    refine lv_iload_n hM.x hM.b dX2_burnt_11 rfl (lv_at hl 1 rfl) ?_
    refine lv_icmp_ge (tgt := 42) hM.x hM.b dX2_burnt_12 (by decide) (fun cz => absurd cz (nI_ge (by omega) (by decide) : ¬ nI 4 ≤ nI j)) (fun _ => ?_)
    refine lv_aload_n hM.x hM.b dX2_burnt_15 rfl (lv_at hl 2 rfl) ?_
    refine lv_iload_n hM.x hM.b dX2_burnt_16 rfl (lv_at hl 0 rfl) ?_
    refine k_ialdN (i := j) (n := 4) hM hw (hw.dm (kd2_6 hk) (by decide)) (sh6 (kd2_6 hk)) (by omega) (by decide) dX2_burnt_17 ?_
    refine lv_istore (lv' := [(4, .int (κ (k + 1) (j))), (3, .int (nI (j))), (2, .int (nI (4))), (1, .ref (g.2.2 (k + 1))), (0, .ref (g.2.2 (k)))]) hM.x hM.b dX2_burnt_18 hl (by decide) rfl (fun ls hl => ?_)
    refine lv_iload hM.x hM.b dX2_burnt_20 (lv_at hl 0 rfl) ?_
    refine lv_iconst (v := 3) hM.x hM.b dX2_burnt_22 (by decide) ?_
    refine lv_aload_n hM.x hM.b dX2_burnt_23 rfl (lv_at hl 4 rfl) ?_
    refine k_get2 1 hM hw hk (by decide) u_fl_X2_19 dX2_burnt_24 ?_
    refine lv_imul hM.x hM.b dX2_burnt_27 ?_
    refine lv_bipush (v := 30) hM.x hM.b dX2_burnt_28 (by decide) ?_
    refine lv_iadd hM.x hM.b dX2_burnt_30 ?_
    refine lv_icmp_le (tgt := 36) hM.x hM.b dX2_burnt_31 (by decide) (fun c1 => ?_) (fun c1 => ?_)
    · rw [if_pos c1] at hF
      refine lv_iinc (v := nI (j + 1)) (lv' := [(3, .int (nI (j + 1))), (4, .int (κ (k + 1) (j))), (2, .int (nI (4))), (1, .ref (g.2.2 (k + 1))), (0, .ref (g.2.2 (k)))]) hM.x hM.b dX2_burnt_36 hl (k := 1) rfl (nI_1 (j)) (by decide) rfl (fun ls hl => ?_)
      refine lv_goto (tgt := 10) hM.x hM.b dX2_burnt_39 (by decide) ?_
      exact ih (j + 1) (by omega)  H locs ls (lv_sub hl [0, 2, 3, 4] rfl) hw (fun  H locs ls he hl hw => hx42  H locs ls (hF.trans he) hl hw) (fun  H locs ls he hl hw => hx34  H locs ls (hF.trans he) hl hw)
    · rw [if_neg c1] at hF
      exact hx34  H locs ls hF (lv_sub hl [4] rfl) hw
def f_X2_burnt (κ : Kp) (k : Nat) : Bool := match lp_X2_burnt κ k 4 0  with | false => (false) | true => (true)
set_option maxRecDepth 100000 in
set_option maxHeartbeats 4000000 in
theorem m_X2_burnt (l : Launch) (g : Gt) (κ : Kp) (sz : Nat) (k : Nat) (hk : kd k = 2) : Met l yX2_burnt (.code yX2_burnt cX2_burnt 5 (some .boolean) :: uW) { frames := 0, cells := 0, slots := 0, locals := 0 } (PRE g κ sz [.ref (g.2.2 (k))]) (va_Qi (fun r κ' => r = bi (f_X2_burnt κ k) ∧ κ' = κ) (Wp g) (fr g sz)) 0 0 (fr g sz) := by
  refine k_enter (by decide +kernel) (Nat.le_of_ble_eq_true rfl) ?_
  intro p e s m below meth c ls hM hr hl hw hsz
  subst hsz
  have hl : lv_has ls 5 [(0, .ref (g.2.2 (k)))] := hl
  have hF := f_X2_burnt.eq_1 κ k
  refine lv_aload_n hM.x hM.b dX2_burnt_0 rfl (lv_at hl 0 rfl) ?_
  refine k_get2r hM hw hk u_fl_X2_9 dX2_burnt_1 ?_
  refine lv_astore_n (lv' := [(1, .ref (g.2.2 (k + 1))), (0, .ref (g.2.2 (k)))]) hM.x hM.b dX2_burnt_4 rfl hl (by decide) rfl (fun ls hl => ?_)
  refine lv_aload_n hM.x hM.b dX2_burnt_5 rfl (lv_at hl 0 rfl) ?_
  refine k_alen (v := nI 4) hM hw (hw.dm (kd2_6 hk) (by decide)) 0 (sh6 (kd2_6 hk)) rfl rfl dX2_burnt_6 ?_
  refine lv_istore_n (lv' := [(2, .int (nI (4))), (1, .ref (g.2.2 (k + 1))), (0, .ref (g.2.2 (k)))]) hM.x hM.b dX2_burnt_7 rfl hl (by decide) rfl (fun ls hl => ?_)
  refine lv_iconst (v := nI 0) hM.x hM.b dX2_burnt_8 (by decide) ?_
  refine lv_istore_n (lv' := [(3, .int (nI (0))), (2, .int (nI (4))), (1, .ref (g.2.2 (k + 1))), (0, .ref (g.2.2 (k)))]) hM.x hM.b dX2_burnt_9 rfl hl (by decide) rfl (fun ls hl => ?_)
  refine ml_X2_burnt l g κ k hk hM (4) (0) (by omega)  _ _ _ (lv_sub hl [0, 1, 2, 3] rfl) hw (fun  H locs ls he hl hw => ?_) (fun  H locs ls he hl hw => ?_)
  · rw [he] at hF; try dsimp only at hF
    refine lv_iconst (v := 0) hM.x hM.b dX2_burnt_42 (by decide) ?_
    exact k_zret (b := false) hM hr hw (Nat.le_of_ble_eq_true rfl) (Nat.le_of_ble_eq_true rfl) ⟨congrArg bi hF.symm, rfl⟩ dX2_burnt_43
  · rw [he] at hF; try dsimp only at hF
    refine lv_iconst (v := 1) hM.x hM.b dX2_burnt_34 (by decide) ?_
    exact k_zret (b := true) hM hr hw (Nat.le_of_ble_eq_true rfl) (Nat.le_of_ble_eq_true rfl) ⟨congrArg bi hF.symm, rfl⟩ dX2_burnt_35
