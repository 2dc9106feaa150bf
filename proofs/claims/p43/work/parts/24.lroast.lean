theorem q_X5_isDone : hdV yX5_isDone RX5 0 := ⟨rfl, by decide +kernel, by decide +kernel, by decide +kernel⟩
def lp_X5_isDone (κ : Kp) (k : Nat) : Nat → Nat → Bool
  | 0, j => true
  | n + 1, j => if (κ (k + 1) (j)) < (((3) * (κ (k) 0))) then (false) else (if (κ (k + 1) (j)) ≤ (((((3) * (κ (k) 0))) + (30))) then (lp_X5_isDone (κ) (k) n (j + 1) ) else (false))
set_option maxRecDepth 100000 in
set_option maxHeartbeats 4000000 in
theorem ml_X5_isDone {p : Program} {e : Env} {s : State} {m : MethodId} {below : List Frame} {meth : Method} {c : Code} {Q : State → Prop} (l : Launch) (g : Gt) (κ : Kp) (k : Nat) (hk : kd k = 21) (hm : k ∈ g.1.2 ∧ k + 1 ∈ g.1.2) (hM : Mc g p s m ([.ref (g.2.2 (k))] : List Value).toArray meth c cX5_isDone 5 yX5_isDone.cls) : ∀ (n j : Nat), j + n = 4 → ∀ (H : Heap) (locs : List Loc) (ls : Array Slot), lv_has ls 5 [(3, .int (nI (j))), (2, .int (nI (4))), (1, .ref (g.2.2 (k + 1))), (0, .ref (g.2.2 (k)))] → Ws g s κ H locs → (∀ (H : Heap) (locs : List Loc) (ls : Array Slot), lp_X5_isDone κ k n j = false → lv_has ls 5 [(0, .ref (g.2.2 (k)))] → Ws g s κ H locs → W p l e { frames := 0, cells := 0, slots := 0, locals := 0 } s m ([.ref (g.2.2 (k))] : List Value).toArray below meth c H locs 0 0 Q (F0 m 45 ls [])) → (∀ (H : Heap) (locs : List Loc) (ls : Array Slot), lp_X5_isDone κ k n j = true → lv_has ls 5 [(0, .ref (g.2.2 (k)))] → Ws g s κ H locs → W p l e { frames := 0, cells := 0, slots := 0, locals := 0 } s m ([.ref (g.2.2 (k))] : List Value).toArray below meth c H locs 0 0 Q (F0 m 53 ls [])) → W p l e { frames := 0, cells := 0, slots := 0, locals := 0 } s m ([.ref (g.2.2 (k))] : List Value).toArray below meth c H locs 0 0 Q (F0 m 10 ls []) := by
  intro n
  induction n with
  | zero =>
    intro j hj H locs ls hl hw hx45 hx53
    have hF := Eq.refl (lp_X5_isDone κ k 0 j)
    conv at hF => rhs; rw [lp_X5_isDone]
    refine lv_iload_n hM.x hM.b dX5_isDone_10 rfl (lv_at hl 0 rfl) ?_
    refine lv_iload_n hM.x hM.b dX5_isDone_11 rfl (lv_at hl 1 rfl) ?_
    refine lv_icmp_ge (tgt := 53) hM.x hM.b dX5_isDone_12 (by decide) (fun _ => ?_) (fun cz => absurd (nI_le (by omega) (by omega) : nI 4 ≤ nI j) cz)
    exact hx53  H locs ls hF (lv_sub hl [3] rfl) hw
  | succ n ih =>
    intro j hj H locs ls hl hw hx45 hx53
    have hF := Eq.refl (lp_X5_isDone κ k (n + 1) j)
    conv at hF => rhs; rw [lp_X5_isDone]
    refine lv_iload_n hM.x hM.b dX5_isDone_10 rfl (lv_at hl 0 rfl) ?_
    refine lv_iload_n hM.x hM.b dX5_isDone_11 rfl (lv_at hl 1 rfl) ?_
    refine lv_icmp_ge (tgt := 53) hM.x hM.b dX5_isDone_12 (by decide) (fun cz => absurd cz (nI_ge (by omega) (by decide) : ¬ nI 4 ≤ nI j)) (fun _ => ?_)
    refine lv_aload_n hM.x hM.b dX5_isDone_15 rfl (lv_at hl 2 rfl) ?_
    refine lv_iload_n hM.x hM.b dX5_isDone_16 rfl (lv_at hl 0 rfl) ?_
    refine k_ialdN (i := j) (n := 4) hM hw hm.2 (sh27 (kd21_27 hk)) (by omega) (by decide) dX5_isDone_17 ?_
    refine lv_istore (lv' := [(4, .int (κ (k + 1) (j))), (3, .int (nI (j))), (2, .int (nI (4))), (1, .ref (g.2.2 (k + 1))), (0, .ref (g.2.2 (k)))]) hM.x hM.b dX5_isDone_18 hl (by decide) rfl (fun ls hl => ?_)
    refine lv_iload hM.x hM.b dX5_isDone_20 (lv_at hl 0 rfl) ?_
    refine lv_iconst (v := 3) hM.x hM.b dX5_isDone_22 (by decide) ?_
    refine lv_aload_n hM.x hM.b dX5_isDone_23 rfl (lv_at hl 4 rfl) ?_
    refine k_get5 0 hM hw hk hm.1 (by decide) u_fl_X5_13 dX5_isDone_24 ?_
    refine lv_imul hM.x hM.b dX5_isDone_27 ?_
    refine lv_icmp_lt (tgt := 45) hM.x hM.b dX5_isDone_28 (by decide) (fun c1 => ?_) (fun c1 => ?_)
    · rw [if_pos c1] at hF
      exact hx45  H locs ls hF (lv_sub hl [4] rfl) hw
    · rw [if_neg c1] at hF
      refine lv_iload hM.x hM.b dX5_isDone_31 (lv_at hl 0 rfl) ?_
      refine lv_iconst (v := 3) hM.x hM.b dX5_isDone_33 (by decide) ?_
      refine lv_aload_n hM.x hM.b dX5_isDone_34 rfl (lv_at hl 4 rfl) ?_
      refine k_get5 0 hM hw hk hm.1 (by decide) u_fl_X5_13 dX5_isDone_35 ?_
      refine lv_imul hM.x hM.b dX5_isDone_38 ?_
      refine lv_bipush (v := 30) hM.x hM.b dX5_isDone_39 (by decide) ?_
      refine lv_iadd hM.x hM.b dX5_isDone_41 ?_
      refine lv_icmp_le (tgt := 47) hM.x hM.b dX5_isDone_42 (by decide) (fun c2 => ?_) (fun c2 => ?_)
      · rw [if_pos c2] at hF
        refine lv_iinc (v := nI (j + 1)) (lv' := [(3, .int (nI (j + 1))), (4, .int (κ (k + 1) (j))), (2, .int (nI (4))), (1, .ref (g.2.2 (k + 1))), (0, .ref (g.2.2 (k)))]) hM.x hM.b dX5_isDone_47 hl (k := 1) rfl (nI_1 (j)) (by decide) rfl (fun ls hl => ?_)
        refine lv_goto (tgt := 10) hM.x hM.b dX5_isDone_50 (by decide) ?_
        exact ih (j + 1) (by omega)  H locs ls (lv_sub hl [0, 2, 3, 4] rfl) hw (fun  H locs ls he hl hw => hx45  H locs ls (hF.trans he) hl hw) (fun  H locs ls he hl hw => hx53  H locs ls (hF.trans he) hl hw)
      · rw [if_neg c2] at hF
        exact hx45  H locs ls hF (lv_sub hl [4] rfl) hw
def f_X5_isDone (κ : Kp) (k : Nat) : Bool := match lp_X5_isDone κ k 4 0  with | false => (false) | true => (true)
set_option maxRecDepth 100000 in
set_option maxHeartbeats 4000000 in
theorem m_X5_isDone (l : Launch) (g : Gt) (κ : Kp) (sz : Nat) (k : Nat) (hk : kd k = 21) (hm : k ∈ g.1.2 ∧ k + 1 ∈ g.1.2) : Met l yX5_isDone (.code yX5_isDone cX5_isDone 5 (some .boolean) :: uW) { frames := 0, cells := 0, slots := 0, locals := 0 } (PRE g κ sz [.ref (g.2.2 (k))]) (va_Qi (fun r κ' => r = bi (f_X5_isDone κ k) ∧ κ' = κ) (Wp g) (fr g sz)) 0 0 (fr g sz) := by
  refine k_enter (by decide +kernel) (Nat.le_of_ble_eq_true rfl) ?_
  intro p e s m below meth c ls hM hr hl hw hsz
  subst hsz
  have hl : lv_has ls 5 [(0, .ref (g.2.2 (k)))] := hl
  have hF := f_X5_isDone.eq_1 κ k
  refine lv_aload_n hM.x hM.b dX5_isDone_0 rfl (lv_at hl 0 rfl) ?_
  refine k_get5r hM hw hk hm.1 u_fl_X5_7 dX5_isDone_1 ?_
  refine lv_astore_n (lv' := [(1, .ref (g.2.2 (k + 1))), (0, .ref (g.2.2 (k)))]) hM.x hM.b dX5_isDone_4 rfl hl (by decide) rfl (fun ls hl => ?_)
  refine lv_aload_n hM.x hM.b dX5_isDone_5 rfl (lv_at hl 0 rfl) ?_
  refine k_alen (v := nI 4) hM hw hm.2 0 (sh27 (kd21_27 hk)) rfl rfl dX5_isDone_6 ?_
  refine lv_istore_n (lv' := [(2, .int (nI (4))), (1, .ref (g.2.2 (k + 1))), (0, .ref (g.2.2 (k)))]) hM.x hM.b dX5_isDone_7 rfl hl (by decide) rfl (fun ls hl => ?_)
  refine lv_iconst (v := nI 0) hM.x hM.b dX5_isDone_8 (by decide) ?_
  refine lv_istore_n (lv' := [(3, .int (nI (0))), (2, .int (nI (4))), (1, .ref (g.2.2 (k + 1))), (0, .ref (g.2.2 (k)))]) hM.x hM.b dX5_isDone_9 rfl hl (by decide) rfl (fun ls hl => ?_)
  refine ml_X5_isDone l g κ k hk hm hM (4) (0) (by omega)  _ _ _ (lv_sub hl [0, 1, 2, 3] rfl) hw (fun  H locs ls he hl hw => ?_) (fun  H locs ls he hl hw => ?_)
  · rw [he] at hF; try dsimp only at hF
    refine lv_iconst (v := 0) hM.x hM.b dX5_isDone_45 (by decide) ?_
    exact k_zret (b := false) hM hr hw (Nat.le_of_ble_eq_true rfl) (Nat.le_of_ble_eq_true rfl) ⟨congrArg bi hF.symm, rfl⟩ dX5_isDone_46
  · rw [he] at hF; try dsimp only at hF
    refine lv_iconst (v := 1) hM.x hM.b dX5_isDone_53 (by decide) ?_
    exact k_zret (b := true) hM hr hw (Nat.le_of_ble_eq_true rfl) (Nat.le_of_ble_eq_true rfl) ⟨congrArg bi hF.symm, rfl⟩ dX5_isDone_54
theorem q_X5_isBurnt : hdV yX5_isBurnt RX5 0 := ⟨rfl, by decide +kernel, by decide +kernel, by decide +kernel⟩
def lp_X5_isBurnt (κ : Kp) (k : Nat) : Nat → Nat → Bool
  | 0, j => false
  | n + 1, j => if (κ (k + 1) (j)) ≤ (((((3) * (κ (k) 0))) + (30))) then (lp_X5_isBurnt (κ) (k) n (j + 1) ) else (true)
set_option maxRecDepth 100000 in
set_option maxHeartbeats 4000000 in
theorem ml_X5_isBurnt {p : Program} {e : Env} {s : State} {m : MethodId} {below : List Frame} {meth : Method} {c : Code} {Q : State → Prop} (l : Launch) (g : Gt) (κ : Kp) (k : Nat) (hk : kd k = 21) (hm : k ∈ g.1.2 ∧ k + 1 ∈ g.1.2) (hM : Mc g p s m ([.ref (g.2.2 (k))] : List Value).toArray meth c cX5_isBurnt 5 yX5_isBurnt.cls) : ∀ (n j : Nat), j + n = 4 → ∀ (H : Heap) (locs : List Loc) (ls : Array Slot), lv_has ls 5 [(3, .int (nI (j))), (2, .int (nI (4))), (1, .ref (g.2.2 (k + 1))), (0, .ref (g.2.2 (k)))] → Ws g s κ H locs → (∀ (H : Heap) (locs : List Loc) (ls : Array Slot), lp_X5_isBurnt κ k n j = false → lv_has ls 5 [(0, .ref (g.2.2 (k)))] → Ws g s κ H locs → W p l e { frames := 0, cells := 0, slots := 0, locals := 0 } s m ([.ref (g.2.2 (k))] : List Value).toArray below meth c H locs 0 0 Q (F0 m 42 ls [])) → (∀ (H : Heap) (locs : List Loc) (ls : Array Slot), lp_X5_isBurnt κ k n j = true → lv_has ls 5 [(0, .ref (g.2.2 (k)))] → Ws g s κ H locs → W p l e { frames := 0, cells := 0, slots := 0, locals := 0 } s m ([.ref (g.2.2 (k))] : List Value).toArray below meth c H locs 0 0 Q (F0 m 34 ls [])) → W p l e { frames := 0, cells := 0, slots := 0, locals := 0 } s m ([.ref (g.2.2 (k))] : List Value).toArray below meth c H locs 0 0 Q (F0 m 10 ls []) := by
  intro n
  induction n with
  | zero =>
    intro j hj H locs ls hl hw hx42 hx34
    have hF := Eq.refl (lp_X5_isBurnt κ k 0 j)
    conv at hF => rhs; rw [lp_X5_isBurnt]
    refine lv_iload_n hM.x hM.b dX5_isBurnt_10 rfl (lv_at hl 0 rfl) ?_
    refine lv_iload_n hM.x hM.b dX5_isBurnt_11 rfl (lv_at hl 1 rfl) ?_
    refine lv_icmp_ge (tgt := 42) hM.x hM.b dX5_isBurnt_12 (by decide) (fun _ => ?_) (fun cz => absurd (nI_le (by omega) (by omega) : nI 4 ≤ nI j) cz)
    exact hx42  H locs ls hF (lv_sub hl [3] rfl) hw
  | succ n ih =>
    intro j hj H locs ls hl hw hx42 hx34
    have hF := Eq.refl (lp_X5_isBurnt κ k (n + 1) j)
    conv at hF => rhs; rw [lp_X5_isBurnt]
    refine lv_iload_n hM.x hM.b dX5_isBurnt_10 rfl (lv_at hl 0 rfl) ?_
    refine lv_iload_n hM.x hM.b dX5_isBurnt_11 rfl (lv_at hl 1 rfl) ?_
    refine lv_icmp_ge (tgt := 42) hM.x hM.b dX5_isBurnt_12 (by decide) (fun cz => absurd cz (nI_ge (by omega) (by decide) : ¬ nI 4 ≤ nI j)) (fun _ => ?_)
    refine lv_aload_n hM.x hM.b dX5_isBurnt_15 rfl (lv_at hl 2 rfl) ?_
    refine lv_iload_n hM.x hM.b dX5_isBurnt_16 rfl (lv_at hl 0 rfl) ?_
    refine k_ialdN (i := j) (n := 4) hM hw hm.2 (sh27 (kd21_27 hk)) (by omega) (by decide) dX5_isBurnt_17 ?_
    refine lv_istore (lv' := [(4, .int (κ (k + 1) (j))), (3, .int (nI (j))), (2, .int (nI (4))), (1, .ref (g.2.2 (k + 1))), (0, .ref (g.2.2 (k)))]) hM.x hM.b dX5_isBurnt_18 hl (by decide) rfl (fun ls hl => ?_)
    refine lv_iload hM.x hM.b dX5_isBurnt_20 (lv_at hl 0 rfl) ?_
    refine lv_iconst (v := 3) hM.x hM.b dX5_isBurnt_22 (by decide) ?_
    refine lv_aload_n hM.x hM.b dX5_isBurnt_23 rfl (lv_at hl 4 rfl) ?_
    refine k_get5 0 hM hw hk hm.1 (by decide) u_fl_X5_13 dX5_isBurnt_24 ?_
    refine lv_imul hM.x hM.b dX5_isBurnt_27 ?_
    refine lv_bipush (v := 30) hM.x hM.b dX5_isBurnt_28 (by decide) ?_
    refine lv_iadd hM.x hM.b dX5_isBurnt_30 ?_
    refine lv_icmp_le (tgt := 36) hM.x hM.b dX5_isBurnt_31 (by decide) (fun c1 => ?_) (fun c1 => ?_)
    · rw [if_pos c1] at hF
      refine lv_iinc (v := nI (j + 1)) (lv' := [(3, .int (nI (j + 1))), (4, .int (κ (k + 1) (j))), (2, .int (nI (4))), (1, .ref (g.2.2 (k + 1))), (0, .ref (g.2.2 (k)))]) hM.x hM.b dX5_isBurnt_36 hl (k := 1) rfl (nI_1 (j)) (by decide) rfl (fun ls hl => ?_)
      refine lv_goto (tgt := 10) hM.x hM.b dX5_isBurnt_39 (by decide) ?_
      exact ih (j + 1) (by omega)  H locs ls (lv_sub hl [0, 2, 3, 4] rfl) hw (fun  H locs ls he hl hw => hx42  H locs ls (hF.trans he) hl hw) (fun  H locs ls he hl hw => hx34  H locs ls (hF.trans he) hl hw)
    · rw [if_neg c1] at hF
      exact hx34  H locs ls hF (lv_sub hl [4] rfl) hw
def f_X5_isBurnt (κ : Kp) (k : Nat) : Bool := match lp_X5_isBurnt κ k 4 0  with | false => (false) | true => (true)
set_option maxRecDepth 100000 in
set_option maxHeartbeats 4000000 in
theorem m_X5_isBurnt (l : Launch) (g : Gt) (κ : Kp) (sz : Nat) (k : Nat) (hk : kd k = 21) (hm : k ∈ g.1.2 ∧ k + 1 ∈ g.1.2) : Met l yX5_isBurnt (.code yX5_isBurnt cX5_isBurnt 5 (some .boolean) :: uW) { frames := 0, cells := 0, slots := 0, locals := 0 } (PRE g κ sz [.ref (g.2.2 (k))]) (va_Qi (fun r κ' => r = bi (f_X5_isBurnt κ k) ∧ κ' = κ) (Wp g) (fr g sz)) 0 0 (fr g sz) := by
  refine k_enter (by decide +kernel) (Nat.le_of_ble_eq_true rfl) ?_
  intro p e s m below meth c ls hM hr hl hw hsz
  subst hsz
  have hl : lv_has ls 5 [(0, .ref (g.2.2 (k)))] := hl
  have hF := f_X5_isBurnt.eq_1 κ k
  refine lv_aload_n hM.x hM.b dX5_isBurnt_0 rfl (lv_at hl 0 rfl) ?_
  refine k_get5r hM hw hk hm.1 u_fl_X5_7 dX5_isBurnt_1 ?_
  refine lv_astore_n (lv' := [(1, .ref (g.2.2 (k + 1))), (0, .ref (g.2.2 (k)))]) hM.x hM.b dX5_isBurnt_4 rfl hl (by decide) rfl (fun ls hl => ?_)
  refine lv_aload_n hM.x hM.b dX5_isBurnt_5 rfl (lv_at hl 0 rfl) ?_
  refine k_alen (v := nI 4) hM hw hm.2 0 (sh27 (kd21_27 hk)) rfl rfl dX5_isBurnt_6 ?_
  refine lv_istore_n (lv' := [(2, .int (nI (4))), (1, .ref (g.2.2 (k + 1))), (0, .ref (g.2.2 (k)))]) hM.x hM.b dX5_isBurnt_7 rfl hl (by decide) rfl (fun ls hl => ?_)
  refine lv_iconst (v := nI 0) hM.x hM.b dX5_isBurnt_8 (by decide) ?_
  refine lv_istore_n (lv' := [(3, .int (nI (0))), (2, .int (nI (4))), (1, .ref (g.2.2 (k + 1))), (0, .ref (g.2.2 (k)))]) hM.x hM.b dX5_isBurnt_9 rfl hl (by decide) rfl (fun ls hl => ?_)
  refine ml_X5_isBurnt l g κ k hk hm hM (4) (0) (by omega)  _ _ _ (lv_sub hl [0, 1, 2, 3] rfl) hw (fun  H locs ls he hl hw => ?_) (fun  H locs ls he hl hw => ?_)
  · rw [he] at hF; try dsimp only at hF
    refine lv_iconst (v := 0) hM.x hM.b dX5_isBurnt_42 (by decide) ?_
    exact k_zret (b := false) hM hr hw (Nat.le_of_ble_eq_true rfl) (Nat.le_of_ble_eq_true rfl) ⟨congrArg bi hF.symm, rfl⟩ dX5_isBurnt_43
  · rw [he] at hF; try dsimp only at hF
    refine lv_iconst (v := 1) hM.x hM.b dX5_isBurnt_34 (by decide) ?_
    exact k_zret (b := true) hM hr hw (Nat.le_of_ble_eq_true rfl) (Nat.le_of_ble_eq_true rfl) ⟨congrArg bi hF.symm, rfl⟩ dX5_isBurnt_35
theorem q_X5_tan : hdV yX5_tan RX5 2 := ⟨rfl, by decide +kernel, by decide +kernel, by decide +kernel⟩
def f_X5_tan (κ : Kp) (k : Nat) (a : Int32) (b : Int32) : Kp := if (((κ (k + 1) (a).toNatClampNeg) + (b))) ≤ (99) then ((fun κ1 : Kp => κ1) (up2 κ (k + 1) ((a).toNatClampNeg) (((κ (k + 1) (a).toNatClampNeg) + (b))))) else ((fun κ2 : Kp => κ2) (up2 κ (k + 1) ((a).toNatClampNeg) (99)))
set_option maxRecDepth 100000 in
set_option maxHeartbeats 4000000 in
theorem m_X5_tan (l : Launch) (g : Gt) (κ : Kp) (sz : Nat) (k : Nat) (a : Int32) (b : Int32) (hk : kd k = 21) (hm : k ∈ g.1.2 ∧ k + 1 ∈ g.1.2) (ha : vp_in a 4) : Met l yX5_tan (.code yX5_tan cX5_tan 3 none :: uW) { frames := 0, cells := 0, slots := 0, locals := 0 } (PRE g κ sz [.ref (g.2.2 (k)), .int (a), .int (b)]) (va_Qv (fun κ' => κ' = f_X5_tan κ k a b) (Wp g) (fr g sz)) 0 0 (fr g sz) := by
  refine k_enter (by decide +kernel) (Nat.le_of_ble_eq_true rfl) ?_
  intro p e s m below meth c ls hM hr hl hw hsz
  subst hsz
  have hl : lv_has ls 3 [(0, .ref (g.2.2 (k))), (1, .int (a)), (2, .int (b))] := hl
  have hF := f_X5_tan.eq_1 κ k a b
  refine lv_aload_n hM.x hM.b dX5_tan_0 rfl (lv_at hl 0 rfl) ?_
  refine k_get5r hM hw hk hm.1 u_fl_X5_7 dX5_tan_1 ?_
  refine lv_iload_n hM.x hM.b dX5_tan_4 rfl (lv_at hl 1 rfl) ?_
  refine lv_aload_n hM.x hM.b dX5_tan_5 rfl (lv_at hl 0 rfl) ?_
  refine k_get5r hM hw hk hm.1 u_fl_X5_7 dX5_tan_6 ?_
  refine lv_iload_n hM.x hM.b dX5_tan_9 rfl (lv_at hl 1 rfl) ?_
  refine k_iald (n := 4) hM hw hm.2 (sh27 (kd21_27 hk)) ha dX5_tan_10 ?_
  refine lv_iload_n hM.x hM.b dX5_tan_11 rfl (lv_at hl 2 rfl) ?_
  refine lv_iadd hM.x hM.b dX5_tan_12 ?_
  refine lv_bipush (v := 99) hM.x hM.b dX5_tan_13 (by decide) ?_
  refine lv_icmp_le (tgt := 23) hM.x hM.b dX5_tan_15 (by decide) (fun c1 => ?_) (fun c1 => ?_)
  · rw [if_pos c1] at hF
    refine lv_aload_n hM.x hM.b dX5_tan_23 rfl (lv_at hl 0 rfl) ?_
    refine k_get5r hM hw hk hm.1 u_fl_X5_7 dX5_tan_24 ?_
    refine lv_iload_n hM.x hM.b dX5_tan_27 rfl (lv_at hl 1 rfl) ?_
    refine k_iald (n := 4) hM hw hm.2 (sh27 (kd21_27 hk)) ha dX5_tan_28 ?_
    refine lv_iload_n hM.x hM.b dX5_tan_29 rfl (lv_at hl 2 rfl) ?_
    refine lv_iadd hM.x hM.b dX5_tan_30 ?_
    refine k_iast (n := 4) hM hw hm.2 (fun r => sh27 (kd21_27 hk)) ha dX5_tan_31 (fun H locs hw => ?_)
    obtain ⟨κ1, eκ1⟩ : ∃ z : Kp, up2 κ (k + 1) ((a).toNatClampNeg) (((κ (k + 1) (a).toNatClampNeg) + (b))) = z := ⟨_, rfl⟩
    rw [eκ1] at hw
    rw [eκ1] at hF
    try dsimp only at hF
    exact k_vret hM hr hw (Nat.le_of_ble_eq_true rfl) (Nat.le_of_ble_eq_true rfl) hF.symm dX5_tan_32
  · rw [if_neg c1] at hF
    refine lv_bipush (v := 99) hM.x hM.b dX5_tan_18 (by decide) ?_
    refine lv_goto (tgt := 31) hM.x hM.b dX5_tan_20 (by decide) ?_
    refine k_iast (n := 4) hM hw hm.2 (fun r => sh27 (kd21_27 hk)) ha dX5_tan_31 (fun H locs hw => ?_)
    obtain ⟨κ2, eκ2⟩ : ∃ z : Kp, up2 κ (k + 1) ((a).toNatClampNeg) (99) = z := ⟨_, rfl⟩
    rw [eκ2] at hw
    rw [eκ2] at hF
    try dsimp only at hF
    exact k_vret hM hr hw (Nat.le_of_ble_eq_true rfl) (Nat.le_of_ble_eq_true rfl) hF.symm dX5_tan_32
theorem tan_side {κ : Kp} {k : Nat} {a b : Int32} : f_X5_tan κ k a b k = κ k := by
  unfold f_X5_tan
  split
  · exact up2_row (by omega)
  · exact up2_row (by omega)
theorem sd_all : ∀ n : Nat, n < 4 → (nI n = 3 ∨ n < 3) ∧ (n < 3 → nI n + 1 = nI (n + 1)) ∧ (nI n = 0 ∨ 0 < n) ∧ (0 < n → nI n - 1 = nI (n - 1)) := by decide
theorem sd_next {x : Int32} (h : vp_in x 4) (h3 : ¬ x = 3) : vp_in (x + 1) 4 := by
  obtain ⟨n, hn, rfl⟩ := vp_in_of h (by decide)
  obtain ⟨a, b, -, -⟩ := sd_all n hn
  rcases a with a | a
  · exact absurd a h3
  · rw [b a]; exact vp_in_nI (by omega) (by decide)
theorem sd_prev {x : Int32} (h : vp_in x 4) (h3 : ¬ x = 0) : vp_in (x - 1) 4 := by
  obtain ⟨n, hn, rfl⟩ := vp_in_of h (by decide)
  obtain ⟨-, -, a, b⟩ := sd_all n hn
  rcases a with a | a
  · exact absurd a h3
  · rw [b a]; exact vp_in_nI (by omega) (by decide)
theorem q_X5_gets : hdV yX5_gets RX5 1 := ⟨rfl, by decide +kernel, by decide +kernel, by decide +kernel⟩
def f_X5_gets (κ : Kp) (k : Nat) (a : Int32) : Kp := if (κ (k) 4) ≤ 0 then ((fun κ1 : Kp => if (κ1 (k) 4) ≤ 0 then ((fun κ2 : Kp => if (κ2 (k) 2) = (3) then ((fun κ6 : Kp => if (κ6 (k) 2) = 0 then ((fun κ8 : Kp => κ8) (f_X5_tan κ6 (k) (3) (((κ6 (k) 5) / (3))))) else ((fun κ7 : Kp => κ7) (f_X5_tan κ6 (k) (((κ6 (k) 2) - (1))) (((κ6 (k) 5) / (3)))))) (f_X5_tan κ2 (k) (0) (((κ2 (k) 5) / (3))))) else ((fun κ3 : Kp => if (κ3 (k) 2) = 0 then ((fun κ5 : Kp => κ5) (f_X5_tan κ3 (k) (3) (((κ3 (k) 5) / (3))))) else ((fun κ4 : Kp => κ4) (f_X5_tan κ3 (k) (((κ3 (k) 2) - (1))) (((κ3 (k) 5) / (3)))))) (f_X5_tan κ2 (k) (((κ2 (k) 2) + (1))) (((κ2 (k) 5) / (3)))))) (f_X5_tan κ1 (k) (κ1 (k) 2) (κ1 (k) 5))) else ((fun κ9 : Kp => (fun κ10 : Kp => if (κ10 (k) 2) = (3) then ((fun κ14 : Kp => if (κ14 (k) 2) = 0 then ((fun κ16 : Kp => κ16) (f_X5_tan κ14 (k) (3) (((κ14 (k) 5) / (3))))) else ((fun κ15 : Kp => κ15) (f_X5_tan κ14 (k) (((κ14 (k) 2) - (1))) (((κ14 (k) 5) / (3)))))) (f_X5_tan κ10 (k) (0) (((κ10 (k) 5) / (3))))) else ((fun κ11 : Kp => if (κ11 (k) 2) = 0 then ((fun κ13 : Kp => κ13) (f_X5_tan κ11 (k) (3) (((κ11 (k) 5) / (3))))) else ((fun κ12 : Kp => κ12) (f_X5_tan κ11 (k) (((κ11 (k) 2) - (1))) (((κ11 (k) 5) / (3)))))) (f_X5_tan κ10 (k) (((κ10 (k) 2) + (1))) (((κ10 (k) 5) / (3)))))) (f_X5_tan κ9 (k) (κ9 (k) 2) (κ9 (k) 5))) (up2 κ1 (k) 4 (((κ1 (k) 4) - (1)))))) (up2 κ (k) 5 (a))) else (if (1) ≤ (a) then ((fun κ17 : Kp => if (κ17 (k) 4) ≤ 0 then ((fun κ18 : Kp => if (κ18 (k) 2) = (3) then ((fun κ22 : Kp => if (κ22 (k) 2) = 0 then ((fun κ24 : Kp => κ24) (f_X5_tan κ22 (k) (3) (((κ22 (k) 5) / (3))))) else ((fun κ23 : Kp => κ23) (f_X5_tan κ22 (k) (((κ22 (k) 2) - (1))) (((κ22 (k) 5) / (3)))))) (f_X5_tan κ18 (k) (0) (((κ18 (k) 5) / (3))))) else ((fun κ19 : Kp => if (κ19 (k) 2) = 0 then ((fun κ21 : Kp => κ21) (f_X5_tan κ19 (k) (3) (((κ19 (k) 5) / (3))))) else ((fun κ20 : Kp => κ20) (f_X5_tan κ19 (k) (((κ19 (k) 2) - (1))) (((κ19 (k) 5) / (3)))))) (f_X5_tan κ18 (k) (((κ18 (k) 2) + (1))) (((κ18 (k) 5) / (3)))))) (f_X5_tan κ17 (k) (κ17 (k) 2) (κ17 (k) 5))) else ((fun κ25 : Kp => (fun κ26 : Kp => if (κ26 (k) 2) = (3) then ((fun κ30 : Kp => if (κ30 (k) 2) = 0 then ((fun κ32 : Kp => κ32) (f_X5_tan κ30 (k) (3) (((κ30 (k) 5) / (3))))) else ((fun κ31 : Kp => κ31) (f_X5_tan κ30 (k) (((κ30 (k) 2) - (1))) (((κ30 (k) 5) / (3)))))) (f_X5_tan κ26 (k) (0) (((κ26 (k) 5) / (3))))) else ((fun κ27 : Kp => if (κ27 (k) 2) = 0 then ((fun κ29 : Kp => κ29) (f_X5_tan κ27 (k) (3) (((κ27 (k) 5) / (3))))) else ((fun κ28 : Kp => κ28) (f_X5_tan κ27 (k) (((κ27 (k) 2) - (1))) (((κ27 (k) 5) / (3)))))) (f_X5_tan κ26 (k) (((κ26 (k) 2) + (1))) (((κ26 (k) 5) / (3)))))) (f_X5_tan κ25 (k) (κ25 (k) 2) (κ25 (k) 5))) (up2 κ17 (k) 4 (((κ17 (k) 4) - (1)))))) (up2 κ (k) 5 (((a) - (1))))) else ((fun κ33 : Kp => if (κ33 (k) 4) ≤ 0 then ((fun κ34 : Kp => if (κ34 (k) 2) = (3) then ((fun κ38 : Kp => if (κ38 (k) 2) = 0 then ((fun κ40 : Kp => κ40) (f_X5_tan κ38 (k) (3) (((κ38 (k) 5) / (3))))) else ((fun κ39 : Kp => κ39) (f_X5_tan κ38 (k) (((κ38 (k) 2) - (1))) (((κ38 (k) 5) / (3)))))) (f_X5_tan κ34 (k) (0) (((κ34 (k) 5) / (3))))) else ((fun κ35 : Kp => if (κ35 (k) 2) = 0 then ((fun κ37 : Kp => κ37) (f_X5_tan κ35 (k) (3) (((κ35 (k) 5) / (3))))) else ((fun κ36 : Kp => κ36) (f_X5_tan κ35 (k) (((κ35 (k) 2) - (1))) (((κ35 (k) 5) / (3)))))) (f_X5_tan κ34 (k) (((κ34 (k) 2) + (1))) (((κ34 (k) 5) / (3)))))) (f_X5_tan κ33 (k) (κ33 (k) 2) (κ33 (k) 5))) else ((fun κ41 : Kp => (fun κ42 : Kp => if (κ42 (k) 2) = (3) then ((fun κ46 : Kp => if (κ46 (k) 2) = 0 then ((fun κ48 : Kp => κ48) (f_X5_tan κ46 (k) (3) (((κ46 (k) 5) / (3))))) else ((fun κ47 : Kp => κ47) (f_X5_tan κ46 (k) (((κ46 (k) 2) - (1))) (((κ46 (k) 5) / (3)))))) (f_X5_tan κ42 (k) (0) (((κ42 (k) 5) / (3))))) else ((fun κ43 : Kp => if (κ43 (k) 2) = 0 then ((fun κ45 : Kp => κ45) (f_X5_tan κ43 (k) (3) (((κ43 (k) 5) / (3))))) else ((fun κ44 : Kp => κ44) (f_X5_tan κ43 (k) (((κ43 (k) 2) - (1))) (((κ43 (k) 5) / (3)))))) (f_X5_tan κ42 (k) (((κ42 (k) 2) + (1))) (((κ42 (k) 5) / (3)))))) (f_X5_tan κ41 (k) (κ41 (k) 2) (κ41 (k) 5))) (up2 κ33 (k) 4 (((κ33 (k) 4) - (1)))))) (up2 κ (k) 5 (0))))
set_option maxRecDepth 100000 in
set_option maxHeartbeats 4000000 in
theorem m_X5_gets (l : Launch) (g : Gt) (κ : Kp) (sz : Nat) (k : Nat) (a : Int32) (hk : kd k = 21) (hm : k ∈ g.1.2 ∧ k + 1 ∈ g.1.2) (hsd : vp_in (κ k 2) 4) : Met l yX5_gets (.code yX5_gets cX5_gets 2 none :: uW) { frames := 1, cells := 0, slots := 0, locals := 30 } (PRE g κ sz [.ref (g.2.2 (k)), .int (a)]) (va_Qv (fun κ' => κ' = f_X5_gets κ k a) (Wp g) (fr g sz)) 0 0 (fr g sz) := by
  refine k_enter (by decide +kernel) (Nat.le_of_ble_eq_true rfl) ?_
  intro p e s m below meth c ls hM hr hl hw hsz
  subst hsz
  have hl : lv_has ls 2 [(0, .ref (g.2.2 (k))), (1, .int (a))] := hl
  have hF := f_X5_gets.eq_1 κ k a
  refine lv_aload_n hM.x hM.b dX5_gets_0 rfl (lv_at hl 0 rfl) ?_
  refine lv_aload_n hM.x hM.b dX5_gets_1 rfl (lv_at hl 0 rfl) ?_
  refine k_get5 4 hM hw hk hm.1 (by decide) u_fl_X5_17 dX5_gets_2 ?_
  refine lv_if_le (tgt := 23) hM.x hM.b dX5_gets_5 (by decide) (fun c1 => ?_) (fun c1 => ?_)
  · rw [if_pos c1] at hF
    refine lv_iload_n hM.x hM.b dX5_gets_23 rfl (lv_at hl 1 rfl) ?_
    refine k_put5 5 hM hw hk hm.1 (by decide) u_fl_X5_20 dX5_gets_24 (fun H locs hw => ?_)
    obtain ⟨κ1, eκ1⟩ : ∃ z : Kp, up2 κ (k) 5 (a) = z := ⟨_, rfl⟩
    rw [eκ1] at hw
    rw [eκ1] at hF
    try dsimp only at hF
    refine lv_aload_n hM.x hM.b dX5_gets_27 rfl (lv_at hl 0 rfl) ?_
    refine k_get5 4 hM hw hk hm.1 (by decide) u_fl_X5_17 dX5_gets_28 ?_
    refine lv_if_le (tgt := 44) hM.x hM.b dX5_gets_31 (by decide) (fun c2 => ?_) (fun c2 => ?_)
    · rw [if_pos c2] at hF
      refine lv_aload_n hM.x hM.b dX5_gets_44 rfl (lv_at hl 0 rfl) ?_
      refine lv_aload_n hM.x hM.b dX5_gets_45 rfl (lv_at hl 0 rfl) ?_
      refine k_get5 2 hM hw hk hm.1 (by decide) u_fl_X5_23 dX5_gets_46 ?_
      refine lv_aload_n hM.x hM.b dX5_gets_49 rfl (lv_at hl 0 rfl) ?_
      refine k_get5 5 hM hw hk hm.1 (by decide) u_fl_X5_20 dX5_gets_50 ?_
      refine k_cvp hw (k_runV [.int (κ1 (k) 2), .int (κ1 (k) 5)] [] hM hw (m_X5_tan l g κ1 _ (k) (κ1 (k) 2) (κ1 (k) 5) (hk) hm ((by rw [← eκ1, up2_ne _ _ (Or.inr (by decide))]; exact hsd))) hm.1 (sh21 hk) rfl (k_gV u_ml_X5_26 u_im_X5_tan u_se_X5_tan u_ini_X5 u_co_X5_tan) (q_X5_tan) rfl rfl rfl ⟨Nat.le_of_ble_eq_true rfl, Nat.le_of_ble_eq_true rfl⟩ hl.1 rfl (Nat.le_of_ble_eq_true rfl) dX5_gets_53 ⟨Nat.le_of_ble_eq_true rfl, Nat.le_of_ble_eq_true rfl⟩) (fun κ2 H locs eκ2 hw => ?_)
      rw [eκ2] at hF
      try dsimp only at hF
      refine lv_aload_n hM.x hM.b dX5_gets_56 rfl (lv_at hl 0 rfl) ?_
      refine lv_aload_n hM.x hM.b dX5_gets_57 rfl (lv_at hl 0 rfl) ?_
      refine k_get5 2 hM hw hk hm.1 (by decide) u_fl_X5_23 dX5_gets_58 ?_
      refine lv_iconst (v := 3) hM.x hM.b dX5_gets_61 (by decide) ?_
      refine lv_icmp_ne (tgt := 69) hM.x hM.b dX5_gets_62 (by decide) (fun c3 => ?_) (fun c3 => ?_)
      · rw [if_neg c3] at hF
        refine lv_aload_n hM.x hM.b dX5_gets_69 rfl (lv_at hl 0 rfl) ?_
        refine k_get5 2 hM hw hk hm.1 (by decide) u_fl_X5_23 dX5_gets_70 ?_
        refine lv_iconst (v := 1) hM.x hM.b dX5_gets_73 (by decide) ?_
        refine lv_iadd hM.x hM.b dX5_gets_74 ?_
        refine lv_aload_n hM.x hM.b dX5_gets_75 rfl (lv_at hl 0 rfl) ?_
        refine k_get5 5 hM hw hk hm.1 (by decide) u_fl_X5_20 dX5_gets_76 ?_
        refine lv_iconst (v := 3) hM.x hM.b dX5_gets_79 (by decide) ?_
        refine lv_idiv hM.x hM.b dX5_gets_80 (by decide) ?_
        refine k_cvp hw (k_runV [.int (((κ2 (k) 2) + (1))), .int (((κ2 (k) 5) / (3)))] [] hM hw (m_X5_tan l g κ2 _ (k) (((κ2 (k) 2) + (1))) (((κ2 (k) 5) / (3))) (hk) hm (sd_next (by rw [← eκ2, tan_side]; exact (by rw [← eκ1, up2_ne _ _ (Or.inr (by decide))]; exact hsd)) c3)) hm.1 (sh21 hk) rfl (k_gV u_ml_X5_26 u_im_X5_tan u_se_X5_tan u_ini_X5 u_co_X5_tan) (q_X5_tan) rfl rfl rfl ⟨Nat.le_of_ble_eq_true rfl, Nat.le_of_ble_eq_true rfl⟩ hl.1 rfl (Nat.le_of_ble_eq_true rfl) dX5_gets_81 ⟨Nat.le_of_ble_eq_true rfl, Nat.le_of_ble_eq_true rfl⟩) (fun κ3 H locs eκ3 hw => ?_)
        rw [eκ3] at hF
        try dsimp only at hF
        refine lv_aload_n hM.x hM.b dX5_gets_84 rfl (lv_at hl 0 rfl) ?_
        refine lv_aload_n hM.x hM.b dX5_gets_85 rfl (lv_at hl 0 rfl) ?_
        refine k_get5 2 hM hw hk hm.1 (by decide) u_fl_X5_23 dX5_gets_86 ?_
        refine lv_if_ne (tgt := 96) hM.x hM.b dX5_gets_89 (by decide) (fun c4 => ?_) (fun c4 => ?_)
        · rw [if_neg c4] at hF
          refine lv_aload_n hM.x hM.b dX5_gets_96 rfl (lv_at hl 0 rfl) ?_
          refine k_get5 2 hM hw hk hm.1 (by decide) u_fl_X5_23 dX5_gets_97 ?_
          refine lv_iconst (v := 1) hM.x hM.b dX5_gets_100 (by decide) ?_
          refine lv_isub hM.x hM.b dX5_gets_101 ?_
          refine lv_aload_n hM.x hM.b dX5_gets_102 rfl (lv_at hl 0 rfl) ?_
          refine k_get5 5 hM hw hk hm.1 (by decide) u_fl_X5_20 dX5_gets_103 ?_
          refine lv_iconst (v := 3) hM.x hM.b dX5_gets_106 (by decide) ?_
          refine lv_idiv hM.x hM.b dX5_gets_107 (by decide) ?_
          refine k_cvp hw (k_runV [.int (((κ3 (k) 2) - (1))), .int (((κ3 (k) 5) / (3)))] [] hM hw (m_X5_tan l g κ3 _ (k) (((κ3 (k) 2) - (1))) (((κ3 (k) 5) / (3))) (hk) hm (sd_prev (by rw [← eκ3, tan_side]; exact (by rw [← eκ2, tan_side]; exact (by rw [← eκ1, up2_ne _ _ (Or.inr (by decide))]; exact hsd))) c4)) hm.1 (sh21 hk) rfl (k_gV u_ml_X5_26 u_im_X5_tan u_se_X5_tan u_ini_X5 u_co_X5_tan) (q_X5_tan) rfl rfl rfl ⟨Nat.le_of_ble_eq_true rfl, Nat.le_of_ble_eq_true rfl⟩ hl.1 rfl (Nat.le_of_ble_eq_true rfl) dX5_gets_108 ⟨Nat.le_of_ble_eq_true rfl, Nat.le_of_ble_eq_true rfl⟩) (fun κ4 H locs eκ4 hw => ?_)
          rw [eκ4] at hF
          try dsimp only at hF
          exact k_vret hM hr hw (Nat.le_of_ble_eq_true rfl) (Nat.le_of_ble_eq_true rfl) hF.symm dX5_gets_111
        · rw [if_pos c4] at hF
          refine lv_iconst (v := 3) hM.x hM.b dX5_gets_92 (by decide) ?_
          refine lv_goto (tgt := 102) hM.x hM.b dX5_gets_93 (by decide) ?_
          refine lv_aload_n hM.x hM.b dX5_gets_102 rfl (lv_at hl 0 rfl) ?_
          refine k_get5 5 hM hw hk hm.1 (by decide) u_fl_X5_20 dX5_gets_103 ?_
          refine lv_iconst (v := 3) hM.x hM.b dX5_gets_106 (by decide) ?_
          refine lv_idiv hM.x hM.b dX5_gets_107 (by decide) ?_
          refine k_cvp hw (k_runV [.int (3), .int (((κ3 (k) 5) / (3)))] [] hM hw (m_X5_tan l g κ3 _ (k) (3) (((κ3 (k) 5) / (3))) (hk) hm (vin_lit (by decide) : vp_in 3 4)) hm.1 (sh21 hk) rfl (k_gV u_ml_X5_26 u_im_X5_tan u_se_X5_tan u_ini_X5 u_co_X5_tan) (q_X5_tan) rfl rfl rfl ⟨Nat.le_of_ble_eq_true rfl, Nat.le_of_ble_eq_true rfl⟩ hl.1 rfl (Nat.le_of_ble_eq_true rfl) dX5_gets_108 ⟨Nat.le_of_ble_eq_true rfl, Nat.le_of_ble_eq_true rfl⟩) (fun κ5 H locs eκ5 hw => ?_)
          rw [eκ5] at hF
          try dsimp only at hF
          exact k_vret hM hr hw (Nat.le_of_ble_eq_true rfl) (Nat.le_of_ble_eq_true rfl) hF.symm dX5_gets_111
      · rw [if_pos c3] at hF
        refine lv_iconst (v := 0) hM.x hM.b dX5_gets_65 (by decide) ?_
        refine lv_goto (tgt := 75) hM.x hM.b dX5_gets_66 (by decide) ?_
        refine lv_aload_n hM.x hM.b dX5_gets_75 rfl (lv_at hl 0 rfl) ?_
        refine k_get5 5 hM hw hk hm.1 (by decide) u_fl_X5_20 dX5_gets_76 ?_
        refine lv_iconst (v := 3) hM.x hM.b dX5_gets_79 (by decide) ?_
        refine lv_idiv hM.x hM.b dX5_gets_80 (by decide) ?_
        refine k_cvp hw (k_runV [.int (0), .int (((κ2 (k) 5) / (3)))] [] hM hw (m_X5_tan l g κ2 _ (k) (0) (((κ2 (k) 5) / (3))) (hk) hm (vin_lit (by decide) : vp_in 0 4)) hm.1 (sh21 hk) rfl (k_gV u_ml_X5_26 u_im_X5_tan u_se_X5_tan u_ini_X5 u_co_X5_tan) (q_X5_tan) rfl rfl rfl ⟨Nat.le_of_ble_eq_true rfl, Nat.le_of_ble_eq_true rfl⟩ hl.1 rfl (Nat.le_of_ble_eq_true rfl) dX5_gets_81 ⟨Nat.le_of_ble_eq_true rfl, Nat.le_of_ble_eq_true rfl⟩) (fun κ6 H locs eκ6 hw => ?_)
        rw [eκ6] at hF
        try dsimp only at hF
        refine lv_aload_n hM.x hM.b dX5_gets_84 rfl (lv_at hl 0 rfl) ?_
        refine lv_aload_n hM.x hM.b dX5_gets_85 rfl (lv_at hl 0 rfl) ?_
        refine k_get5 2 hM hw hk hm.1 (by decide) u_fl_X5_23 dX5_gets_86 ?_
        refine lv_if_ne (tgt := 96) hM.x hM.b dX5_gets_89 (by decide) (fun c5 => ?_) (fun c5 => ?_)
        · rw [if_neg c5] at hF
          refine lv_aload_n hM.x hM.b dX5_gets_96 rfl (lv_at hl 0 rfl) ?_
          refine k_get5 2 hM hw hk hm.1 (by decide) u_fl_X5_23 dX5_gets_97 ?_
          refine lv_iconst (v := 1) hM.x hM.b dX5_gets_100 (by decide) ?_
          refine lv_isub hM.x hM.b dX5_gets_101 ?_
          refine lv_aload_n hM.x hM.b dX5_gets_102 rfl (lv_at hl 0 rfl) ?_
          refine k_get5 5 hM hw hk hm.1 (by decide) u_fl_X5_20 dX5_gets_103 ?_
          refine lv_iconst (v := 3) hM.x hM.b dX5_gets_106 (by decide) ?_
          refine lv_idiv hM.x hM.b dX5_gets_107 (by decide) ?_
          refine k_cvp hw (k_runV [.int (((κ6 (k) 2) - (1))), .int (((κ6 (k) 5) / (3)))] [] hM hw (m_X5_tan l g κ6 _ (k) (((κ6 (k) 2) - (1))) (((κ6 (k) 5) / (3))) (hk) hm (sd_prev (by rw [← eκ6, tan_side]; exact (by rw [← eκ2, tan_side]; exact (by rw [← eκ1, up2_ne _ _ (Or.inr (by decide))]; exact hsd))) c5)) hm.1 (sh21 hk) rfl (k_gV u_ml_X5_26 u_im_X5_tan u_se_X5_tan u_ini_X5 u_co_X5_tan) (q_X5_tan) rfl rfl rfl ⟨Nat.le_of_ble_eq_true rfl, Nat.le_of_ble_eq_true rfl⟩ hl.1 rfl (Nat.le_of_ble_eq_true rfl) dX5_gets_108 ⟨Nat.le_of_ble_eq_true rfl, Nat.le_of_ble_eq_true rfl⟩) (fun κ7 H locs eκ7 hw => ?_)
          rw [eκ7] at hF
          try dsimp only at hF
          exact k_vret hM hr hw (Nat.le_of_ble_eq_true rfl) (Nat.le_of_ble_eq_true rfl) hF.symm dX5_gets_111
        · rw [if_pos c5] at hF
          refine lv_iconst (v := 3) hM.x hM.b dX5_gets_92 (by decide) ?_
          refine lv_goto (tgt := 102) hM.x hM.b dX5_gets_93 (by decide) ?_
          refine lv_aload_n hM.x hM.b dX5_gets_102 rfl (lv_at hl 0 rfl) ?_
          refine k_get5 5 hM hw hk hm.1 (by decide) u_fl_X5_20 dX5_gets_103 ?_
          refine lv_iconst (v := 3) hM.x hM.b dX5_gets_106 (by decide) ?_
          refine lv_idiv hM.x hM.b dX5_gets_107 (by decide) ?_
          refine k_cvp hw (k_runV [.int (3), .int (((κ6 (k) 5) / (3)))] [] hM hw (m_X5_tan l g κ6 _ (k) (3) (((κ6 (k) 5) / (3))) (hk) hm (vin_lit (by decide) : vp_in 3 4)) hm.1 (sh21 hk) rfl (k_gV u_ml_X5_26 u_im_X5_tan u_se_X5_tan u_ini_X5 u_co_X5_tan) (q_X5_tan) rfl rfl rfl ⟨Nat.le_of_ble_eq_true rfl, Nat.le_of_ble_eq_true rfl⟩ hl.1 rfl (Nat.le_of_ble_eq_true rfl) dX5_gets_108 ⟨Nat.le_of_ble_eq_true rfl, Nat.le_of_ble_eq_true rfl⟩) (fun κ8 H locs eκ8 hw => ?_)
          rw [eκ8] at hF
          try dsimp only at hF
          exact k_vret hM hr hw (Nat.le_of_ble_eq_true rfl) (Nat.le_of_ble_eq_true rfl) hF.symm dX5_gets_111
    · rw [if_neg c2] at hF
      refine lv_aload_n hM.x hM.b dX5_gets_34 rfl (lv_at hl 0 rfl) ?_
      refine lv_dup hM.x hM.b dX5_gets_35 rfl ?_
      refine k_get5 4 hM hw hk hm.1 (by decide) u_fl_X5_17 dX5_gets_36 ?_
      refine lv_iconst (v := 1) hM.x hM.b dX5_gets_39 (by decide) ?_
      refine lv_isub hM.x hM.b dX5_gets_40 ?_
      refine k_put5 4 hM hw hk hm.1 (by decide) u_fl_X5_17 dX5_gets_41 (fun H locs hw => ?_)
      obtain ⟨κ9, eκ9⟩ : ∃ z : Kp, up2 κ1 (k) 4 (((κ1 (k) 4) - (1))) = z := ⟨_, rfl⟩
      rw [eκ9] at hw
      rw [eκ9] at hF
      try dsimp only at hF
      refine lv_aload_n hM.x hM.b dX5_gets_44 rfl (lv_at hl 0 rfl) ?_
      refine lv_aload_n hM.x hM.b dX5_gets_45 rfl (lv_at hl 0 rfl) ?_
      refine k_get5 2 hM hw hk hm.1 (by decide) u_fl_X5_23 dX5_gets_46 ?_
      refine lv_aload_n hM.x hM.b dX5_gets_49 rfl (lv_at hl 0 rfl) ?_
      refine k_get5 5 hM hw hk hm.1 (by decide) u_fl_X5_20 dX5_gets_50 ?_
      refine k_cvp hw (k_runV [.int (κ9 (k) 2), .int (κ9 (k) 5)] [] hM hw (m_X5_tan l g κ9 _ (k) (κ9 (k) 2) (κ9 (k) 5) (hk) hm ((by rw [← eκ9, up2_ne _ _ (Or.inr (by decide))]; exact (by rw [← eκ1, up2_ne _ _ (Or.inr (by decide))]; exact hsd)))) hm.1 (sh21 hk) rfl (k_gV u_ml_X5_26 u_im_X5_tan u_se_X5_tan u_ini_X5 u_co_X5_tan) (q_X5_tan) rfl rfl rfl ⟨Nat.le_of_ble_eq_true rfl, Nat.le_of_ble_eq_true rfl⟩ hl.1 rfl (Nat.le_of_ble_eq_true rfl) dX5_gets_53 ⟨Nat.le_of_ble_eq_true rfl, Nat.le_of_ble_eq_true rfl⟩) (fun κ10 H locs eκ10 hw => ?_)
      rw [eκ10] at hF
      try dsimp only at hF
      refine lv_aload_n hM.x hM.b dX5_gets_56 rfl (lv_at hl 0 rfl) ?_
      refine lv_aload_n hM.x hM.b dX5_gets_57 rfl (lv_at hl 0 rfl) ?_
      refine k_get5 2 hM hw hk hm.1 (by decide) u_fl_X5_23 dX5_gets_58 ?_
      refine lv_iconst (v := 3) hM.x hM.b dX5_gets_61 (by decide) ?_
      refine lv_icmp_ne (tgt := 69) hM.x hM.b dX5_gets_62 (by decide) (fun c6 => ?_) (fun c6 => ?_)
      · rw [if_neg c6] at hF
        refine lv_aload_n hM.x hM.b dX5_gets_69 rfl (lv_at hl 0 rfl) ?_
        refine k_get5 2 hM hw hk hm.1 (by decide) u_fl_X5_23 dX5_gets_70 ?_
        refine lv_iconst (v := 1) hM.x hM.b dX5_gets_73 (by decide) ?_
        refine lv_iadd hM.x hM.b dX5_gets_74 ?_
        refine lv_aload_n hM.x hM.b dX5_gets_75 rfl (lv_at hl 0 rfl) ?_
        refine k_get5 5 hM hw hk hm.1 (by decide) u_fl_X5_20 dX5_gets_76 ?_
        refine lv_iconst (v := 3) hM.x hM.b dX5_gets_79 (by decide) ?_
        refine lv_idiv hM.x hM.b dX5_gets_80 (by decide) ?_
        refine k_cvp hw (k_runV [.int (((κ10 (k) 2) + (1))), .int (((κ10 (k) 5) / (3)))] [] hM hw (m_X5_tan l g κ10 _ (k) (((κ10 (k) 2) + (1))) (((κ10 (k) 5) / (3))) (hk) hm (sd_next (by rw [← eκ10, tan_side]; exact (by rw [← eκ9, up2_ne _ _ (Or.inr (by decide))]; exact (by rw [← eκ1, up2_ne _ _ (Or.inr (by decide))]; exact hsd))) c6)) hm.1 (sh21 hk) rfl (k_gV u_ml_X5_26 u_im_X5_tan u_se_X5_tan u_ini_X5 u_co_X5_tan) (q_X5_tan) rfl rfl rfl ⟨Nat.le_of_ble_eq_true rfl, Nat.le_of_ble_eq_true rfl⟩ hl.1 rfl (Nat.le_of_ble_eq_true rfl) dX5_gets_81 ⟨Nat.le_of_ble_eq_true rfl, Nat.le_of_ble_eq_true rfl⟩) (fun κ11 H locs eκ11 hw => ?_)
        rw [eκ11] at hF
        try dsimp only at hF
        refine lv_aload_n hM.x hM.b dX5_gets_84 rfl (lv_at hl 0 rfl) ?_
        refine lv_aload_n hM.x hM.b dX5_gets_85 rfl (lv_at hl 0 rfl) ?_
        refine k_get5 2 hM hw hk hm.1 (by decide) u_fl_X5_23 dX5_gets_86 ?_
        refine lv_if_ne (tgt := 96) hM.x hM.b dX5_gets_89 (by decide) (fun c7 => ?_) (fun c7 => ?_)
        · rw [if_neg c7] at hF
          refine lv_aload_n hM.x hM.b dX5_gets_96 rfl (lv_at hl 0 rfl) ?_
          refine k_get5 2 hM hw hk hm.1 (by decide) u_fl_X5_23 dX5_gets_97 ?_
          refine lv_iconst (v := 1) hM.x hM.b dX5_gets_100 (by decide) ?_
          refine lv_isub hM.x hM.b dX5_gets_101 ?_
          refine lv_aload_n hM.x hM.b dX5_gets_102 rfl (lv_at hl 0 rfl) ?_
          refine k_get5 5 hM hw hk hm.1 (by decide) u_fl_X5_20 dX5_gets_103 ?_
          refine lv_iconst (v := 3) hM.x hM.b dX5_gets_106 (by decide) ?_
          refine lv_idiv hM.x hM.b dX5_gets_107 (by decide) ?_
          refine k_cvp hw (k_runV [.int (((κ11 (k) 2) - (1))), .int (((κ11 (k) 5) / (3)))] [] hM hw (m_X5_tan l g κ11 _ (k) (((κ11 (k) 2) - (1))) (((κ11 (k) 5) / (3))) (hk) hm (sd_prev (by rw [← eκ11, tan_side]; exact (by rw [← eκ10, tan_side]; exact (by rw [← eκ9, up2_ne _ _ (Or.inr (by decide))]; exact (by rw [← eκ1, up2_ne _ _ (Or.inr (by decide))]; exact hsd)))) c7)) hm.1 (sh21 hk) rfl (k_gV u_ml_X5_26 u_im_X5_tan u_se_X5_tan u_ini_X5 u_co_X5_tan) (q_X5_tan) rfl rfl rfl ⟨Nat.le_of_ble_eq_true rfl, Nat.le_of_ble_eq_true rfl⟩ hl.1 rfl (Nat.le_of_ble_eq_true rfl) dX5_gets_108 ⟨Nat.le_of_ble_eq_true rfl, Nat.le_of_ble_eq_true rfl⟩) (fun κ12 H locs eκ12 hw => ?_)
          rw [eκ12] at hF
          try dsimp only at hF
          exact k_vret hM hr hw (Nat.le_of_ble_eq_true rfl) (Nat.le_of_ble_eq_true rfl) hF.symm dX5_gets_111
        · rw [if_pos c7] at hF
          refine lv_iconst (v := 3) hM.x hM.b dX5_gets_92 (by decide) ?_
          refine lv_goto (tgt := 102) hM.x hM.b dX5_gets_93 (by decide) ?_
          refine lv_aload_n hM.x hM.b dX5_gets_102 rfl (lv_at hl 0 rfl) ?_
          refine k_get5 5 hM hw hk hm.1 (by decide) u_fl_X5_20 dX5_gets_103 ?_
          refine lv_iconst (v := 3) hM.x hM.b dX5_gets_106 (by decide) ?_
          refine lv_idiv hM.x hM.b dX5_gets_107 (by decide) ?_
          refine k_cvp hw (k_runV [.int (3), .int (((κ11 (k) 5) / (3)))] [] hM hw (m_X5_tan l g κ11 _ (k) (3) (((κ11 (k) 5) / (3))) (hk) hm (vin_lit (by decide) : vp_in 3 4)) hm.1 (sh21 hk) rfl (k_gV u_ml_X5_26 u_im_X5_tan u_se_X5_tan u_ini_X5 u_co_X5_tan) (q_X5_tan) rfl rfl rfl ⟨Nat.le_of_ble_eq_true rfl, Nat.le_of_ble_eq_true rfl⟩ hl.1 rfl (Nat.le_of_ble_eq_true rfl) dX5_gets_108 ⟨Nat.le_of_ble_eq_true rfl, Nat.le_of_ble_eq_true rfl⟩) (fun κ13 H locs eκ13 hw => ?_)
          rw [eκ13] at hF
          try dsimp only at hF
          exact k_vret hM hr hw (Nat.le_of_ble_eq_true rfl) (Nat.le_of_ble_eq_true rfl) hF.symm dX5_gets_111
      · rw [if_pos c6] at hF
        refine lv_iconst (v := 0) hM.x hM.b dX5_gets_65 (by decide) ?_
        refine lv_goto (tgt := 75) hM.x hM.b dX5_gets_66 (by decide) ?_
        refine lv_aload_n hM.x hM.b dX5_gets_75 rfl (lv_at hl 0 rfl) ?_
        refine k_get5 5 hM hw hk hm.1 (by decide) u_fl_X5_20 dX5_gets_76 ?_
        refine lv_iconst (v := 3) hM.x hM.b dX5_gets_79 (by decide) ?_
        refine lv_idiv hM.x hM.b dX5_gets_80 (by decide) ?_
        refine k_cvp hw (k_runV [.int (0), .int (((κ10 (k) 5) / (3)))] [] hM hw (m_X5_tan l g κ10 _ (k) (0) (((κ10 (k) 5) / (3))) (hk) hm (vin_lit (by decide) : vp_in 0 4)) hm.1 (sh21 hk) rfl (k_gV u_ml_X5_26 u_im_X5_tan u_se_X5_tan u_ini_X5 u_co_X5_tan) (q_X5_tan) rfl rfl rfl ⟨Nat.le_of_ble_eq_true rfl, Nat.le_of_ble_eq_true rfl⟩ hl.1 rfl (Nat.le_of_ble_eq_true rfl) dX5_gets_81 ⟨Nat.le_of_ble_eq_true rfl, Nat.le_of_ble_eq_true rfl⟩) (fun κ14 H locs eκ14 hw => ?_)
        rw [eκ14] at hF
        try dsimp only at hF
        refine lv_aload_n hM.x hM.b dX5_gets_84 rfl (lv_at hl 0 rfl) ?_
        refine lv_aload_n hM.x hM.b dX5_gets_85 rfl (lv_at hl 0 rfl) ?_
        refine k_get5 2 hM hw hk hm.1 (by decide) u_fl_X5_23 dX5_gets_86 ?_
        refine lv_if_ne (tgt := 96) hM.x hM.b dX5_gets_89 (by decide) (fun c8 => ?_) (fun c8 => ?_)
        · rw [if_neg c8] at hF
          refine lv_aload_n hM.x hM.b dX5_gets_96 rfl (lv_at hl 0 rfl) ?_
          refine k_get5 2 hM hw hk hm.1 (by decide) u_fl_X5_23 dX5_gets_97 ?_
          refine lv_iconst (v := 1) hM.x hM.b dX5_gets_100 (by decide) ?_
          refine lv_isub hM.x hM.b dX5_gets_101 ?_
          refine lv_aload_n hM.x hM.b dX5_gets_102 rfl (lv_at hl 0 rfl) ?_
          refine k_get5 5 hM hw hk hm.1 (by decide) u_fl_X5_20 dX5_gets_103 ?_
          refine lv_iconst (v := 3) hM.x hM.b dX5_gets_106 (by decide) ?_
          refine lv_idiv hM.x hM.b dX5_gets_107 (by decide) ?_
          refine k_cvp hw (k_runV [.int (((κ14 (k) 2) - (1))), .int (((κ14 (k) 5) / (3)))] [] hM hw (m_X5_tan l g κ14 _ (k) (((κ14 (k) 2) - (1))) (((κ14 (k) 5) / (3))) (hk) hm (sd_prev (by rw [← eκ14, tan_side]; exact (by rw [← eκ10, tan_side]; exact (by rw [← eκ9, up2_ne _ _ (Or.inr (by decide))]; exact (by rw [← eκ1, up2_ne _ _ (Or.inr (by decide))]; exact hsd)))) c8)) hm.1 (sh21 hk) rfl (k_gV u_ml_X5_26 u_im_X5_tan u_se_X5_tan u_ini_X5 u_co_X5_tan) (q_X5_tan) rfl rfl rfl ⟨Nat.le_of_ble_eq_true rfl, Nat.le_of_ble_eq_true rfl⟩ hl.1 rfl (Nat.le_of_ble_eq_true rfl) dX5_gets_108 ⟨Nat.le_of_ble_eq_true rfl, Nat.le_of_ble_eq_true rfl⟩) (fun κ15 H locs eκ15 hw => ?_)
          rw [eκ15] at hF
          try dsimp only at hF
          exact k_vret hM hr hw (Nat.le_of_ble_eq_true rfl) (Nat.le_of_ble_eq_true rfl) hF.symm dX5_gets_111
        · rw [if_pos c8] at hF
          refine lv_iconst (v := 3) hM.x hM.b dX5_gets_92 (by decide) ?_
          refine lv_goto (tgt := 102) hM.x hM.b dX5_gets_93 (by decide) ?_
          refine lv_aload_n hM.x hM.b dX5_gets_102 rfl (lv_at hl 0 rfl) ?_
          refine k_get5 5 hM hw hk hm.1 (by decide) u_fl_X5_20 dX5_gets_103 ?_
          refine lv_iconst (v := 3) hM.x hM.b dX5_gets_106 (by decide) ?_
          refine lv_idiv hM.x hM.b dX5_gets_107 (by decide) ?_
          refine k_cvp hw (k_runV [.int (3), .int (((κ14 (k) 5) / (3)))] [] hM hw (m_X5_tan l g κ14 _ (k) (3) (((κ14 (k) 5) / (3))) (hk) hm (vin_lit (by decide) : vp_in 3 4)) hm.1 (sh21 hk) rfl (k_gV u_ml_X5_26 u_im_X5_tan u_se_X5_tan u_ini_X5 u_co_X5_tan) (q_X5_tan) rfl rfl rfl ⟨Nat.le_of_ble_eq_true rfl, Nat.le_of_ble_eq_true rfl⟩ hl.1 rfl (Nat.le_of_ble_eq_true rfl) dX5_gets_108 ⟨Nat.le_of_ble_eq_true rfl, Nat.le_of_ble_eq_true rfl⟩) (fun κ16 H locs eκ16 hw => ?_)
          rw [eκ16] at hF
          try dsimp only at hF
          exact k_vret hM hr hw (Nat.le_of_ble_eq_true rfl) (Nat.le_of_ble_eq_true rfl) hF.symm dX5_gets_111
  · rw [if_neg c1] at hF
    refine lv_iload_n hM.x hM.b dX5_gets_8 rfl (lv_at hl 1 rfl) ?_
    refine lv_iconst (v := 1) hM.x hM.b dX5_gets_9 (by decide) ?_
    refine lv_icmp_ge (tgt := 17) hM.x hM.b dX5_gets_10 (by decide) (fun c9 => ?_) (fun c9 => ?_)
    · rw [if_pos c9] at hF
      refine lv_iload_n hM.x hM.b dX5_gets_17 rfl (lv_at hl 1 rfl) ?_
      refine lv_iconst (v := 1) hM.x hM.b dX5_gets_18 (by decide) ?_
      refine lv_isub hM.x hM.b dX5_gets_19 ?_
      refine lv_goto (tgt := 24) hM.x hM.b dX5_gets_20 (by decide) ?_
      refine k_put5 5 hM hw hk hm.1 (by decide) u_fl_X5_20 dX5_gets_24 (fun H locs hw => ?_)
      obtain ⟨κ17, eκ17⟩ : ∃ z : Kp, up2 κ (k) 5 (((a) - (1))) = z := ⟨_, rfl⟩
      rw [eκ17] at hw
      rw [eκ17] at hF
      try dsimp only at hF
      refine lv_aload_n hM.x hM.b dX5_gets_27 rfl (lv_at hl 0 rfl) ?_
      refine k_get5 4 hM hw hk hm.1 (by decide) u_fl_X5_17 dX5_gets_28 ?_
      refine lv_if_le (tgt := 44) hM.x hM.b dX5_gets_31 (by decide) (fun c10 => ?_) (fun c10 => ?_)
      · rw [if_pos c10] at hF
        refine lv_aload_n hM.x hM.b dX5_gets_44 rfl (lv_at hl 0 rfl) ?_
        refine lv_aload_n hM.x hM.b dX5_gets_45 rfl (lv_at hl 0 rfl) ?_
        refine k_get5 2 hM hw hk hm.1 (by decide) u_fl_X5_23 dX5_gets_46 ?_
        refine lv_aload_n hM.x hM.b dX5_gets_49 rfl (lv_at hl 0 rfl) ?_
        refine k_get5 5 hM hw hk hm.1 (by decide) u_fl_X5_20 dX5_gets_50 ?_
        refine k_cvp hw (k_runV [.int (κ17 (k) 2), .int (κ17 (k) 5)] [] hM hw (m_X5_tan l g κ17 _ (k) (κ17 (k) 2) (κ17 (k) 5) (hk) hm ((by rw [← eκ17, up2_ne _ _ (Or.inr (by decide))]; exact hsd))) hm.1 (sh21 hk) rfl (k_gV u_ml_X5_26 u_im_X5_tan u_se_X5_tan u_ini_X5 u_co_X5_tan) (q_X5_tan) rfl rfl rfl ⟨Nat.le_of_ble_eq_true rfl, Nat.le_of_ble_eq_true rfl⟩ hl.1 rfl (Nat.le_of_ble_eq_true rfl) dX5_gets_53 ⟨Nat.le_of_ble_eq_true rfl, Nat.le_of_ble_eq_true rfl⟩) (fun κ18 H locs eκ18 hw => ?_)
        rw [eκ18] at hF
        try dsimp only at hF
        refine lv_aload_n hM.x hM.b dX5_gets_56 rfl (lv_at hl 0 rfl) ?_
        refine lv_aload_n hM.x hM.b dX5_gets_57 rfl (lv_at hl 0 rfl) ?_
        refine k_get5 2 hM hw hk hm.1 (by decide) u_fl_X5_23 dX5_gets_58 ?_
        refine lv_iconst (v := 3) hM.x hM.b dX5_gets_61 (by decide) ?_
        refine lv_icmp_ne (tgt := 69) hM.x hM.b dX5_gets_62 (by decide) (fun c11 => ?_) (fun c11 => ?_)
        · rw [if_neg c11] at hF
          refine lv_aload_n hM.x hM.b dX5_gets_69 rfl (lv_at hl 0 rfl) ?_
          refine k_get5 2 hM hw hk hm.1 (by decide) u_fl_X5_23 dX5_gets_70 ?_
          refine lv_iconst (v := 1) hM.x hM.b dX5_gets_73 (by decide) ?_
          refine lv_iadd hM.x hM.b dX5_gets_74 ?_
          refine lv_aload_n hM.x hM.b dX5_gets_75 rfl (lv_at hl 0 rfl) ?_
          refine k_get5 5 hM hw hk hm.1 (by decide) u_fl_X5_20 dX5_gets_76 ?_
          refine lv_iconst (v := 3) hM.x hM.b dX5_gets_79 (by decide) ?_
          refine lv_idiv hM.x hM.b dX5_gets_80 (by decide) ?_
          refine k_cvp hw (k_runV [.int (((κ18 (k) 2) + (1))), .int (((κ18 (k) 5) / (3)))] [] hM hw (m_X5_tan l g κ18 _ (k) (((κ18 (k) 2) + (1))) (((κ18 (k) 5) / (3))) (hk) hm (sd_next (by rw [← eκ18, tan_side]; exact (by rw [← eκ17, up2_ne _ _ (Or.inr (by decide))]; exact hsd)) c11)) hm.1 (sh21 hk) rfl (k_gV u_ml_X5_26 u_im_X5_tan u_se_X5_tan u_ini_X5 u_co_X5_tan) (q_X5_tan) rfl rfl rfl ⟨Nat.le_of_ble_eq_true rfl, Nat.le_of_ble_eq_true rfl⟩ hl.1 rfl (Nat.le_of_ble_eq_true rfl) dX5_gets_81 ⟨Nat.le_of_ble_eq_true rfl, Nat.le_of_ble_eq_true rfl⟩) (fun κ19 H locs eκ19 hw => ?_)
          rw [eκ19] at hF
          try dsimp only at hF
          refine lv_aload_n hM.x hM.b dX5_gets_84 rfl (lv_at hl 0 rfl) ?_
          refine lv_aload_n hM.x hM.b dX5_gets_85 rfl (lv_at hl 0 rfl) ?_
          refine k_get5 2 hM hw hk hm.1 (by decide) u_fl_X5_23 dX5_gets_86 ?_
          refine lv_if_ne (tgt := 96) hM.x hM.b dX5_gets_89 (by decide) (fun c12 => ?_) (fun c12 => ?_)
          · rw [if_neg c12] at hF
            refine lv_aload_n hM.x hM.b dX5_gets_96 rfl (lv_at hl 0 rfl) ?_
            refine k_get5 2 hM hw hk hm.1 (by decide) u_fl_X5_23 dX5_gets_97 ?_
            refine lv_iconst (v := 1) hM.x hM.b dX5_gets_100 (by decide) ?_
            refine lv_isub hM.x hM.b dX5_gets_101 ?_
            refine lv_aload_n hM.x hM.b dX5_gets_102 rfl (lv_at hl 0 rfl) ?_
            refine k_get5 5 hM hw hk hm.1 (by decide) u_fl_X5_20 dX5_gets_103 ?_
            refine lv_iconst (v := 3) hM.x hM.b dX5_gets_106 (by decide) ?_
            refine lv_idiv hM.x hM.b dX5_gets_107 (by decide) ?_
            refine k_cvp hw (k_runV [.int (((κ19 (k) 2) - (1))), .int (((κ19 (k) 5) / (3)))] [] hM hw (m_X5_tan l g κ19 _ (k) (((κ19 (k) 2) - (1))) (((κ19 (k) 5) / (3))) (hk) hm (sd_prev (by rw [← eκ19, tan_side]; exact (by rw [← eκ18, tan_side]; exact (by rw [← eκ17, up2_ne _ _ (Or.inr (by decide))]; exact hsd))) c12)) hm.1 (sh21 hk) rfl (k_gV u_ml_X5_26 u_im_X5_tan u_se_X5_tan u_ini_X5 u_co_X5_tan) (q_X5_tan) rfl rfl rfl ⟨Nat.le_of_ble_eq_true rfl, Nat.le_of_ble_eq_true rfl⟩ hl.1 rfl (Nat.le_of_ble_eq_true rfl) dX5_gets_108 ⟨Nat.le_of_ble_eq_true rfl, Nat.le_of_ble_eq_true rfl⟩) (fun κ20 H locs eκ20 hw => ?_)
            rw [eκ20] at hF
            try dsimp only at hF
            exact k_vret hM hr hw (Nat.le_of_ble_eq_true rfl) (Nat.le_of_ble_eq_true rfl) hF.symm dX5_gets_111
          · rw [if_pos c12] at hF
            refine lv_iconst (v := 3) hM.x hM.b dX5_gets_92 (by decide) ?_
            refine lv_goto (tgt := 102) hM.x hM.b dX5_gets_93 (by decide) ?_
            refine lv_aload_n hM.x hM.b dX5_gets_102 rfl (lv_at hl 0 rfl) ?_
            refine k_get5 5 hM hw hk hm.1 (by decide) u_fl_X5_20 dX5_gets_103 ?_
            refine lv_iconst (v := 3) hM.x hM.b dX5_gets_106 (by decide) ?_
            refine lv_idiv hM.x hM.b dX5_gets_107 (by decide) ?_
            refine k_cvp hw (k_runV [.int (3), .int (((κ19 (k) 5) / (3)))] [] hM hw (m_X5_tan l g κ19 _ (k) (3) (((κ19 (k) 5) / (3))) (hk) hm (vin_lit (by decide) : vp_in 3 4)) hm.1 (sh21 hk) rfl (k_gV u_ml_X5_26 u_im_X5_tan u_se_X5_tan u_ini_X5 u_co_X5_tan) (q_X5_tan) rfl rfl rfl ⟨Nat.le_of_ble_eq_true rfl, Nat.le_of_ble_eq_true rfl⟩ hl.1 rfl (Nat.le_of_ble_eq_true rfl) dX5_gets_108 ⟨Nat.le_of_ble_eq_true rfl, Nat.le_of_ble_eq_true rfl⟩) (fun κ21 H locs eκ21 hw => ?_)
            rw [eκ21] at hF
            try dsimp only at hF
            exact k_vret hM hr hw (Nat.le_of_ble_eq_true rfl) (Nat.le_of_ble_eq_true rfl) hF.symm dX5_gets_111
        · rw [if_pos c11] at hF
          refine lv_iconst (v := 0) hM.x hM.b dX5_gets_65 (by decide) ?_
          refine lv_goto (tgt := 75) hM.x hM.b dX5_gets_66 (by decide) ?_
          refine lv_aload_n hM.x hM.b dX5_gets_75 rfl (lv_at hl 0 rfl) ?_
          refine k_get5 5 hM hw hk hm.1 (by decide) u_fl_X5_20 dX5_gets_76 ?_
          refine lv_iconst (v := 3) hM.x hM.b dX5_gets_79 (by decide) ?_
          refine lv_idiv hM.x hM.b dX5_gets_80 (by decide) ?_
          refine k_cvp hw (k_runV [.int (0), .int (((κ18 (k) 5) / (3)))] [] hM hw (m_X5_tan l g κ18 _ (k) (0) (((κ18 (k) 5) / (3))) (hk) hm (vin_lit (by decide) : vp_in 0 4)) hm.1 (sh21 hk) rfl (k_gV u_ml_X5_26 u_im_X5_tan u_se_X5_tan u_ini_X5 u_co_X5_tan) (q_X5_tan) rfl rfl rfl ⟨Nat.le_of_ble_eq_true rfl, Nat.le_of_ble_eq_true rfl⟩ hl.1 rfl (Nat.le_of_ble_eq_true rfl) dX5_gets_81 ⟨Nat.le_of_ble_eq_true rfl, Nat.le_of_ble_eq_true rfl⟩) (fun κ22 H locs eκ22 hw => ?_)
          rw [eκ22] at hF
          try dsimp only at hF
          refine lv_aload_n hM.x hM.b dX5_gets_84 rfl (lv_at hl 0 rfl) ?_
          refine lv_aload_n hM.x hM.b dX5_gets_85 rfl (lv_at hl 0 rfl) ?_
          refine k_get5 2 hM hw hk hm.1 (by decide) u_fl_X5_23 dX5_gets_86 ?_
          refine lv_if_ne (tgt := 96) hM.x hM.b dX5_gets_89 (by decide) (fun c13 => ?_) (fun c13 => ?_)
          · rw [if_neg c13] at hF
            refine lv_aload_n hM.x hM.b dX5_gets_96 rfl (lv_at hl 0 rfl) ?_
            refine k_get5 2 hM hw hk hm.1 (by decide) u_fl_X5_23 dX5_gets_97 ?_
            refine lv_iconst (v := 1) hM.x hM.b dX5_gets_100 (by decide) ?_
            refine lv_isub hM.x hM.b dX5_gets_101 ?_
            refine lv_aload_n hM.x hM.b dX5_gets_102 rfl (lv_at hl 0 rfl) ?_
            refine k_get5 5 hM hw hk hm.1 (by decide) u_fl_X5_20 dX5_gets_103 ?_
            refine lv_iconst (v := 3) hM.x hM.b dX5_gets_106 (by decide) ?_
            refine lv_idiv hM.x hM.b dX5_gets_107 (by decide) ?_
            refine k_cvp hw (k_runV [.int (((κ22 (k) 2) - (1))), .int (((κ22 (k) 5) / (3)))] [] hM hw (m_X5_tan l g κ22 _ (k) (((κ22 (k) 2) - (1))) (((κ22 (k) 5) / (3))) (hk) hm (sd_prev (by rw [← eκ22, tan_side]; exact (by rw [← eκ18, tan_side]; exact (by rw [← eκ17, up2_ne _ _ (Or.inr (by decide))]; exact hsd))) c13)) hm.1 (sh21 hk) rfl (k_gV u_ml_X5_26 u_im_X5_tan u_se_X5_tan u_ini_X5 u_co_X5_tan) (q_X5_tan) rfl rfl rfl ⟨Nat.le_of_ble_eq_true rfl, Nat.le_of_ble_eq_true rfl⟩ hl.1 rfl (Nat.le_of_ble_eq_true rfl) dX5_gets_108 ⟨Nat.le_of_ble_eq_true rfl, Nat.le_of_ble_eq_true rfl⟩) (fun κ23 H locs eκ23 hw => ?_)
            rw [eκ23] at hF
            try dsimp only at hF
            exact k_vret hM hr hw (Nat.le_of_ble_eq_true rfl) (Nat.le_of_ble_eq_true rfl) hF.symm dX5_gets_111
          · rw [if_pos c13] at hF
            refine lv_iconst (v := 3) hM.x hM.b dX5_gets_92 (by decide) ?_
            refine lv_goto (tgt := 102) hM.x hM.b dX5_gets_93 (by decide) ?_
            refine lv_aload_n hM.x hM.b dX5_gets_102 rfl (lv_at hl 0 rfl) ?_
            refine k_get5 5 hM hw hk hm.1 (by decide) u_fl_X5_20 dX5_gets_103 ?_
            refine lv_iconst (v := 3) hM.x hM.b dX5_gets_106 (by decide) ?_
            refine lv_idiv hM.x hM.b dX5_gets_107 (by decide) ?_
            refine k_cvp hw (k_runV [.int (3), .int (((κ22 (k) 5) / (3)))] [] hM hw (m_X5_tan l g κ22 _ (k) (3) (((κ22 (k) 5) / (3))) (hk) hm (vin_lit (by decide) : vp_in 3 4)) hm.1 (sh21 hk) rfl (k_gV u_ml_X5_26 u_im_X5_tan u_se_X5_tan u_ini_X5 u_co_X5_tan) (q_X5_tan) rfl rfl rfl ⟨Nat.le_of_ble_eq_true rfl, Nat.le_of_ble_eq_true rfl⟩ hl.1 rfl (Nat.le_of_ble_eq_true rfl) dX5_gets_108 ⟨Nat.le_of_ble_eq_true rfl, Nat.le_of_ble_eq_true rfl⟩) (fun κ24 H locs eκ24 hw => ?_)
            rw [eκ24] at hF
            try dsimp only at hF
            exact k_vret hM hr hw (Nat.le_of_ble_eq_true rfl) (Nat.le_of_ble_eq_true rfl) hF.symm dX5_gets_111
      · rw [if_neg c10] at hF
        refine lv_aload_n hM.x hM.b dX5_gets_34 rfl (lv_at hl 0 rfl) ?_
        refine lv_dup hM.x hM.b dX5_gets_35 rfl ?_
        refine k_get5 4 hM hw hk hm.1 (by decide) u_fl_X5_17 dX5_gets_36 ?_
        refine lv_iconst (v := 1) hM.x hM.b dX5_gets_39 (by decide) ?_
        refine lv_isub hM.x hM.b dX5_gets_40 ?_
        refine k_put5 4 hM hw hk hm.1 (by decide) u_fl_X5_17 dX5_gets_41 (fun H locs hw => ?_)
        obtain ⟨κ25, eκ25⟩ : ∃ z : Kp, up2 κ17 (k) 4 (((κ17 (k) 4) - (1))) = z := ⟨_, rfl⟩
        rw [eκ25] at hw
        rw [eκ25] at hF
        try dsimp only at hF
        refine lv_aload_n hM.x hM.b dX5_gets_44 rfl (lv_at hl 0 rfl) ?_
        refine lv_aload_n hM.x hM.b dX5_gets_45 rfl (lv_at hl 0 rfl) ?_
        refine k_get5 2 hM hw hk hm.1 (by decide) u_fl_X5_23 dX5_gets_46 ?_
        refine lv_aload_n hM.x hM.b dX5_gets_49 rfl (lv_at hl 0 rfl) ?_
        refine k_get5 5 hM hw hk hm.1 (by decide) u_fl_X5_20 dX5_gets_50 ?_
        refine k_cvp hw (k_runV [.int (κ25 (k) 2), .int (κ25 (k) 5)] [] hM hw (m_X5_tan l g κ25 _ (k) (κ25 (k) 2) (κ25 (k) 5) (hk) hm ((by rw [← eκ25, up2_ne _ _ (Or.inr (by decide))]; exact (by rw [← eκ17, up2_ne _ _ (Or.inr (by decide))]; exact hsd)))) hm.1 (sh21 hk) rfl (k_gV u_ml_X5_26 u_im_X5_tan u_se_X5_tan u_ini_X5 u_co_X5_tan) (q_X5_tan) rfl rfl rfl ⟨Nat.le_of_ble_eq_true rfl, Nat.le_of_ble_eq_true rfl⟩ hl.1 rfl (Nat.le_of_ble_eq_true rfl) dX5_gets_53 ⟨Nat.le_of_ble_eq_true rfl, Nat.le_of_ble_eq_true rfl⟩) (fun κ26 H locs eκ26 hw => ?_)
        rw [eκ26] at hF
        try dsimp only at hF
        refine lv_aload_n hM.x hM.b dX5_gets_56 rfl (lv_at hl 0 rfl) ?_
        refine lv_aload_n hM.x hM.b dX5_gets_57 rfl (lv_at hl 0 rfl) ?_
        refine k_get5 2 hM hw hk hm.1 (by decide) u_fl_X5_23 dX5_gets_58 ?_
        refine lv_iconst (v := 3) hM.x hM.b dX5_gets_61 (by decide) ?_
        refine lv_icmp_ne (tgt := 69) hM.x hM.b dX5_gets_62 (by decide) (fun c14 => ?_) (fun c14 => ?_)
        · rw [if_neg c14] at hF
          refine lv_aload_n hM.x hM.b dX5_gets_69 rfl (lv_at hl 0 rfl) ?_
          refine k_get5 2 hM hw hk hm.1 (by decide) u_fl_X5_23 dX5_gets_70 ?_
          refine lv_iconst (v := 1) hM.x hM.b dX5_gets_73 (by decide) ?_
          refine lv_iadd hM.x hM.b dX5_gets_74 ?_
          refine lv_aload_n hM.x hM.b dX5_gets_75 rfl (lv_at hl 0 rfl) ?_
          refine k_get5 5 hM hw hk hm.1 (by decide) u_fl_X5_20 dX5_gets_76 ?_
          refine lv_iconst (v := 3) hM.x hM.b dX5_gets_79 (by decide) ?_
          refine lv_idiv hM.x hM.b dX5_gets_80 (by decide) ?_
          refine k_cvp hw (k_runV [.int (((κ26 (k) 2) + (1))), .int (((κ26 (k) 5) / (3)))] [] hM hw (m_X5_tan l g κ26 _ (k) (((κ26 (k) 2) + (1))) (((κ26 (k) 5) / (3))) (hk) hm (sd_next (by rw [← eκ26, tan_side]; exact (by rw [← eκ25, up2_ne _ _ (Or.inr (by decide))]; exact (by rw [← eκ17, up2_ne _ _ (Or.inr (by decide))]; exact hsd))) c14)) hm.1 (sh21 hk) rfl (k_gV u_ml_X5_26 u_im_X5_tan u_se_X5_tan u_ini_X5 u_co_X5_tan) (q_X5_tan) rfl rfl rfl ⟨Nat.le_of_ble_eq_true rfl, Nat.le_of_ble_eq_true rfl⟩ hl.1 rfl (Nat.le_of_ble_eq_true rfl) dX5_gets_81 ⟨Nat.le_of_ble_eq_true rfl, Nat.le_of_ble_eq_true rfl⟩) (fun κ27 H locs eκ27 hw => ?_)
          rw [eκ27] at hF
          try dsimp only at hF
          refine lv_aload_n hM.x hM.b dX5_gets_84 rfl (lv_at hl 0 rfl) ?_
          refine lv_aload_n hM.x hM.b dX5_gets_85 rfl (lv_at hl 0 rfl) ?_
          refine k_get5 2 hM hw hk hm.1 (by decide) u_fl_X5_23 dX5_gets_86 ?_
          refine lv_if_ne (tgt := 96) hM.x hM.b dX5_gets_89 (by decide) (fun c15 => ?_) (fun c15 => ?_)
          · rw [if_neg c15] at hF
            refine lv_aload_n hM.x hM.b dX5_gets_96 rfl (lv_at hl 0 rfl) ?_
            refine k_get5 2 hM hw hk hm.1 (by decide) u_fl_X5_23 dX5_gets_97 ?_
            refine lv_iconst (v := 1) hM.x hM.b dX5_gets_100 (by decide) ?_
            refine lv_isub hM.x hM.b dX5_gets_101 ?_
            refine lv_aload_n hM.x hM.b dX5_gets_102 rfl (lv_at hl 0 rfl) ?_
            refine k_get5 5 hM hw hk hm.1 (by decide) u_fl_X5_20 dX5_gets_103 ?_
            refine lv_iconst (v := 3) hM.x hM.b dX5_gets_106 (by decide) ?_
            refine lv_idiv hM.x hM.b dX5_gets_107 (by decide) ?_
            refine k_cvp hw (k_runV [.int (((κ27 (k) 2) - (1))), .int (((κ27 (k) 5) / (3)))] [] hM hw (m_X5_tan l g κ27 _ (k) (((κ27 (k) 2) - (1))) (((κ27 (k) 5) / (3))) (hk) hm (sd_prev (by rw [← eκ27, tan_side]; exact (by rw [← eκ26, tan_side]; exact (by rw [← eκ25, up2_ne _ _ (Or.inr (by decide))]; exact (by rw [← eκ17, up2_ne _ _ (Or.inr (by decide))]; exact hsd)))) c15)) hm.1 (sh21 hk) rfl (k_gV u_ml_X5_26 u_im_X5_tan u_se_X5_tan u_ini_X5 u_co_X5_tan) (q_X5_tan) rfl rfl rfl ⟨Nat.le_of_ble_eq_true rfl, Nat.le_of_ble_eq_true rfl⟩ hl.1 rfl (Nat.le_of_ble_eq_true rfl) dX5_gets_108 ⟨Nat.le_of_ble_eq_true rfl, Nat.le_of_ble_eq_true rfl⟩) (fun κ28 H locs eκ28 hw => ?_)
            rw [eκ28] at hF
            try dsimp only at hF
            exact k_vret hM hr hw (Nat.le_of_ble_eq_true rfl) (Nat.le_of_ble_eq_true rfl) hF.symm dX5_gets_111
          · rw [if_pos c15] at hF
            refine lv_iconst (v := 3) hM.x hM.b dX5_gets_92 (by decide) ?_
            refine lv_goto (tgt := 102) hM.x hM.b dX5_gets_93 (by decide) ?_
            refine lv_aload_n hM.x hM.b dX5_gets_102 rfl (lv_at hl 0 rfl) ?_
            refine k_get5 5 hM hw hk hm.1 (by decide) u_fl_X5_20 dX5_gets_103 ?_
            refine lv_iconst (v := 3) hM.x hM.b dX5_gets_106 (by decide) ?_
            refine lv_idiv hM.x hM.b dX5_gets_107 (by decide) ?_
            refine k_cvp hw (k_runV [.int (3), .int (((κ27 (k) 5) / (3)))] [] hM hw (m_X5_tan l g κ27 _ (k) (3) (((κ27 (k) 5) / (3))) (hk) hm (vin_lit (by decide) : vp_in 3 4)) hm.1 (sh21 hk) rfl (k_gV u_ml_X5_26 u_im_X5_tan u_se_X5_tan u_ini_X5 u_co_X5_tan) (q_X5_tan) rfl rfl rfl ⟨Nat.le_of_ble_eq_true rfl, Nat.le_of_ble_eq_true rfl⟩ hl.1 rfl (Nat.le_of_ble_eq_true rfl) dX5_gets_108 ⟨Nat.le_of_ble_eq_true rfl, Nat.le_of_ble_eq_true rfl⟩) (fun κ29 H locs eκ29 hw => ?_)
            rw [eκ29] at hF
            try dsimp only at hF
            exact k_vret hM hr hw (Nat.le_of_ble_eq_true rfl) (Nat.le_of_ble_eq_true rfl) hF.symm dX5_gets_111
        · rw [if_pos c14] at hF
          refine lv_iconst (v := 0) hM.x hM.b dX5_gets_65 (by decide) ?_
          refine lv_goto (tgt := 75) hM.x hM.b dX5_gets_66 (by decide) ?_
          refine lv_aload_n hM.x hM.b dX5_gets_75 rfl (lv_at hl 0 rfl) ?_
          refine k_get5 5 hM hw hk hm.1 (by decide) u_fl_X5_20 dX5_gets_76 ?_
          refine lv_iconst (v := 3) hM.x hM.b dX5_gets_79 (by decide) ?_
          refine lv_idiv hM.x hM.b dX5_gets_80 (by decide) ?_
          refine k_cvp hw (k_runV [.int (0), .int (((κ26 (k) 5) / (3)))] [] hM hw (m_X5_tan l g κ26 _ (k) (0) (((κ26 (k) 5) / (3))) (hk) hm (vin_lit (by decide) : vp_in 0 4)) hm.1 (sh21 hk) rfl (k_gV u_ml_X5_26 u_im_X5_tan u_se_X5_tan u_ini_X5 u_co_X5_tan) (q_X5_tan) rfl rfl rfl ⟨Nat.le_of_ble_eq_true rfl, Nat.le_of_ble_eq_true rfl⟩ hl.1 rfl (Nat.le_of_ble_eq_true rfl) dX5_gets_81 ⟨Nat.le_of_ble_eq_true rfl, Nat.le_of_ble_eq_true rfl⟩) (fun κ30 H locs eκ30 hw => ?_)
          rw [eκ30] at hF
          try dsimp only at hF
          refine lv_aload_n hM.x hM.b dX5_gets_84 rfl (lv_at hl 0 rfl) ?_
          refine lv_aload_n hM.x hM.b dX5_gets_85 rfl (lv_at hl 0 rfl) ?_
          refine k_get5 2 hM hw hk hm.1 (by decide) u_fl_X5_23 dX5_gets_86 ?_
          refine lv_if_ne (tgt := 96) hM.x hM.b dX5_gets_89 (by decide) (fun c16 => ?_) (fun c16 => ?_)
          · rw [if_neg c16] at hF
            refine lv_aload_n hM.x hM.b dX5_gets_96 rfl (lv_at hl 0 rfl) ?_
            refine k_get5 2 hM hw hk hm.1 (by decide) u_fl_X5_23 dX5_gets_97 ?_
            refine lv_iconst (v := 1) hM.x hM.b dX5_gets_100 (by decide) ?_
            refine lv_isub hM.x hM.b dX5_gets_101 ?_
            refine lv_aload_n hM.x hM.b dX5_gets_102 rfl (lv_at hl 0 rfl) ?_
            refine k_get5 5 hM hw hk hm.1 (by decide) u_fl_X5_20 dX5_gets_103 ?_
            refine lv_iconst (v := 3) hM.x hM.b dX5_gets_106 (by decide) ?_
            refine lv_idiv hM.x hM.b dX5_gets_107 (by decide) ?_
            refine k_cvp hw (k_runV [.int (((κ30 (k) 2) - (1))), .int (((κ30 (k) 5) / (3)))] [] hM hw (m_X5_tan l g κ30 _ (k) (((κ30 (k) 2) - (1))) (((κ30 (k) 5) / (3))) (hk) hm (sd_prev (by rw [← eκ30, tan_side]; exact (by rw [← eκ26, tan_side]; exact (by rw [← eκ25, up2_ne _ _ (Or.inr (by decide))]; exact (by rw [← eκ17, up2_ne _ _ (Or.inr (by decide))]; exact hsd)))) c16)) hm.1 (sh21 hk) rfl (k_gV u_ml_X5_26 u_im_X5_tan u_se_X5_tan u_ini_X5 u_co_X5_tan) (q_X5_tan) rfl rfl rfl ⟨Nat.le_of_ble_eq_true rfl, Nat.le_of_ble_eq_true rfl⟩ hl.1 rfl (Nat.le_of_ble_eq_true rfl) dX5_gets_108 ⟨Nat.le_of_ble_eq_true rfl, Nat.le_of_ble_eq_true rfl⟩) (fun κ31 H locs eκ31 hw => ?_)
            rw [eκ31] at hF
            try dsimp only at hF
            exact k_vret hM hr hw (Nat.le_of_ble_eq_true rfl) (Nat.le_of_ble_eq_true rfl) hF.symm dX5_gets_111
          · rw [if_pos c16] at hF
            refine lv_iconst (v := 3) hM.x hM.b dX5_gets_92 (by decide) ?_
            refine lv_goto (tgt := 102) hM.x hM.b dX5_gets_93 (by decide) ?_
            refine lv_aload_n hM.x hM.b dX5_gets_102 rfl (lv_at hl 0 rfl) ?_
            refine k_get5 5 hM hw hk hm.1 (by decide) u_fl_X5_20 dX5_gets_103 ?_
            refine lv_iconst (v := 3) hM.x hM.b dX5_gets_106 (by decide) ?_
            refine lv_idiv hM.x hM.b dX5_gets_107 (by decide) ?_
            refine k_cvp hw (k_runV [.int (3), .int (((κ30 (k) 5) / (3)))] [] hM hw (m_X5_tan l g κ30 _ (k) (3) (((κ30 (k) 5) / (3))) (hk) hm (vin_lit (by decide) : vp_in 3 4)) hm.1 (sh21 hk) rfl (k_gV u_ml_X5_26 u_im_X5_tan u_se_X5_tan u_ini_X5 u_co_X5_tan) (q_X5_tan) rfl rfl rfl ⟨Nat.le_of_ble_eq_true rfl, Nat.le_of_ble_eq_true rfl⟩ hl.1 rfl (Nat.le_of_ble_eq_true rfl) dX5_gets_108 ⟨Nat.le_of_ble_eq_true rfl, Nat.le_of_ble_eq_true rfl⟩) (fun κ32 H locs eκ32 hw => ?_)
            rw [eκ32] at hF
            try dsimp only at hF
            exact k_vret hM hr hw (Nat.le_of_ble_eq_true rfl) (Nat.le_of_ble_eq_true rfl) hF.symm dX5_gets_111
    · rw [if_neg c9] at hF
      refine lv_iconst (v := 0) hM.x hM.b dX5_gets_13 (by decide) ?_
      refine lv_goto (tgt := 24) hM.x hM.b dX5_gets_14 (by decide) ?_
      refine k_put5 5 hM hw hk hm.1 (by decide) u_fl_X5_20 dX5_gets_24 (fun H locs hw => ?_)
      obtain ⟨κ33, eκ33⟩ : ∃ z : Kp, up2 κ (k) 5 (0) = z := ⟨_, rfl⟩
      rw [eκ33] at hw
      rw [eκ33] at hF
      try dsimp only at hF
      refine lv_aload_n hM.x hM.b dX5_gets_27 rfl (lv_at hl 0 rfl) ?_
      refine k_get5 4 hM hw hk hm.1 (by decide) u_fl_X5_17 dX5_gets_28 ?_
      refine lv_if_le (tgt := 44) hM.x hM.b dX5_gets_31 (by decide) (fun c17 => ?_) (fun c17 => ?_)
      · rw [if_pos c17] at hF
        refine lv_aload_n hM.x hM.b dX5_gets_44 rfl (lv_at hl 0 rfl) ?_
        refine lv_aload_n hM.x hM.b dX5_gets_45 rfl (lv_at hl 0 rfl) ?_
        refine k_get5 2 hM hw hk hm.1 (by decide) u_fl_X5_23 dX5_gets_46 ?_
        refine lv_aload_n hM.x hM.b dX5_gets_49 rfl (lv_at hl 0 rfl) ?_
        refine k_get5 5 hM hw hk hm.1 (by decide) u_fl_X5_20 dX5_gets_50 ?_
        refine k_cvp hw (k_runV [.int (κ33 (k) 2), .int (κ33 (k) 5)] [] hM hw (m_X5_tan l g κ33 _ (k) (κ33 (k) 2) (κ33 (k) 5) (hk) hm ((by rw [← eκ33, up2_ne _ _ (Or.inr (by decide))]; exact hsd))) hm.1 (sh21 hk) rfl (k_gV u_ml_X5_26 u_im_X5_tan u_se_X5_tan u_ini_X5 u_co_X5_tan) (q_X5_tan) rfl rfl rfl ⟨Nat.le_of_ble_eq_true rfl, Nat.le_of_ble_eq_true rfl⟩ hl.1 rfl (Nat.le_of_ble_eq_true rfl) dX5_gets_53 ⟨Nat.le_of_ble_eq_true rfl, Nat.le_of_ble_eq_true rfl⟩) (fun κ34 H locs eκ34 hw => ?_)
        rw [eκ34] at hF
        try dsimp only at hF
        refine lv_aload_n hM.x hM.b dX5_gets_56 rfl (lv_at hl 0 rfl) ?_
        refine lv_aload_n hM.x hM.b dX5_gets_57 rfl (lv_at hl 0 rfl) ?_
        refine k_get5 2 hM hw hk hm.1 (by decide) u_fl_X5_23 dX5_gets_58 ?_
        refine lv_iconst (v := 3) hM.x hM.b dX5_gets_61 (by decide) ?_
        refine lv_icmp_ne (tgt := 69) hM.x hM.b dX5_gets_62 (by decide) (fun c18 => ?_) (fun c18 => ?_)
        · rw [if_neg c18] at hF
          refine lv_aload_n hM.x hM.b dX5_gets_69 rfl (lv_at hl 0 rfl) ?_
          refine k_get5 2 hM hw hk hm.1 (by decide) u_fl_X5_23 dX5_gets_70 ?_
          refine lv_iconst (v := 1) hM.x hM.b dX5_gets_73 (by decide) ?_
          refine lv_iadd hM.x hM.b dX5_gets_74 ?_
          refine lv_aload_n hM.x hM.b dX5_gets_75 rfl (lv_at hl 0 rfl) ?_
          refine k_get5 5 hM hw hk hm.1 (by decide) u_fl_X5_20 dX5_gets_76 ?_
          refine lv_iconst (v := 3) hM.x hM.b dX5_gets_79 (by decide) ?_
          refine lv_idiv hM.x hM.b dX5_gets_80 (by decide) ?_
          refine k_cvp hw (k_runV [.int (((κ34 (k) 2) + (1))), .int (((κ34 (k) 5) / (3)))] [] hM hw (m_X5_tan l g κ34 _ (k) (((κ34 (k) 2) + (1))) (((κ34 (k) 5) / (3))) (hk) hm (sd_next (by rw [← eκ34, tan_side]; exact (by rw [← eκ33, up2_ne _ _ (Or.inr (by decide))]; exact hsd)) c18)) hm.1 (sh21 hk) rfl (k_gV u_ml_X5_26 u_im_X5_tan u_se_X5_tan u_ini_X5 u_co_X5_tan) (q_X5_tan) rfl rfl rfl ⟨Nat.le_of_ble_eq_true rfl, Nat.le_of_ble_eq_true rfl⟩ hl.1 rfl (Nat.le_of_ble_eq_true rfl) dX5_gets_81 ⟨Nat.le_of_ble_eq_true rfl, Nat.le_of_ble_eq_true rfl⟩) (fun κ35 H locs eκ35 hw => ?_)
          rw [eκ35] at hF
          try dsimp only at hF
          refine lv_aload_n hM.x hM.b dX5_gets_84 rfl (lv_at hl 0 rfl) ?_
          refine lv_aload_n hM.x hM.b dX5_gets_85 rfl (lv_at hl 0 rfl) ?_
          refine k_get5 2 hM hw hk hm.1 (by decide) u_fl_X5_23 dX5_gets_86 ?_
          refine lv_if_ne (tgt := 96) hM.x hM.b dX5_gets_89 (by decide) (fun c19 => ?_) (fun c19 => ?_)
          · rw [if_neg c19] at hF
            refine lv_aload_n hM.x hM.b dX5_gets_96 rfl (lv_at hl 0 rfl) ?_
            refine k_get5 2 hM hw hk hm.1 (by decide) u_fl_X5_23 dX5_gets_97 ?_
            refine lv_iconst (v := 1) hM.x hM.b dX5_gets_100 (by decide) ?_
            refine lv_isub hM.x hM.b dX5_gets_101 ?_
            refine lv_aload_n hM.x hM.b dX5_gets_102 rfl (lv_at hl 0 rfl) ?_
            refine k_get5 5 hM hw hk hm.1 (by decide) u_fl_X5_20 dX5_gets_103 ?_
            refine lv_iconst (v := 3) hM.x hM.b dX5_gets_106 (by decide) ?_
            refine lv_idiv hM.x hM.b dX5_gets_107 (by decide) ?_
            refine k_cvp hw (k_runV [.int (((κ35 (k) 2) - (1))), .int (((κ35 (k) 5) / (3)))] [] hM hw (m_X5_tan l g κ35 _ (k) (((κ35 (k) 2) - (1))) (((κ35 (k) 5) / (3))) (hk) hm (sd_prev (by rw [← eκ35, tan_side]; exact (by rw [← eκ34, tan_side]; exact (by rw [← eκ33, up2_ne _ _ (Or.inr (by decide))]; exact hsd))) c19)) hm.1 (sh21 hk) rfl (k_gV u_ml_X5_26 u_im_X5_tan u_se_X5_tan u_ini_X5 u_co_X5_tan) (q_X5_tan) rfl rfl rfl ⟨Nat.le_of_ble_eq_true rfl, Nat.le_of_ble_eq_true rfl⟩ hl.1 rfl (Nat.le_of_ble_eq_true rfl) dX5_gets_108 ⟨Nat.le_of_ble_eq_true rfl, Nat.le_of_ble_eq_true rfl⟩) (fun κ36 H locs eκ36 hw => ?_)
            rw [eκ36] at hF
            try dsimp only at hF
            exact k_vret hM hr hw (Nat.le_of_ble_eq_true rfl) (Nat.le_of_ble_eq_true rfl) hF.symm dX5_gets_111
          · rw [if_pos c19] at hF
            refine lv_iconst (v := 3) hM.x hM.b dX5_gets_92 (by decide) ?_
            refine lv_goto (tgt := 102) hM.x hM.b dX5_gets_93 (by decide) ?_
            refine lv_aload_n hM.x hM.b dX5_gets_102 rfl (lv_at hl 0 rfl) ?_
            refine k_get5 5 hM hw hk hm.1 (by decide) u_fl_X5_20 dX5_gets_103 ?_
            refine lv_iconst (v := 3) hM.x hM.b dX5_gets_106 (by decide) ?_
            refine lv_idiv hM.x hM.b dX5_gets_107 (by decide) ?_
            refine k_cvp hw (k_runV [.int (3), .int (((κ35 (k) 5) / (3)))] [] hM hw (m_X5_tan l g κ35 _ (k) (3) (((κ35 (k) 5) / (3))) (hk) hm (vin_lit (by decide) : vp_in 3 4)) hm.1 (sh21 hk) rfl (k_gV u_ml_X5_26 u_im_X5_tan u_se_X5_tan u_ini_X5 u_co_X5_tan) (q_X5_tan) rfl rfl rfl ⟨Nat.le_of_ble_eq_true rfl, Nat.le_of_ble_eq_true rfl⟩ hl.1 rfl (Nat.le_of_ble_eq_true rfl) dX5_gets_108 ⟨Nat.le_of_ble_eq_true rfl, Nat.le_of_ble_eq_true rfl⟩) (fun κ37 H locs eκ37 hw => ?_)
            rw [eκ37] at hF
            try dsimp only at hF
            exact k_vret hM hr hw (Nat.le_of_ble_eq_true rfl) (Nat.le_of_ble_eq_true rfl) hF.symm dX5_gets_111
        · rw [if_pos c18] at hF
          refine lv_iconst (v := 0) hM.x hM.b dX5_gets_65 (by decide) ?_
          refine lv_goto (tgt := 75) hM.x hM.b dX5_gets_66 (by decide) ?_
          refine lv_aload_n hM.x hM.b dX5_gets_75 rfl (lv_at hl 0 rfl) ?_
          refine k_get5 5 hM hw hk hm.1 (by decide) u_fl_X5_20 dX5_gets_76 ?_
          refine lv_iconst (v := 3) hM.x hM.b dX5_gets_79 (by decide) ?_
          refine lv_idiv hM.x hM.b dX5_gets_80 (by decide) ?_
          refine k_cvp hw (k_runV [.int (0), .int (((κ34 (k) 5) / (3)))] [] hM hw (m_X5_tan l g κ34 _ (k) (0) (((κ34 (k) 5) / (3))) (hk) hm (vin_lit (by decide) : vp_in 0 4)) hm.1 (sh21 hk) rfl (k_gV u_ml_X5_26 u_im_X5_tan u_se_X5_tan u_ini_X5 u_co_X5_tan) (q_X5_tan) rfl rfl rfl ⟨Nat.le_of_ble_eq_true rfl, Nat.le_of_ble_eq_true rfl⟩ hl.1 rfl (Nat.le_of_ble_eq_true rfl) dX5_gets_81 ⟨Nat.le_of_ble_eq_true rfl, Nat.le_of_ble_eq_true rfl⟩) (fun κ38 H locs eκ38 hw => ?_)
          rw [eκ38] at hF
          try dsimp only at hF
          refine lv_aload_n hM.x hM.b dX5_gets_84 rfl (lv_at hl 0 rfl) ?_
          refine lv_aload_n hM.x hM.b dX5_gets_85 rfl (lv_at hl 0 rfl) ?_
          refine k_get5 2 hM hw hk hm.1 (by decide) u_fl_X5_23 dX5_gets_86 ?_
          refine lv_if_ne (tgt := 96) hM.x hM.b dX5_gets_89 (by decide) (fun c20 => ?_) (fun c20 => ?_)
          · rw [if_neg c20] at hF
            refine lv_aload_n hM.x hM.b dX5_gets_96 rfl (lv_at hl 0 rfl) ?_
            refine k_get5 2 hM hw hk hm.1 (by decide) u_fl_X5_23 dX5_gets_97 ?_
            refine lv_iconst (v := 1) hM.x hM.b dX5_gets_100 (by decide) ?_
            refine lv_isub hM.x hM.b dX5_gets_101 ?_
            refine lv_aload_n hM.x hM.b dX5_gets_102 rfl (lv_at hl 0 rfl) ?_
            refine k_get5 5 hM hw hk hm.1 (by decide) u_fl_X5_20 dX5_gets_103 ?_
            refine lv_iconst (v := 3) hM.x hM.b dX5_gets_106 (by decide) ?_
            refine lv_idiv hM.x hM.b dX5_gets_107 (by decide) ?_
            refine k_cvp hw (k_runV [.int (((κ38 (k) 2) - (1))), .int (((κ38 (k) 5) / (3)))] [] hM hw (m_X5_tan l g κ38 _ (k) (((κ38 (k) 2) - (1))) (((κ38 (k) 5) / (3))) (hk) hm (sd_prev (by rw [← eκ38, tan_side]; exact (by rw [← eκ34, tan_side]; exact (by rw [← eκ33, up2_ne _ _ (Or.inr (by decide))]; exact hsd))) c20)) hm.1 (sh21 hk) rfl (k_gV u_ml_X5_26 u_im_X5_tan u_se_X5_tan u_ini_X5 u_co_X5_tan) (q_X5_tan) rfl rfl rfl ⟨Nat.le_of_ble_eq_true rfl, Nat.le_of_ble_eq_true rfl⟩ hl.1 rfl (Nat.le_of_ble_eq_true rfl) dX5_gets_108 ⟨Nat.le_of_ble_eq_true rfl, Nat.le_of_ble_eq_true rfl⟩) (fun κ39 H locs eκ39 hw => ?_)
            rw [eκ39] at hF
            try dsimp only at hF
            exact k_vret hM hr hw (Nat.le_of_ble_eq_true rfl) (Nat.le_of_ble_eq_true rfl) hF.symm dX5_gets_111
          · rw [if_pos c20] at hF
            refine lv_iconst (v := 3) hM.x hM.b dX5_gets_92 (by decide) ?_
            refine lv_goto (tgt := 102) hM.x hM.b dX5_gets_93 (by decide) ?_
            refine lv_aload_n hM.x hM.b dX5_gets_102 rfl (lv_at hl 0 rfl) ?_
            refine k_get5 5 hM hw hk hm.1 (by decide) u_fl_X5_20 dX5_gets_103 ?_
            refine lv_iconst (v := 3) hM.x hM.b dX5_gets_106 (by decide) ?_
            refine lv_idiv hM.x hM.b dX5_gets_107 (by decide) ?_
            refine k_cvp hw (k_runV [.int (3), .int (((κ38 (k) 5) / (3)))] [] hM hw (m_X5_tan l g κ38 _ (k) (3) (((κ38 (k) 5) / (3))) (hk) hm (vin_lit (by decide) : vp_in 3 4)) hm.1 (sh21 hk) rfl (k_gV u_ml_X5_26 u_im_X5_tan u_se_X5_tan u_ini_X5 u_co_X5_tan) (q_X5_tan) rfl rfl rfl ⟨Nat.le_of_ble_eq_true rfl, Nat.le_of_ble_eq_true rfl⟩ hl.1 rfl (Nat.le_of_ble_eq_true rfl) dX5_gets_108 ⟨Nat.le_of_ble_eq_true rfl, Nat.le_of_ble_eq_true rfl⟩) (fun κ40 H locs eκ40 hw => ?_)
            rw [eκ40] at hF
            try dsimp only at hF
            exact k_vret hM hr hw (Nat.le_of_ble_eq_true rfl) (Nat.le_of_ble_eq_true rfl) hF.symm dX5_gets_111
      · rw [if_neg c17] at hF
        refine lv_aload_n hM.x hM.b dX5_gets_34 rfl (lv_at hl 0 rfl) ?_
        refine lv_dup hM.x hM.b dX5_gets_35 rfl ?_
        refine k_get5 4 hM hw hk hm.1 (by decide) u_fl_X5_17 dX5_gets_36 ?_
        refine lv_iconst (v := 1) hM.x hM.b dX5_gets_39 (by decide) ?_
        refine lv_isub hM.x hM.b dX5_gets_40 ?_
        refine k_put5 4 hM hw hk hm.1 (by decide) u_fl_X5_17 dX5_gets_41 (fun H locs hw => ?_)
        obtain ⟨κ41, eκ41⟩ : ∃ z : Kp, up2 κ33 (k) 4 (((κ33 (k) 4) - (1))) = z := ⟨_, rfl⟩
        rw [eκ41] at hw
        rw [eκ41] at hF
        try dsimp only at hF
        refine lv_aload_n hM.x hM.b dX5_gets_44 rfl (lv_at hl 0 rfl) ?_
        refine lv_aload_n hM.x hM.b dX5_gets_45 rfl (lv_at hl 0 rfl) ?_
        refine k_get5 2 hM hw hk hm.1 (by decide) u_fl_X5_23 dX5_gets_46 ?_
        refine lv_aload_n hM.x hM.b dX5_gets_49 rfl (lv_at hl 0 rfl) ?_
        refine k_get5 5 hM hw hk hm.1 (by decide) u_fl_X5_20 dX5_gets_50 ?_
        refine k_cvp hw (k_runV [.int (κ41 (k) 2), .int (κ41 (k) 5)] [] hM hw (m_X5_tan l g κ41 _ (k) (κ41 (k) 2) (κ41 (k) 5) (hk) hm ((by rw [← eκ41, up2_ne _ _ (Or.inr (by decide))]; exact (by rw [← eκ33, up2_ne _ _ (Or.inr (by decide))]; exact hsd)))) hm.1 (sh21 hk) rfl (k_gV u_ml_X5_26 u_im_X5_tan u_se_X5_tan u_ini_X5 u_co_X5_tan) (q_X5_tan) rfl rfl rfl ⟨Nat.le_of_ble_eq_true rfl, Nat.le_of_ble_eq_true rfl⟩ hl.1 rfl (Nat.le_of_ble_eq_true rfl) dX5_gets_53 ⟨Nat.le_of_ble_eq_true rfl, Nat.le_of_ble_eq_true rfl⟩) (fun κ42 H locs eκ42 hw => ?_)
        rw [eκ42] at hF
        try dsimp only at hF
        refine lv_aload_n hM.x hM.b dX5_gets_56 rfl (lv_at hl 0 rfl) ?_
        refine lv_aload_n hM.x hM.b dX5_gets_57 rfl (lv_at hl 0 rfl) ?_
        refine k_get5 2 hM hw hk hm.1 (by decide) u_fl_X5_23 dX5_gets_58 ?_
        refine lv_iconst (v := 3) hM.x hM.b dX5_gets_61 (by decide) ?_
        refine lv_icmp_ne (tgt := 69) hM.x hM.b dX5_gets_62 (by decide) (fun c21 => ?_) (fun c21 => ?_)
        · rw [if_neg c21] at hF
          refine lv_aload_n hM.x hM.b dX5_gets_69 rfl (lv_at hl 0 rfl) ?_
          refine k_get5 2 hM hw hk hm.1 (by decide) u_fl_X5_23 dX5_gets_70 ?_
          refine lv_iconst (v := 1) hM.x hM.b dX5_gets_73 (by decide) ?_
          refine lv_iadd hM.x hM.b dX5_gets_74 ?_
          refine lv_aload_n hM.x hM.b dX5_gets_75 rfl (lv_at hl 0 rfl) ?_
          refine k_get5 5 hM hw hk hm.1 (by decide) u_fl_X5_20 dX5_gets_76 ?_
          refine lv_iconst (v := 3) hM.x hM.b dX5_gets_79 (by decide) ?_
          refine lv_idiv hM.x hM.b dX5_gets_80 (by decide) ?_
          refine k_cvp hw (k_runV [.int (((κ42 (k) 2) + (1))), .int (((κ42 (k) 5) / (3)))] [] hM hw (m_X5_tan l g κ42 _ (k) (((κ42 (k) 2) + (1))) (((κ42 (k) 5) / (3))) (hk) hm (sd_next (by rw [← eκ42, tan_side]; exact (by rw [← eκ41, up2_ne _ _ (Or.inr (by decide))]; exact (by rw [← eκ33, up2_ne _ _ (Or.inr (by decide))]; exact hsd))) c21)) hm.1 (sh21 hk) rfl (k_gV u_ml_X5_26 u_im_X5_tan u_se_X5_tan u_ini_X5 u_co_X5_tan) (q_X5_tan) rfl rfl rfl ⟨Nat.le_of_ble_eq_true rfl, Nat.le_of_ble_eq_true rfl⟩ hl.1 rfl (Nat.le_of_ble_eq_true rfl) dX5_gets_81 ⟨Nat.le_of_ble_eq_true rfl, Nat.le_of_ble_eq_true rfl⟩) (fun κ43 H locs eκ43 hw => ?_)
          rw [eκ43] at hF
          try dsimp only at hF
          refine lv_aload_n hM.x hM.b dX5_gets_84 rfl (lv_at hl 0 rfl) ?_
          refine lv_aload_n hM.x hM.b dX5_gets_85 rfl (lv_at hl 0 rfl) ?_
          refine k_get5 2 hM hw hk hm.1 (by decide) u_fl_X5_23 dX5_gets_86 ?_
          refine lv_if_ne (tgt := 96) hM.x hM.b dX5_gets_89 (by decide) (fun c22 => ?_) (fun c22 => ?_)
          · rw [if_neg c22] at hF
            refine lv_aload_n hM.x hM.b dX5_gets_96 rfl (lv_at hl 0 rfl) ?_
            refine k_get5 2 hM hw hk hm.1 (by decide) u_fl_X5_23 dX5_gets_97 ?_
            refine lv_iconst (v := 1) hM.x hM.b dX5_gets_100 (by decide) ?_
            refine lv_isub hM.x hM.b dX5_gets_101 ?_
            refine lv_aload_n hM.x hM.b dX5_gets_102 rfl (lv_at hl 0 rfl) ?_
            refine k_get5 5 hM hw hk hm.1 (by decide) u_fl_X5_20 dX5_gets_103 ?_
            refine lv_iconst (v := 3) hM.x hM.b dX5_gets_106 (by decide) ?_
            refine lv_idiv hM.x hM.b dX5_gets_107 (by decide) ?_
            refine k_cvp hw (k_runV [.int (((κ43 (k) 2) - (1))), .int (((κ43 (k) 5) / (3)))] [] hM hw (m_X5_tan l g κ43 _ (k) (((κ43 (k) 2) - (1))) (((κ43 (k) 5) / (3))) (hk) hm (sd_prev (by rw [← eκ43, tan_side]; exact (by rw [← eκ42, tan_side]; exact (by rw [← eκ41, up2_ne _ _ (Or.inr (by decide))]; exact (by rw [← eκ33, up2_ne _ _ (Or.inr (by decide))]; exact hsd)))) c22)) hm.1 (sh21 hk) rfl (k_gV u_ml_X5_26 u_im_X5_tan u_se_X5_tan u_ini_X5 u_co_X5_tan) (q_X5_tan) rfl rfl rfl ⟨Nat.le_of_ble_eq_true rfl, Nat.le_of_ble_eq_true rfl⟩ hl.1 rfl (Nat.le_of_ble_eq_true rfl) dX5_gets_108 ⟨Nat.le_of_ble_eq_true rfl, Nat.le_of_ble_eq_true rfl⟩) (fun κ44 H locs eκ44 hw => ?_)
            rw [eκ44] at hF
            try dsimp only at hF
            exact k_vret hM hr hw (Nat.le_of_ble_eq_true rfl) (Nat.le_of_ble_eq_true rfl) hF.symm dX5_gets_111
          · rw [if_pos c22] at hF
            refine lv_iconst (v := 3) hM.x hM.b dX5_gets_92 (by decide) ?_
            refine lv_goto (tgt := 102) hM.x hM.b dX5_gets_93 (by decide) ?_
            refine lv_aload_n hM.x hM.b dX5_gets_102 rfl (lv_at hl 0 rfl) ?_
            refine k_get5 5 hM hw hk hm.1 (by decide) u_fl_X5_20 dX5_gets_103 ?_
            refine lv_iconst (v := 3) hM.x hM.b dX5_gets_106 (by decide) ?_
            refine lv_idiv hM.x hM.b dX5_gets_107 (by decide) ?_
            refine k_cvp hw (k_runV [.int (3), .int (((κ43 (k) 5) / (3)))] [] hM hw (m_X5_tan l g κ43 _ (k) (3) (((κ43 (k) 5) / (3))) (hk) hm (vin_lit (by decide) : vp_in 3 4)) hm.1 (sh21 hk) rfl (k_gV u_ml_X5_26 u_im_X5_tan u_se_X5_tan u_ini_X5 u_co_X5_tan) (q_X5_tan) rfl rfl rfl ⟨Nat.le_of_ble_eq_true rfl, Nat.le_of_ble_eq_true rfl⟩ hl.1 rfl (Nat.le_of_ble_eq_true rfl) dX5_gets_108 ⟨Nat.le_of_ble_eq_true rfl, Nat.le_of_ble_eq_true rfl⟩) (fun κ45 H locs eκ45 hw => ?_)
            rw [eκ45] at hF
            try dsimp only at hF
            exact k_vret hM hr hw (Nat.le_of_ble_eq_true rfl) (Nat.le_of_ble_eq_true rfl) hF.symm dX5_gets_111
        · rw [if_pos c21] at hF
          refine lv_iconst (v := 0) hM.x hM.b dX5_gets_65 (by decide) ?_
          refine lv_goto (tgt := 75) hM.x hM.b dX5_gets_66 (by decide) ?_
          refine lv_aload_n hM.x hM.b dX5_gets_75 rfl (lv_at hl 0 rfl) ?_
          refine k_get5 5 hM hw hk hm.1 (by decide) u_fl_X5_20 dX5_gets_76 ?_
          refine lv_iconst (v := 3) hM.x hM.b dX5_gets_79 (by decide) ?_
          refine lv_idiv hM.x hM.b dX5_gets_80 (by decide) ?_
          refine k_cvp hw (k_runV [.int (0), .int (((κ42 (k) 5) / (3)))] [] hM hw (m_X5_tan l g κ42 _ (k) (0) (((κ42 (k) 5) / (3))) (hk) hm (vin_lit (by decide) : vp_in 0 4)) hm.1 (sh21 hk) rfl (k_gV u_ml_X5_26 u_im_X5_tan u_se_X5_tan u_ini_X5 u_co_X5_tan) (q_X5_tan) rfl rfl rfl ⟨Nat.le_of_ble_eq_true rfl, Nat.le_of_ble_eq_true rfl⟩ hl.1 rfl (Nat.le_of_ble_eq_true rfl) dX5_gets_81 ⟨Nat.le_of_ble_eq_true rfl, Nat.le_of_ble_eq_true rfl⟩) (fun κ46 H locs eκ46 hw => ?_)
          rw [eκ46] at hF
          try dsimp only at hF
          refine lv_aload_n hM.x hM.b dX5_gets_84 rfl (lv_at hl 0 rfl) ?_
          refine lv_aload_n hM.x hM.b dX5_gets_85 rfl (lv_at hl 0 rfl) ?_
          refine k_get5 2 hM hw hk hm.1 (by decide) u_fl_X5_23 dX5_gets_86 ?_
          refine lv_if_ne (tgt := 96) hM.x hM.b dX5_gets_89 (by decide) (fun c23 => ?_) (fun c23 => ?_)
          · rw [if_neg c23] at hF
            refine lv_aload_n hM.x hM.b dX5_gets_96 rfl (lv_at hl 0 rfl) ?_
            refine k_get5 2 hM hw hk hm.1 (by decide) u_fl_X5_23 dX5_gets_97 ?_
            refine lv_iconst (v := 1) hM.x hM.b dX5_gets_100 (by decide) ?_
            refine lv_isub hM.x hM.b dX5_gets_101 ?_
            refine lv_aload_n hM.x hM.b dX5_gets_102 rfl (lv_at hl 0 rfl) ?_
            refine k_get5 5 hM hw hk hm.1 (by decide) u_fl_X5_20 dX5_gets_103 ?_
            refine lv_iconst (v := 3) hM.x hM.b dX5_gets_106 (by decide) ?_
            refine lv_idiv hM.x hM.b dX5_gets_107 (by decide) ?_
            refine k_cvp hw (k_runV [.int (((κ46 (k) 2) - (1))), .int (((κ46 (k) 5) / (3)))] [] hM hw (m_X5_tan l g κ46 _ (k) (((κ46 (k) 2) - (1))) (((κ46 (k) 5) / (3))) (hk) hm (sd_prev (by rw [← eκ46, tan_side]; exact (by rw [← eκ42, tan_side]; exact (by rw [← eκ41, up2_ne _ _ (Or.inr (by decide))]; exact (by rw [← eκ33, up2_ne _ _ (Or.inr (by decide))]; exact hsd)))) c23)) hm.1 (sh21 hk) rfl (k_gV u_ml_X5_26 u_im_X5_tan u_se_X5_tan u_ini_X5 u_co_X5_tan) (q_X5_tan) rfl rfl rfl ⟨Nat.le_of_ble_eq_true rfl, Nat.le_of_ble_eq_true rfl⟩ hl.1 rfl (Nat.le_of_ble_eq_true rfl) dX5_gets_108 ⟨Nat.le_of_ble_eq_true rfl, Nat.le_of_ble_eq_true rfl⟩) (fun κ47 H locs eκ47 hw => ?_)
            rw [eκ47] at hF
            try dsimp only at hF
            exact k_vret hM hr hw (Nat.le_of_ble_eq_true rfl) (Nat.le_of_ble_eq_true rfl) hF.symm dX5_gets_111
          · rw [if_pos c23] at hF
            refine lv_iconst (v := 3) hM.x hM.b dX5_gets_92 (by decide) ?_
            refine lv_goto (tgt := 102) hM.x hM.b dX5_gets_93 (by decide) ?_
            refine lv_aload_n hM.x hM.b dX5_gets_102 rfl (lv_at hl 0 rfl) ?_
            refine k_get5 5 hM hw hk hm.1 (by decide) u_fl_X5_20 dX5_gets_103 ?_
            refine lv_iconst (v := 3) hM.x hM.b dX5_gets_106 (by decide) ?_
            refine lv_idiv hM.x hM.b dX5_gets_107 (by decide) ?_
            refine k_cvp hw (k_runV [.int (3), .int (((κ46 (k) 5) / (3)))] [] hM hw (m_X5_tan l g κ46 _ (k) (3) (((κ46 (k) 5) / (3))) (hk) hm (vin_lit (by decide) : vp_in 3 4)) hm.1 (sh21 hk) rfl (k_gV u_ml_X5_26 u_im_X5_tan u_se_X5_tan u_ini_X5 u_co_X5_tan) (q_X5_tan) rfl rfl rfl ⟨Nat.le_of_ble_eq_true rfl, Nat.le_of_ble_eq_true rfl⟩ hl.1 rfl (Nat.le_of_ble_eq_true rfl) dX5_gets_108 ⟨Nat.le_of_ble_eq_true rfl, Nat.le_of_ble_eq_true rfl⟩) (fun κ48 H locs eκ48 hw => ?_)
            rw [eκ48] at hF
            try dsimp only at hF
            exact k_vret hM hr hw (Nat.le_of_ble_eq_true rfl) (Nat.le_of_ble_eq_true rfl) hF.symm dX5_gets_111
