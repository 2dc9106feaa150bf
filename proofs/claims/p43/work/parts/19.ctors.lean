/-- the numbers at the start: the feast at 120, no roast on a spit, no spit of a roast; else 0 -/
def κst (q j : Nat) : Int32 := if j = 7 then (if kd q = 1 then 120 else 0) else if j = 4 then (if kd q = 5 then 120 else 0) else if j = 5 then (if kd q = 3 then -1 else 0) else if j = 2 then (if kd q = 2 then -1 else 0) else 0
theorem κst_0 {q : Nat} (h : ¬ kd q = 1) (h5 : ¬ kd q = 5) (h3 : ¬ kd q = 3) (h2 : ¬ kd q = 2) : κst q = fun _ => 0 := by
  funext j
  unfold κst
  rw [if_neg h, if_neg h5, if_neg h3, if_neg h2]
  (repeat' split) <;> rfl
section SHST
variable {cA : Nat → ClassId} {ad : Nat → Nat} {q : Nat}
theorem shst0 (h : kd q = 0) : sh cA ad q (κst q) = .inr (0, [.int 0, .int 0, .int 0]) := by
  rw [sh0 h, κst_0 (by omega) (by omega) (by omega) (by omega)]
theorem shst6 (h : kd q = 6) : sh cA ad q (κst q) = .inl (cA 0, 4, .inl (fun _ => 0)) := by
  rw [sh6 h, κst_0 (by omega) (by omega) (by omega) (by omega)]
theorem shst3 (h : kd q = 3) : sh cA ad q (κst q) = .inr (3, [.int 0, .int 0, .int 0, .int 0, .int 0, .int (-1)]) := by
  rw [sh3 h]
  unfold κst
  rw [h]
  rfl
theorem shst2 (h : kd q = 2) : sh cA ad q (κst q) = .inr (2, [.ref (ad (q + 1)), .int 0, .int (-1), .int 0, .int 0, .int 0]) := by
  rw [sh2 h]
  unfold κst
  rw [h]
  rfl
theorem shst1 (h : kd q = 1) : sh cA ad q (κst q) = .inr (1, [.ref (ad (q + 1)), .ref (ad (q + 2)), .ref (ad (q + 3)), .int 0, .int 0, .int 0, .int 0, .int 120]) := by
  rw [sh1 h]
  unfold κst
  rw [h]
  rfl
end SHST
theorem va_up_up {α : Type} (f : Nat → α) (k : Nat) (a b : α) : va_up (va_up f k a) k b = va_up f k b := by
  funext j
  unfold va_up
  by_cases h : j = k
  · rw [if_pos h, if_pos h]
  · rw [if_neg h, if_neg h, if_neg h]
section MKA
variable {p : Program} {s : State} {m : MethodId} {args : Array Value} {meth : Method} {c : Code} {cc : ByteArray} {nL a0 : Nat} {D : va_G} {cA : Nat → ClassId} {own : String}
theorem Mk.x (hM : Mk D cA a0 p s m args meth c cc nL own) : p.tables.exec = Jvm.exec := hM.1.1
theorem Mk.b (hM : Mk D cA a0 p s m args meth c cc nL own) : c.code = cc := hM.1.2.1
end MKA
set_option maxRecDepth 100000 in
set_option maxHeartbeats 4000000 in
theorem m_X0_init (l : Launch) (D : va_G) (cA : Nat → ClassId) (a0 n k : Nat) (X : Nat → va_E) : Met l yX0_init (.code yX0_init cX0_init 1 none :: uW) { frames := 1, cells := 0, slots := 0, locals := 20 } (PC D cA a0 n X [.ref (a0 + k)]) (PQ D a0 n X) 0 0 (fun q => a0 ≤ q) := by
  refine g_enter (by decide +kernel) rfl (Nat.le_of_ble_eq_true rfl) ?_
  intro p e s m below meth c ls hM hr hl hG hsz
  have hl : lv_has ls 1 [(0, .ref (a0 + k))] := hl
  refine lv_aload_n hM.x hM.b dX0_init_0 rfl (lv_at hl 0 rfl) ?_
  refine g_obj hM u_ml_X0_3 hl.1 dX0_init_1 (Nat.le_of_ble_eq_true rfl) (Nat.le_of_ble_eq_true rfl) ?_
  exact g_vret hM hr hG (Nat.le_refl _) (Nat.le_refl _) dX0_init_4
set_option maxRecDepth 100000 in
set_option maxHeartbeats 4000000 in
theorem m_X3_init (l : Launch) (D : va_G) (cA : Nat → ClassId) (a0 n k : Nat) (X : Nat → va_E) (hk : k < n) (hX : X k = .inr (3, [.int 0, .int 0, .int 0, .int 0, .int 0, .int 0])) : Met l yX3_init (.code yX3_init cX3_init 1 none :: uW) { frames := 1, cells := 0, slots := 0, locals := 20 } (PC D cA a0 n X [.ref (a0 + k)]) (PQ D a0 n (va_up X k (.inr (3, [.int 0, .int 0, .int 0, .int 0, .int 0, .int (-1)])))) 0 0 (fun q => a0 ≤ q) := by
  refine g_enter (by decide +kernel) rfl (Nat.le_of_ble_eq_true rfl) ?_
  intro p e s m below meth c ls hM hr hl hG hsz
  have hl : lv_has ls 1 [(0, .ref (a0 + k))] := hl
  refine lv_aload_n hM.x hM.b dX3_init_0 rfl (lv_at hl 0 rfl) ?_
  refine g_obj hM u_ml_X3_3 hl.1 dX3_init_1 (Nat.le_of_ble_eq_true rfl) (Nat.le_of_ble_eq_true rfl) ?_
  refine lv_aload_n hM.x hM.b dX3_init_4 rfl (lv_at hl 0 rfl) ?_
  refine lv_iconst (v := -1) hM.x hM.b dX3_init_5 (by decide) ?_
  refine g_put (C := RX3) (T := TX3) (N := 6) (ty := .int) hM hG hk hX rfl inW3 tyX3 tyX3_ok nmX3 5 (by decide) u_fl_X3_9 rfl (tyX3_ok 5 (by decide)) rfl rfl (Nat.le_of_ble_eq_true rfl) dX3_init_6 (fun H locs hG => ?_)
  exact g_vret hM hr hG (Nat.le_refl _) (Nat.le_refl _) dX3_init_9
set_option maxRecDepth 100000 in
set_option maxHeartbeats 4000000 in
theorem m_X2_init (l : Launch) (D : va_G) (cA : Nat → ClassId) (a0 n k : Nat) (X : Nat → va_E) (hk : k < n) (hX : X k = .inr (2, [.null, .int 0, .int 0, .int 0, .int 0, .int 0])) : Met l yX2_init (.code yX2_init cX2_init 1 none :: uW) { frames := 1, cells := 1, slots := 4, locals := 20 } (PC D cA a0 n X [.ref (a0 + k)]) (PQ D a0 (n + 1) (va_up (va_up X n (.inl (cA 0, 4, .inl (fun _ => 0)))) k (.inr (2, [.ref (a0 + n), .int 0, .int (-1), .int 0, .int 0, .int 0])))) 1 4 (fun q => a0 ≤ q) := by
  refine g_enter (by decide +kernel) rfl (Nat.le_of_ble_eq_true rfl) ?_
  intro p e s m below meth c ls hM hr hl hG hsz
  have hl : lv_has ls 1 [(0, .ref (a0 + k))] := hl
  refine lv_aload_n hM.x hM.b dX2_init_0 rfl (lv_at hl 0 rfl) ?_
  refine g_obj hM u_ml_X2_3 hl.1 dX2_init_1 (Nat.le_of_ble_eq_true rfl) (Nat.le_of_ble_eq_true rfl) ?_
  refine lv_aload_n hM.x hM.b dX2_init_4 rfl (lv_at hl 0 rfl) ?_
  refine lv_iconst (v := 4) hM.x hM.b dX2_init_5 (by decide) ?_
  refine g_newI (N := 4) hM hG (by omega) rfl (by decide) (Nat.le_of_ble_eq_true rfl) (Nat.le_of_ble_eq_true rfl) dX2_init_6 (fun H hG => ?_)
  refine g_putF (C := RX2) (T := TX2) (N := 6) (ty := .array .int) hM (by decide +kernel) hG (by omega) ((va_up_ne _ _ (by omega)).trans hX) rfl inW2 tyX2 tyX2_ok nmX2 0 (by decide) u_fl_X2_9 rfl rfl (tyX2_ok 0 (by decide)) rfl rfl (Nat.le_of_ble_eq_true rfl) dX2_init_8 (fun H locs hG => ?_)
  refine lv_aload_n hM.x hM.b dX2_init_11 rfl (lv_at hl 0 rfl) ?_
  refine lv_iconst (v := -1) hM.x hM.b dX2_init_12 (by decide) ?_
  refine g_put (C := RX2) (T := TX2) (N := 6) (ty := .int) hM hG (by omega) (va_up_self _ _ _) rfl inW2 tyX2 tyX2_ok nmX2 2 (by decide) u_fl_X2_15 rfl (tyX2_ok 2 (by decide)) rfl rfl (Nat.le_of_ble_eq_true rfl) dX2_init_13 (fun H locs hG => ?_)
  rw [va_up_up] at hG
  exact g_vret hM hr hG (Nat.le_refl _) (Nat.le_refl _) dX2_init_16
/-- a kitchen at k0 as it is made: i fires, j spits, l roasts stand in their rows -/
def kitX (cA : Nat → ClassId) (a0 k0 : Nat) (X : Nat → va_E) (i j l : Nat) : Nat → va_E := fun q =>
  if q < k0 then X q
  else if q = k0 then .inr (1, [.ref (a0 + (k0 + 1)), .ref (a0 + (k0 + 2)), .ref (a0 + (k0 + 3)), .int 0, .int 0, .int 0, .int 0, .int 120])
  else if q = k0 + 1 then .inl (cA 2, 3, Qr (fun t => if t < i then some (a0 + (k0 + 4 + t)) else none))
  else if q = k0 + 2 then .inl (cA 3, 6, Qr (fun t => if t < j then some (a0 + (k0 + 7 + t)) else none))
  else if q = k0 + 3 then .inl (cA 4, 16, Qr (fun t => if t < l then some (a0 + (k0 + 13 + 2 * t)) else none))
  else sh cA (fun k => a0 + k) q (κst q)
section KITX
variable {cA : Nat → ClassId} {a0 k0 : Nat} {X : Nat → va_E} {i j l q : Nat}
theorem kx_lt (h : q < k0) : kitX cA a0 k0 X i j l q = X q := if_pos h
theorem kx0 : kitX cA a0 k0 X i j l k0 = .inr (1, [.ref (a0 + (k0 + 1)), .ref (a0 + (k0 + 2)), .ref (a0 + (k0 + 3)), .int 0, .int 0, .int 0, .int 0, .int 120]) := by
  unfold kitX
  rw [if_neg (by omega), if_pos rfl]
theorem kx1 : kitX cA a0 k0 X i j l (k0 + 1) = .inl (cA 2, 3, Qr (fun t => if t < i then some (a0 + (k0 + 4 + t)) else none)) := by
  unfold kitX
  rw [if_neg (by omega), if_neg (by omega), if_pos rfl]
theorem kx2 : kitX cA a0 k0 X i j l (k0 + 2) = .inl (cA 3, 6, Qr (fun t => if t < j then some (a0 + (k0 + 7 + t)) else none)) := by
  unfold kitX
  rw [if_neg (by omega), if_neg (by omega), if_neg (by omega), if_pos rfl]
theorem kx3 : kitX cA a0 k0 X i j l (k0 + 3) = .inl (cA 4, 16, Qr (fun t => if t < l then some (a0 + (k0 + 13 + 2 * t)) else none)) := by
  unfold kitX
  rw [if_neg (by omega), if_neg (by omega), if_neg (by omega), if_neg (by omega), if_pos rfl]
theorem kx_r (h : k0 + 3 < q) : kitX cA a0 k0 X i j l q = sh cA (fun k => a0 + k) q (κst q) := by
  unfold kitX
  rw [if_neg (by omega), if_neg (by omega), if_neg (by omega), if_neg (by omega), if_neg (by omega)]
theorem q_up {f : Nat → Nat} {i : Nat} : va_up (fun t => if t < i then some (f t) else none) i (some (f i)) = fun t => if t < i + 1 then some (f t) else none := by
  funext t
  unfold va_up
  by_cases h : t = i
  · subst h
    rw [if_pos rfl, if_pos (by omega)]
  · rw [if_neg h]
    dsimp only
    by_cases h2 : t < i
    · rw [if_pos h2, if_pos (by omega)]
    · rw [if_neg h2, if_neg (by omega)]
end KITX
set_option maxRecDepth 100000 in
set_option maxHeartbeats 4000000 in
theorem ml_X1_init_38 {p : Program} {e : Env} {s : State} {m : MethodId} {below : List Frame} {meth : Method} {c : Code} {Q : State → Prop} (l : Launch) (D : va_G) (cA : Nat → ClassId) (a0 k0 : Nat) (X : Nat → va_E) (hk : kd k0 = 1) (hM : Mk D cA a0 p s m ([.ref (a0 + k0)] : List Value).toArray meth c cX1_init 2 yX1_init.cls) (hsz : s.heap.size = a0 + (k0 + 1)) (hx : ∀ (H : Heap) (locs : List Loc) (ls : Array Slot), lv_has ls 2 [(1, .int (nI 3)), (0, .ref (a0 + k0))] → Gv D a0 (k0 + 4 + 3) (kitX cA a0 k0 X 3 0 0) s H locs → W p l e { frames := 2, cells := 44, slots := 230, locals := 40 } s m ([.ref (a0 + k0)] : List Value).toArray below meth c H locs 6 34 Q (F0 m 66 ls [])) : ∀ (d i : Nat), i + d = 3 → ∀ (H : Heap) (locs : List Loc) (ls : Array Slot), lv_has ls 2 [(1, .int (nI i)), (0, .ref (a0 + k0))] → Gv D a0 (k0 + 4 + i) (kitX cA a0 k0 X i 0 0) s H locs → W p l e { frames := 2, cells := 44, slots := 230, locals := 40 } s m ([.ref (a0 + k0)] : List Value).toArray below meth c H locs (3 + 1 * i) (25 + 3 * i) Q (F0 m 38 ls []) := by
  intro d
  induction d with
  | zero =>
    intro i hi H locs ls hl hG
    have e : i = 3 := by omega
    subst e
    refine lv_iload_n hM.x hM.b dX1_init_38 rfl (lv_at hl 0 rfl) ?_
    refine lv_aload_n hM.x hM.b dX1_init_39 rfl (lv_at hl 1 rfl) ?_
    refine g_get (C := RX1) (T := TX1) (N := 8) hM hG (by omega) kx0 rfl inW1 0 (by decide) u_fl_X1_11 rfl dX1_init_40 ?_
    refine g_alen (N := 3) (j := 2) (v := nI 3) hM hG (by omega) kx1 rfl rfl dX1_init_43 ?_
    refine lv_icmp_ge (tgt := 66) hM.x hM.b dX1_init_44 (by decide) (fun _ => ?_) (fun cz => absurd (nI_le (by omega) (by omega) : nI 3 ≤ nI 3) cz)
    exact hx H locs ls hl hG
  | succ d ih =>
    intro i hi H locs ls hl hG
    refine lv_iload_n hM.x hM.b dX1_init_38 rfl (lv_at hl 0 rfl) ?_
    refine lv_aload_n hM.x hM.b dX1_init_39 rfl (lv_at hl 1 rfl) ?_
    refine g_get (C := RX1) (T := TX1) (N := 8) hM hG (by omega) kx0 rfl inW1 0 (by decide) u_fl_X1_11 rfl dX1_init_40 ?_
    refine g_alen (N := 3) (j := 2) (v := nI 3) hM hG (by omega) kx1 rfl rfl dX1_init_43 ?_
    refine lv_icmp_ge (tgt := 66) hM.x hM.b dX1_init_44 (by decide) (fun cz => absurd cz (nI_ge (by omega) (by decide) : ¬ nI 3 ≤ nI i)) (fun _ => ?_)
    refine lv_aload_n hM.x hM.b dX1_init_47 rfl (lv_at hl 1 rfl) ?_
    refine g_get (C := RX1) (T := TX1) (N := 8) hM hG (by omega) kx0 rfl inW1 0 (by decide) u_fl_X1_11 rfl dX1_init_48 ?_
    refine lv_iload_n hM.x hM.b dX1_init_51 rfl (lv_at hl 0 rfl) ?_
    refine g_new (C := RX0) (T := TX0) (N := 3) (ci := 0) (fs := [.int 0, .int 0, .int 0]) hM hG (by omega) inW0 tyX0 tyX0_ok u_cl_X1_9 u_ins_X0 u_ini_X0 rfl (fun j hj => by match j, hj with | 0, _ => rfl | 1, _ => rfl | 2, _ => rfl) (show 3 + 1 * i + 1 ≤ 44 by omega) (show 25 + 3 * i + 3 ≤ 230 by omega) dX1_init_52 (fun H hG => ?_)
    refine lv_dup hM.x hM.b dX1_init_55 rfl ?_
    refine g_runIN (host := "KitchenSpits") hM hG (by omega) (m_X0_init l D cA a0 _ _ _ ) (by omega) hM.2.1.2.2.1 u_im_X0_init u_ini_X0 u_co_X0_init rfl ⟨by decide +kernel, by decide +kernel, by decide +kernel⟩ rfl rfl ⟨Nat.le_of_ble_eq_true rfl, Nat.le_of_ble_eq_true rfl⟩ hl.1 (Nat.le_of_ble_eq_true rfl) dX1_init_56 ⟨show 3 + 1 * i + 1 + 0 ≤ 44 by omega, show 25 + 3 * i + 3 + 0 ≤ 230 by omega⟩ (fun H locs hG => ?_)
    refine g_astq (r := (RX0, TX0, 3)) (N := 3) (i := i) (j := 2) (ci := 0) hM hG (by omega) ((va_up_ne _ _ (by omega)).trans kx1) rfl (by omega) (va_up_self _ _ _) rfl (by omega) (by decide) dX1_init_59 (fun H locs hG => ?_)
    refine lv_iinc (v := nI (i + 1)) (lv' := [(1, .int (nI (i + 1))), (0, .ref (a0 + k0))]) hM.x hM.b dX1_init_60 hl (k := 0) rfl (nI_1 i) (by decide) rfl (fun ls hl => ?_)
    refine lv_goto (tgt := 38) hM.x hM.b dX1_init_63 (by decide) ?_
    refine W.widen (k := 3 + 1 * (i + 1)) (n := 25 + 3 * (i + 1)) (by omega) (by omega) ?_
    refine ih (i + 1) (by omega) H locs ls hl (Gv.congr (n := k0 + 4 + (i + 1)) hG (fun q hq => ?_))
    by_cases e1 : q = k0 + 1
    · subst e1
      rw [va_up_self, kx1]
      exact congrArg (fun f => (.inl (cA 2, 3, Qr f) : va_E)) q_up
    · rw [va_up_ne _ _ e1]
      by_cases e2 : q = k0 + 4 + i
      · subst e2
        rw [va_up_self, kx_r (by omega), shst0 (kd1_0 hk (by omega))]
      · rw [va_up_ne _ _ e2]
        unfold kitX
        by_cases c0 : q < k0
        · rw [if_pos c0, if_pos c0]
        · rw [if_neg c0, if_neg c0]
          by_cases c1 : q = k0
          · rw [if_pos c1, if_pos c1]
          · rw [if_neg c1, if_neg c1, if_neg e1, if_neg e1]
set_option maxRecDepth 100000 in
set_option maxHeartbeats 4000000 in
theorem ml_X1_init_68 {p : Program} {e : Env} {s : State} {m : MethodId} {below : List Frame} {meth : Method} {c : Code} {Q : State → Prop} (l : Launch) (D : va_G) (cA : Nat → ClassId) (a0 k0 : Nat) (X : Nat → va_E) (hk : kd k0 = 1) (hM : Mk D cA a0 p s m ([.ref (a0 + k0)] : List Value).toArray meth c cX1_init 2 yX1_init.cls) (hsz : s.heap.size = a0 + (k0 + 1)) (hx : ∀ (H : Heap) (locs : List Loc) (ls : Array Slot), lv_has ls 2 [(1, .int (nI 6)), (0, .ref (a0 + k0))] → Gv D a0 (k0 + 7 + 6) (kitX cA a0 k0 X 3 6 0) s H locs → W p l e { frames := 2, cells := 44, slots := 230, locals := 40 } s m ([.ref (a0 + k0)] : List Value).toArray below meth c H locs 12 70 Q (F0 m 96 ls [])) : ∀ (d i : Nat), i + d = 6 → ∀ (H : Heap) (locs : List Loc) (ls : Array Slot), lv_has ls 2 [(1, .int (nI i)), (0, .ref (a0 + k0))] → Gv D a0 (k0 + 7 + i) (kitX cA a0 k0 X 3 i 0) s H locs → W p l e { frames := 2, cells := 44, slots := 230, locals := 40 } s m ([.ref (a0 + k0)] : List Value).toArray below meth c H locs (6 + 1 * i) (34 + 6 * i) Q (F0 m 68 ls []) := by
  intro d
  induction d with
  | zero =>
    intro i hi H locs ls hl hG
    have e : i = 6 := by omega
    subst e
    refine lv_iload_n hM.x hM.b dX1_init_68 rfl (lv_at hl 0 rfl) ?_
    refine lv_aload_n hM.x hM.b dX1_init_69 rfl (lv_at hl 1 rfl) ?_
    refine g_get (C := RX1) (T := TX1) (N := 8) hM hG (by omega) kx0 rfl inW1 1 (by decide) u_fl_X1_19 rfl dX1_init_70 ?_
    refine g_alen (N := 6) (j := 3) (v := nI 6) hM hG (by omega) kx2 rfl rfl dX1_init_73 ?_
    refine lv_icmp_ge (tgt := 96) hM.x hM.b dX1_init_74 (by decide) (fun _ => ?_) (fun cz => absurd (nI_le (by omega) (by omega) : nI 6 ≤ nI 6) cz)
    exact hx H locs ls hl hG
  | succ d ih =>
    intro i hi H locs ls hl hG
    refine lv_iload_n hM.x hM.b dX1_init_68 rfl (lv_at hl 0 rfl) ?_
    refine lv_aload_n hM.x hM.b dX1_init_69 rfl (lv_at hl 1 rfl) ?_
    refine g_get (C := RX1) (T := TX1) (N := 8) hM hG (by omega) kx0 rfl inW1 1 (by decide) u_fl_X1_19 rfl dX1_init_70 ?_
    refine g_alen (N := 6) (j := 3) (v := nI 6) hM hG (by omega) kx2 rfl rfl dX1_init_73 ?_
    refine lv_icmp_ge (tgt := 96) hM.x hM.b dX1_init_74 (by decide) (fun cz => absurd cz (nI_ge (by omega) (by decide) : ¬ nI 6 ≤ nI i)) (fun _ => ?_)
    refine lv_aload_n hM.x hM.b dX1_init_77 rfl (lv_at hl 1 rfl) ?_
    refine g_get (C := RX1) (T := TX1) (N := 8) hM hG (by omega) kx0 rfl inW1 1 (by decide) u_fl_X1_19 rfl dX1_init_78 ?_
    refine lv_iload_n hM.x hM.b dX1_init_81 rfl (lv_at hl 0 rfl) ?_
    refine g_new (C := RX3) (T := TX3) (N := 6) (ci := 3) (fs := [.int 0, .int 0, .int 0, .int 0, .int 0, .int 0]) hM hG (by omega) inW3 tyX3 tyX3_ok u_cl_X1_17 u_ins_X3 u_ini_X3 rfl (fun j hj => by match j, hj with | 0, _ => rfl | 1, _ => rfl | 2, _ => rfl | 3, _ => rfl | 4, _ => rfl | 5, _ => rfl) (show 6 + 1 * i + 1 ≤ 44 by omega) (show 34 + 6 * i + 6 ≤ 230 by omega) dX1_init_82 (fun H hG => ?_)
    refine lv_dup hM.x hM.b dX1_init_85 rfl ?_
    refine g_runIN (host := "KitchenSpits") hM hG (by omega) (m_X3_init l D cA a0 _ _ _ (by omega) (va_up_self _ _ _)) (by omega) hM.2.1.2.2.2.1 u_im_X3_init u_ini_X3 u_co_X3_init rfl ⟨by decide +kernel, by decide +kernel, by decide +kernel⟩ rfl rfl ⟨Nat.le_of_ble_eq_true rfl, Nat.le_of_ble_eq_true rfl⟩ hl.1 (Nat.le_of_ble_eq_true rfl) dX1_init_86 ⟨show 6 + 1 * i + 1 + 0 ≤ 44 by omega, show 34 + 6 * i + 6 + 0 ≤ 230 by omega⟩ (fun H locs hG => ?_)
    refine g_astq (r := (RX3, TX3, 6)) (N := 6) (i := i) (j := 3) (ci := 3) hM hG (by omega) ((va_up_ne _ _ (by omega)).trans ((va_up_ne _ _ (by omega)).trans kx2)) rfl (by omega) (va_up_self _ _ _) rfl (by omega) (by decide) dX1_init_89 (fun H locs hG => ?_)
    refine lv_iinc (v := nI (i + 1)) (lv' := [(1, .int (nI (i + 1))), (0, .ref (a0 + k0))]) hM.x hM.b dX1_init_90 hl (k := 0) rfl (nI_1 i) (by decide) rfl (fun ls hl => ?_)
    refine lv_goto (tgt := 68) hM.x hM.b dX1_init_93 (by decide) ?_
    refine W.widen (k := 6 + 1 * (i + 1)) (n := 34 + 6 * (i + 1)) (by omega) (by omega) ?_
    refine ih (i + 1) (by omega) H locs ls hl (Gv.congr (n := k0 + 7 + (i + 1)) hG (fun q hq => ?_))
    by_cases e1 : q = k0 + 2
    · subst e1
      rw [va_up_self, kx2]
      exact congrArg (fun f => (.inl (cA 3, 6, Qr f) : va_E)) q_up
    · rw [va_up_ne _ _ e1]
      by_cases e2 : q = k0 + 7 + i
      · subst e2
        rw [va_up_self, kx_r (by omega), shst3 (kd1_3 hk (by omega))]
      · rw [va_up_ne _ _ e2, va_up_ne _ _ e2]
        unfold kitX
        by_cases c0 : q < k0
        · rw [if_pos c0, if_pos c0]
        · rw [if_neg c0, if_neg c0]
          by_cases c1 : q = k0
          · rw [if_pos c1, if_pos c1]
          · rw [if_neg c1, if_neg c1]
            by_cases c2 : q = k0 + 1
            · rw [if_pos c2, if_pos c2]
            · rw [if_neg c2, if_neg c2, if_neg e1, if_neg e1]
set_option maxRecDepth 100000 in
set_option maxHeartbeats 4000000 in
theorem ml_X1_init_98 {p : Program} {e : Env} {s : State} {m : MethodId} {below : List Frame} {meth : Method} {c : Code} {Q : State → Prop} (l : Launch) (D : va_G) (cA : Nat → ClassId) (a0 k0 : Nat) (X : Nat → va_E) (hk : kd k0 = 1) (hM : Mk D cA a0 p s m ([.ref (a0 + k0)] : List Value).toArray meth c cX1_init 2 yX1_init.cls) (hsz : s.heap.size = a0 + (k0 + 1)) (hx : ∀ (H : Heap) (locs : List Loc) (ls : Array Slot), lv_has ls 2 [(1, .int (nI 16)), (0, .ref (a0 + k0))] → Gv D a0 (k0 + 13 + 2 * 16) (kitX cA a0 k0 X 3 6 16) s H locs → W p l e { frames := 2, cells := 44, slots := 230, locals := 40 } s m ([.ref (a0 + k0)] : List Value).toArray below meth c H locs 44 230 Q (F0 m 126 ls [])) : ∀ (d i : Nat), i + d = 16 → ∀ (H : Heap) (locs : List Loc) (ls : Array Slot), lv_has ls 2 [(1, .int (nI i)), (0, .ref (a0 + k0))] → Gv D a0 (k0 + 13 + 2 * i) (kitX cA a0 k0 X 3 6 i) s H locs → W p l e { frames := 2, cells := 44, slots := 230, locals := 40 } s m ([.ref (a0 + k0)] : List Value).toArray below meth c H locs (12 + 2 * i) (70 + 10 * i) Q (F0 m 98 ls []) := by
  intro d
  induction d with
  | zero =>
    intro i hi H locs ls hl hG
    have e : i = 16 := by omega
    subst e
    refine lv_iload_n hM.x hM.b dX1_init_98 rfl (lv_at hl 0 rfl) ?_
    refine lv_aload_n hM.x hM.b dX1_init_99 rfl (lv_at hl 1 rfl) ?_
    refine g_get (C := RX1) (T := TX1) (N := 8) hM hG (by omega) kx0 rfl inW1 2 (by decide) u_fl_X1_25 rfl dX1_init_100 ?_
    refine g_alen (N := 16) (j := 4) (v := nI 16) hM hG (by omega) kx3 rfl rfl dX1_init_103 ?_
    refine lv_icmp_ge (tgt := 126) hM.x hM.b dX1_init_104 (by decide) (fun _ => ?_) (fun cz => absurd (nI_le (by omega) (by omega) : nI 16 ≤ nI 16) cz)
    exact hx H locs ls hl hG
  | succ d ih =>
    intro i hi H locs ls hl hG
    refine lv_iload_n hM.x hM.b dX1_init_98 rfl (lv_at hl 0 rfl) ?_
    refine lv_aload_n hM.x hM.b dX1_init_99 rfl (lv_at hl 1 rfl) ?_
    refine g_get (C := RX1) (T := TX1) (N := 8) hM hG (by omega) kx0 rfl inW1 2 (by decide) u_fl_X1_25 rfl dX1_init_100 ?_
    refine g_alen (N := 16) (j := 4) (v := nI 16) hM hG (by omega) kx3 rfl rfl dX1_init_103 ?_
    refine lv_icmp_ge (tgt := 126) hM.x hM.b dX1_init_104 (by decide) (fun cz => absurd cz (nI_ge (by omega) (by decide) : ¬ nI 16 ≤ nI i)) (fun _ => ?_)
    refine lv_aload_n hM.x hM.b dX1_init_107 rfl (lv_at hl 1 rfl) ?_
    refine g_get (C := RX1) (T := TX1) (N := 8) hM hG (by omega) kx0 rfl inW1 2 (by decide) u_fl_X1_25 rfl dX1_init_108 ?_
    refine lv_iload_n hM.x hM.b dX1_init_111 rfl (lv_at hl 0 rfl) ?_
    refine g_new (C := RX2) (T := TX2) (N := 6) (ci := 2) (fs := [.null, .int 0, .int 0, .int 0, .int 0, .int 0]) hM hG (by omega) inW2 tyX2 tyX2_ok u_cl_X1_23 u_ins_X2 u_ini_X2 rfl (fun j hj => by match j, hj with | 0, _ => rfl | 1, _ => rfl | 2, _ => rfl | 3, _ => rfl | 4, _ => rfl | 5, _ => rfl) (show 12 + 2 * i + 1 ≤ 44 by omega) (show 70 + 10 * i + 6 ≤ 230 by omega) dX1_init_112 (fun H hG => ?_)
    refine lv_dup hM.x hM.b dX1_init_115 rfl ?_
    refine g_runIN (host := "KitchenSpits") hM hG (by omega) (m_X2_init l D cA a0 _ _ _ (by omega) (va_up_self _ _ _)) (by omega) hM.2.1.2.2.2.2 u_im_X2_init u_ini_X2 u_co_X2_init rfl ⟨by decide +kernel, by decide +kernel, by decide +kernel⟩ rfl rfl ⟨Nat.le_of_ble_eq_true rfl, Nat.le_of_ble_eq_true rfl⟩ hl.1 (Nat.le_of_ble_eq_true rfl) dX1_init_116 ⟨show 12 + 2 * i + 1 + 1 ≤ 44 by omega, show 70 + 10 * i + 6 + 4 ≤ 230 by omega⟩ (fun H locs hG => ?_)
    refine g_astq (r := (RX2, TX2, 6)) (N := 16) (i := i) (j := 4) (ci := 2) hM hG (by omega) ((va_up_ne _ _ (by omega)).trans ((va_up_ne _ _ (by omega)).trans ((va_up_ne _ _ (by omega)).trans kx3))) rfl (by omega) (va_up_self _ _ _) rfl (by omega) (by decide) dX1_init_119 (fun H locs hG => ?_)
    refine lv_iinc (v := nI (i + 1)) (lv' := [(1, .int (nI (i + 1))), (0, .ref (a0 + k0))]) hM.x hM.b dX1_init_120 hl (k := 0) rfl (nI_1 i) (by decide) rfl (fun ls hl => ?_)
    refine lv_goto (tgt := 98) hM.x hM.b dX1_init_123 (by decide) ?_
    refine W.widen (k := 12 + 2 * (i + 1)) (n := 70 + 10 * (i + 1)) (by omega) (by omega) ?_
    refine ih (i + 1) (by omega) H locs ls hl (Gv.congr (n := k0 + 13 + 2 * (i + 1)) hG (fun q hq => ?_))
    by_cases e1 : q = k0 + 3
    · subst e1
      rw [va_up_self, kx3]
      exact congrArg (fun f => (.inl (cA 4, 16, Qr f) : va_E)) (q_up (f := fun t => a0 + (k0 + 13 + 2 * t)))
    · rw [va_up_ne _ _ e1]
      by_cases e2 : q = k0 + 13 + 2 * i
      · subst e2
        rw [va_up_self, kx_r (by omega), shst2 (kd1_2 hk (by omega))]
      · rw [va_up_ne _ _ e2]
        by_cases e3 : q = k0 + 13 + 2 * i + 1
        · subst e3
          rw [va_up_self, kx_r (by omega), shst6 (kd2_6 (kd1_2 hk (by omega)))]
        · rw [va_up_ne _ _ e3, va_up_ne _ _ e2]
          unfold kitX
          by_cases c0 : q < k0
          · rw [if_pos c0, if_pos c0]
          · rw [if_neg c0, if_neg c0]
            by_cases c1 : q = k0
            · rw [if_pos c1, if_pos c1]
            · rw [if_neg c1, if_neg c1]
              by_cases c2 : q = k0 + 1
              · rw [if_pos c2, if_pos c2]
              · rw [if_neg c2, if_neg c2]
                by_cases c3 : q = k0 + 2
                · rw [if_pos c3, if_pos c3]
                · rw [if_neg c3, if_neg c3, if_neg e1, if_neg e1]
