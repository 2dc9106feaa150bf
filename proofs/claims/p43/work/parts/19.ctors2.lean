theorem q_0 {f : Nat → Nat} : (fun t => if t < 0 then some (f t) else none) = (fun _ => none : Nat → Option Nat) := by
  funext t
  rw [if_neg (by omega)]
/-- a kitchen made: at k0 and behind it all as at the start -/
def kitF (cA : Nat → ClassId) (a0 k0 : Nat) (X : Nat → va_E) : Nat → va_E := fun q => if q < k0 then X q else sh cA (fun k => a0 + k) q (κst q)
set_option maxRecDepth 100000 in
set_option maxHeartbeats 4000000 in
theorem m_X1_init (l : Launch) (D : va_G) (cA : Nat → ClassId) (a0 k0 : Nat) (X : Nat → va_E) (hk : kd k0 = 1) (hX : X k0 = .inr (1, [.null, .null, .null, .int 0, .int 0, .int 0, .int 0, .int 0])) : Met l yX1_init (.code yX1_init cX1_init 2 none :: uW) { frames := 2, cells := 44, slots := 230, locals := 40 } (PC D cA a0 (k0 + 1) X [.ref (a0 + k0)]) (PQ D a0 (k0 + 45) (kitF cA a0 k0 X)) 44 230 (fun q => a0 ≤ q) := by
  refine g_enter (by decide +kernel) rfl (Nat.le_of_ble_eq_true rfl) ?_
  intro p e s m below meth c ls hM hr hl hG hsz
  have hl : lv_has ls 2 [(0, .ref (a0 + k0))] := hl
  refine lv_aload_n hM.x hM.b dX1_init_0 rfl (lv_at hl 0 rfl) ?_
  refine g_obj hM u_ml_X1_3 hl.1 dX1_init_1 (Nat.le_of_ble_eq_true rfl) (Nat.le_of_ble_eq_true rfl) ?_
  refine lv_aload_n hM.x hM.b dX1_init_4 rfl (lv_at hl 0 rfl) ?_
  refine lv_iconst (v := 3) hM.x hM.b dX1_init_5 (by decide) ?_
  refine g_newq (N := 3) (j := 2) hM hG (by omega) rfl (by decide) u_cl_X1_9 hM.2.1.2.1.1 rfl (Nat.le_of_ble_eq_true rfl) (Nat.le_of_ble_eq_true rfl) dX1_init_6 (fun H hG => ?_)
  refine g_putF (C := RX1) (T := TX1) (N := 8) (ty := .array (.object "KitchenSpits$Fire")) hM (by decide +kernel) hG (by omega) ((va_up_ne _ _ (by omega)).trans hX) rfl inW1 tyX1 tyX1_ok nmX1 0 (by decide) u_fl_X1_11 rfl rfl (tyX1_ok 0 (by decide)) rfl rfl (Nat.le_of_ble_eq_true rfl) dX1_init_9 (fun H locs hG => ?_)
  refine lv_aload_n hM.x hM.b dX1_init_12 rfl (lv_at hl 0 rfl) ?_
  refine lv_bipush (v := 6) hM.x hM.b dX1_init_13 (by decide) ?_
  refine g_newq (N := 6) (j := 3) hM hG (by omega) rfl (by decide) u_cl_X1_17 hM.2.1.2.1.2.1 rfl (Nat.le_of_ble_eq_true rfl) (Nat.le_of_ble_eq_true rfl) dX1_init_15 (fun H hG => ?_)
  refine g_putF (C := RX1) (T := TX1) (N := 8) (ty := .array (.object "KitchenSpits$Spit")) hM (by decide +kernel) hG (by omega) ((va_up_ne _ _ (by omega)).trans (va_up_self _ _ _)) rfl inW1 tyX1 tyX1_ok nmX1 1 (by decide) u_fl_X1_19 rfl rfl (tyX1_ok 1 (by decide)) rfl rfl (Nat.le_of_ble_eq_true rfl) dX1_init_18 (fun H locs hG => ?_)
  refine lv_aload_n hM.x hM.b dX1_init_21 rfl (lv_at hl 0 rfl) ?_
  refine lv_bipush (v := 16) hM.x hM.b dX1_init_22 (by decide) ?_
  refine g_newq (N := 16) (j := 4) hM hG (by omega) rfl (by decide) u_cl_X1_23 hM.2.1.2.1.2.2 rfl (Nat.le_of_ble_eq_true rfl) (Nat.le_of_ble_eq_true rfl) dX1_init_24 (fun H hG => ?_)
  refine g_putF (C := RX1) (T := TX1) (N := 8) (ty := .array (.object "KitchenSpits$Roast")) hM (by decide +kernel) hG (by omega) ((va_up_ne _ _ (by omega)).trans (va_up_self _ _ _)) rfl inW1 tyX1 tyX1_ok nmX1 2 (by decide) u_fl_X1_25 rfl rfl (tyX1_ok 2 (by decide)) rfl rfl (Nat.le_of_ble_eq_true rfl) dX1_init_27 (fun H locs hG => ?_)
  refine lv_aload_n hM.x hM.b dX1_init_30 rfl (lv_at hl 0 rfl) ?_
  refine lv_bipush (v := 120) hM.x hM.b dX1_init_31 (by decide) ?_
  refine g_put (C := RX1) (T := TX1) (N := 8) (ty := .int) hM hG (by omega) (va_up_self _ _ _) rfl inW1 tyX1 tyX1_ok nmX1 7 (by decide) u_fl_X1_29 rfl (tyX1_ok 7 (by decide)) rfl rfl (Nat.le_of_ble_eq_true rfl) dX1_init_33 (fun H locs hG => ?_)
  refine lv_iconst (v := 0) hM.x hM.b dX1_init_36 (by decide) ?_
  refine lv_istore_n (lv' := [(1, .int (nI 0)), (0, .ref (a0 + k0))]) hM.x hM.b dX1_init_37 rfl hl (by decide) rfl (fun ls hl => ?_)
  refine ml_X1_init_38 l D cA a0 k0 X hk hM hsz (fun H locs ls hl hG => ?_) 3 0 rfl H locs ls hl (Gv.congr (n := k0 + 4 + 0) hG (fun q hq => ?_))
  · refine lv_iconst (v := 0) hM.x hM.b dX1_init_66 (by decide) ?_
    refine lv_istore_n (lv' := [(1, .int (nI 0)), (0, .ref (a0 + k0))]) hM.x hM.b dX1_init_67 rfl hl (by decide) rfl (fun ls hl => ?_)
    refine ml_X1_init_68 l D cA a0 k0 X hk hM hsz (fun H locs ls hl hG => ?_) 6 0 rfl H locs ls hl hG
    refine lv_iconst (v := 0) hM.x hM.b dX1_init_96 (by decide) ?_
    refine lv_istore_n (lv' := [(1, .int (nI 0)), (0, .ref (a0 + k0))]) hM.x hM.b dX1_init_97 rfl hl (by decide) rfl (fun ls hl => ?_)
    refine ml_X1_init_98 l D cA a0 k0 X hk hM hsz (fun H locs ls hl hG => ?_) 16 0 rfl H locs ls hl hG
    have h1 := Gv.row (f' := fun t => if t < 3 then some (a0 + (k0 + 1 + 3 + t)) else none) hG kx1 (fun t ht => rfl)
    have h2 := Gv.row (f' := fun t => if t < 6 then some (a0 + (k0 + 2 + 5 + t)) else none) h1 ((va_up_ne _ _ (by omega)).trans kx2) (fun t ht => rfl)
    have h3 := Gv.row (f' := fun t => if t < 16 then some (a0 + (k0 + 3 + 10 + 2 * t)) else none) h2 ((va_up_ne _ _ (by omega)).trans ((va_up_ne _ _ (by omega)).trans kx3)) (fun t ht => rfl)
    refine g_vret hM hr (Gv.congr (n := k0 + 45) h3 (fun q hq => ?_)) (Nat.le_refl _) (Nat.le_refl _) dX1_init_126
    unfold kitF
    by_cases c0 : q < k0
    · rw [va_up_ne _ _ (by omega), va_up_ne _ _ (by omega), va_up_ne _ _ (by omega), kx_lt c0, if_pos c0]
    · rw [if_neg c0]
      by_cases c3 : q = k0 + 3
      · subst c3
        rw [va_up_self, sh9 (kd1_9 hk)]
      · rw [va_up_ne _ _ c3]
        by_cases c2 : q = k0 + 2
        · subst c2
          rw [va_up_self, sh8 (kd1_8 hk)]
        · rw [va_up_ne _ _ c2]
          by_cases c1 : q = k0 + 1
          · subst c1
            rw [va_up_self, sh7 (kd1_7 hk)]
          · rw [va_up_ne _ _ c1]
            by_cases c4 : q = k0
            · subst c4
              rw [kx0, shst1 hk]
            · rw [kx_r (by omega)]
  · by_cases c0 : q = k0
    · subst c0
      rw [va_up_self, kx0]
      rfl
    · rw [va_up_ne _ _ c0, va_up_ne _ _ c0]
      by_cases c3 : q = k0 + 3
      · subst c3
        rw [show k0 + 3 = k0 + 1 + 1 + 1 from rfl, va_up_self]
        exact (kx3.trans (congrArg (fun f => (.inl (cA 4, 16, Qr f) : va_E)) q_0)).symm
      · rw [va_up_ne _ _ (by omega), va_up_ne _ _ c0]
        by_cases c2 : q = k0 + 2
        · subst c2
          rw [show k0 + 2 = k0 + 1 + 1 from rfl, va_up_self]
          exact (kx2.trans (congrArg (fun f => (.inl (cA 3, 6, Qr f) : va_E)) q_0)).symm
        · rw [va_up_ne _ _ (by omega), va_up_ne _ _ c0]
          by_cases c1 : q = k0 + 1
          · subst c1
            rw [va_up_self]
            exact (kx1.trans (congrArg (fun f => (.inl (cA 2, 3, Qr f) : va_E)) q_0)).symm
          · rw [va_up_ne _ _ c1, kx_lt (by omega)]
/-- the class's object, its two kitchens -/
def objF (cA : Nat → ClassId) (a0 : Nat) : Nat → va_E := fun q => sh cA (fun k => a0 + k) q (κst q)
set_option maxRecDepth 100000 in
set_option maxHeartbeats 4000000 in
theorem m_X4_init (l : Launch) (D : va_G) (cA : Nat → ClassId) (a0 : Nat) (X : Nat → va_E) (hX : X 0 = .inr (4, [.null, .null])) : Met l yX4_init (.code yX4_init cX4_init 1 none :: uW) { frames := 3, cells := 90, slots := 476, locals := 61 } (PC D cA a0 1 X [.ref (a0 + 0)]) (PQ D a0 91 (objF cA a0)) 90 476 (fun q => a0 ≤ q) := by
  refine g_enter (by decide +kernel) rfl (Nat.le_of_ble_eq_true rfl) ?_
  intro p e s m below meth c ls hM hr hl hG hsz
  have hl : lv_has ls 1 [(0, .ref (a0 + 0))] := hl
  refine lv_aload_n hM.x hM.b dX4_init_0 rfl (lv_at hl 0 rfl) ?_
  refine g_obj hM u_ml_X4_1 hl.1 dX4_init_1 (Nat.le_of_ble_eq_true rfl) (Nat.le_of_ble_eq_true rfl) ?_
  refine lv_aload_n hM.x hM.b dX4_init_4 rfl (lv_at hl 0 rfl) ?_
  refine g_new (C := RX1) (T := TX1) (N := 8) (ci := 1) (fs := [.null, .null, .null, .int 0, .int 0, .int 0, .int 0, .int 0]) hM hG (by omega) inW1 tyX1 tyX1_ok u_cl_X4_7 u_ins_X1 u_ini_X1 rfl (fun j hj => by match j, hj with | 0, _ => rfl | 1, _ => rfl | 2, _ => rfl | 3, _ => rfl | 4, _ => rfl | 5, _ => rfl | 6, _ => rfl | 7, _ => rfl) (Nat.le_of_ble_eq_true rfl) (Nat.le_of_ble_eq_true rfl) dX4_init_5 (fun H hG => ?_)
  refine lv_dup hM.x hM.b dX4_init_8 rfl ?_
  refine g_runI hM hG (by omega) (m_X1_init l D cA a0 1 _ kd_1 (va_up_self _ _ _)) (by decide) u_ml_X4_9 u_im_X1_init u_ini_X1 u_co_X1_init rfl ⟨by decide +kernel, by decide +kernel, by decide +kernel⟩ rfl rfl ⟨Nat.le_of_ble_eq_true rfl, Nat.le_of_ble_eq_true rfl⟩ hl.1 (Nat.le_of_ble_eq_true rfl) dX4_init_9 ⟨Nat.le_of_ble_eq_true rfl, Nat.le_of_ble_eq_true rfl⟩ (fun H locs hG => ?_)
  have hX0 : kitF cA a0 1 (va_up X 1 (.inr (1, [.null, .null, .null, .int 0, .int 0, .int 0, .int 0, .int 0]))) 0 = .inr (4, [.null, .null]) := by
    unfold kitF
    rw [if_pos (by decide), va_up_ne _ _ (by decide)]; exact hX
  refine g_putF (C := RX4) (T := TX4) (N := 2) (ty := .object "KitchenSpits$Kitchen") hM (by decide +kernel) hG (by decide) hX0 rfl inW4 tyX4 tyX4_ok nmX4 0 (by decide) u_fl_X4_10 rfl rfl (tyX4_ok 0 (by decide)) rfl rfl (Nat.le_of_ble_eq_true rfl) dX4_init_12 (fun H locs hG => ?_)
  refine lv_aload_n hM.x hM.b dX4_init_15 rfl (lv_at hl 0 rfl) ?_
  refine g_new (C := RX1) (T := TX1) (N := 8) (ci := 1) (fs := [.null, .null, .null, .int 0, .int 0, .int 0, .int 0, .int 0]) hM hG (by omega) inW1 tyX1 tyX1_ok u_cl_X4_7 u_ins_X1 u_ini_X1 rfl (fun j hj => by match j, hj with | 0, _ => rfl | 1, _ => rfl | 2, _ => rfl | 3, _ => rfl | 4, _ => rfl | 5, _ => rfl | 6, _ => rfl | 7, _ => rfl) (Nat.le_of_ble_eq_true rfl) (Nat.le_of_ble_eq_true rfl) dX4_init_16 (fun H hG => ?_)
  refine lv_dup hM.x hM.b dX4_init_19 rfl ?_
  refine g_runI hM hG (by omega) (m_X1_init l D cA a0 46 _ kd_46 (va_up_self _ _ _)) (by decide) u_ml_X4_9 u_im_X1_init u_ini_X1 u_co_X1_init rfl ⟨by decide +kernel, by decide +kernel, by decide +kernel⟩ rfl rfl ⟨Nat.le_of_ble_eq_true rfl, Nat.le_of_ble_eq_true rfl⟩ hl.1 (Nat.le_of_ble_eq_true rfl) dX4_init_20 ⟨Nat.le_of_ble_eq_true rfl, Nat.le_of_ble_eq_true rfl⟩ (fun H locs hG => ?_)
  generalize hY : kitF cA a0 1 (va_up X 1 (.inr (1, [.null, .null, .null, .int 0, .int 0, .int 0, .int 0, .int 0]))) = Y at hG
  have hX1 : kitF cA a0 46 (va_up (va_up Y 0 (.inr (4, ([.null, .null] : List Value).set 0 (.ref (a0 + 1))))) 46 (.inr (1, [.null, .null, .null, .int 0, .int 0, .int 0, .int 0, .int 0]))) 0 = .inr (4, [.ref (a0 + 1), .null]) := by
    unfold kitF
    rw [if_pos (by decide), va_up_ne _ _ (by decide), va_up_self]
    rfl
  refine g_putF (C := RX4) (T := TX4) (N := 2) (ty := .object "KitchenSpits$Kitchen") hM (by decide +kernel) hG (by decide) hX1 rfl inW4 tyX4 tyX4_ok nmX4 1 (by decide) u_fl_X4_16 rfl rfl (tyX4_ok 1 (by decide)) rfl rfl (Nat.le_of_ble_eq_true rfl) dX4_init_23 (fun H locs hG => ?_)
  refine g_vret hM hr (Gv.congr (n := 91) hG (fun q hq => ?_)) (Nat.le_of_ble_eq_true rfl) (Nat.le_of_ble_eq_true rfl) dX4_init_26
  unfold objF
  by_cases c0 : q = 0
  · subst c0
    rw [va_up_self, sh4 kd_0]
    rfl
  · rw [va_up_ne _ _ c0]
    unfold kitF
    by_cases c1 : q < 46
    · rw [if_pos c1, va_up_ne _ _ (by omega), va_up_ne _ _ c0, ← hY]
      unfold kitF
      rw [if_neg (by omega)]
    · rw [if_neg c1]
