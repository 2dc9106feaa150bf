theorem q_X5_digest : hdV yX5_digest RX5 0 := ⟨rfl, by decide +kernel, by decide +kernel, by decide +kernel⟩
def lp_X5_digest_61 (κ : Kp) (tf : Nat → Int32) : Nat → Nat → Int64 → Int64
  | 0, j, w2 => w2
  | n + 1, j, w2 => lp_X5_digest_61 (κ) (tf) n (j + 1) (((((w2) * (31))) + ((tf (j)).toInt64)))
set_option maxRecDepth 100000 in
set_option maxHeartbeats 4000000 in
theorem ml_X5_digest_61 {p : Program} {e : Env} {s : State} {m : MethodId} {below : List Frame} {meth : Method} {c : Code} {Q : State → Prop} (l : Launch) (g : Gt) (κ : Kp) (tf : Nat → Int32)  {ta cells slots : Nat} (hM : Mc g p s m ([.ref (g.2.2 (91))] : List Value).toArray meth c cX5_digest 10 yX5_digest.cls) : ∀ (n j : Nat), j + n = 5 → ∀ (w2 : Int64), ∀ (H : Heap) (locs : List Loc) (ls : Array Slot), lv_has ls 10 [(6, .int (nI (j))), (5, .int (nI (5))), (4, .ref ta), (2, .long (w2)), (0, .ref (g.2.2 (91)))] → Ws g s κ H locs → Tm g s ta 5 tf H → (∀ (u2 : Int64) (H : Heap) (locs : List Loc) (ls : Array Slot), lp_X5_digest_61 κ tf n j w2 = u2 → lv_has ls 10 [(2, .long (u2)), (0, .ref (g.2.2 (91)))] → Ws g s κ H locs → W p l e { frames := 2, cells := 23, slots := 153, locals := 60 } s m ([.ref (g.2.2 (91))] : List Value).toArray below meth c H locs cells slots Q (F0 m 91 ls [])) → W p l e { frames := 2, cells := 23, slots := 153, locals := 60 } s m ([.ref (g.2.2 (91))] : List Value).toArray below meth c H locs cells slots Q (F0 m 61 ls []) := by
  intro n
  induction n with
  | zero =>
    intro j hj w2 H locs ls hl hw ht hx91
    have hF := Eq.refl (lp_X5_digest_61 κ tf 0 j w2)
    conv at hF => rhs; rw [lp_X5_digest_61]
    refine lv_iload hM.x hM.b dX5_digest_61 (lv_at hl 0 rfl) ?_
    refine lv_iload hM.x hM.b dX5_digest_63 (lv_at hl 1 rfl) ?_
    refine lv_icmp_ge (tgt := 91) hM.x hM.b dX5_digest_65 (by decide) (fun _ => ?_) (fun cz => absurd (nI_le (by omega) (by omega) : nI 5 ≤ nI j) cz)
    exact hx91 (w2) H locs ls hF (lv_sub hl [3, 4] rfl) hw
  | succ n ih =>
    intro j hj w2 H locs ls hl hw ht hx91
    have hF := Eq.refl (lp_X5_digest_61 κ tf (n + 1) j w2)
    conv at hF => rhs; rw [lp_X5_digest_61]
    refine lv_iload hM.x hM.b dX5_digest_61 (lv_at hl 0 rfl) ?_
    refine lv_iload hM.x hM.b dX5_digest_63 (lv_at hl 1 rfl) ?_
    refine lv_icmp_ge (tgt := 91) hM.x hM.b dX5_digest_65 (by decide) (fun cz => absurd cz (nI_ge (by omega) (by decide) : ¬ nI 5 ≤ nI j)) (fun _ => ?_)
    refine lv_aload hM.x hM.b dX5_digest_68 (lv_at hl 2 rfl) ?_
    refine lv_iload hM.x hM.b dX5_digest_70 (lv_at hl 0 rfl) ?_
    refine k_tld (i := j) hM ht (by omega) (by decide) dX5_digest_72 ?_
    refine lv_istore (lv' := [(7, .int (tf (j))), (6, .int (nI (j))), (5, .int (nI (5))), (4, .ref ta), (2, .long (w2)), (0, .ref (g.2.2 (91)))]) hM.x hM.b dX5_digest_73 hl (by decide) rfl (fun ls hl => ?_)
    refine lv_lload_n hM.x hM.b dX5_digest_75 rfl (lv_at hl 4 rfl) ?_
    refine lv_ldc2 hM.x hM.b hM.ow (hM.ts _ u_kl_X5_159) dX5_digest_76 ?_
    refine lv_lmul hM.x hM.b dX5_digest_79 ?_
    refine lv_iload hM.x hM.b dX5_digest_80 (lv_at hl 0 rfl) ?_
    refine lv_i2l (v := (tf (j)).toInt64) hM.x hM.b dX5_digest_82 rfl ?_
    refine lv_ladd hM.x hM.b dX5_digest_83 ?_
    refine lv_lstore_n (lv' := [(2, .long (((((w2) * (31))) + ((tf (j)).toInt64)))), (7, .int (tf (j))), (6, .int (nI (j))), (5, .int (nI (5))), (4, .ref ta), (0, .ref (g.2.2 (91)))]) hM.x hM.b dX5_digest_84 rfl hl (by decide) rfl (fun ls hl => ?_)
    refine lv_iinc (v := nI (j + 1)) (lv' := [(6, .int (nI (j + 1))), (2, .long (((((w2) * (31))) + ((tf (j)).toInt64)))), (7, .int (tf (j))), (5, .int (nI (5))), (4, .ref ta), (0, .ref (g.2.2 (91)))]) hM.x hM.b dX5_digest_85 hl (k := 2) rfl (nI_1 (j)) (by decide) rfl (fun ls hl => ?_)
    refine lv_goto (tgt := 61) hM.x hM.b dX5_digest_88 (by decide) ?_
    exact ih (j + 1) (by omega) (((((w2) * (31))) + ((tf (j)).toInt64))) H locs ls (lv_sub hl [0, 3, 4, 1, 5] rfl) hw ht (fun u2 H locs ls he hl hw => hx91 u2 H locs ls (hF.trans he) hl hw)
def lp_X5_digest_94 (κ : Kp)  : Nat → Nat → Int64 → Int64
  | 0, j, w2 => w2
  | n + 1, j, w2 => if (κ 91 1) ≤ (nI (j)) then (w2) else (lp_X5_digest_94 (κ) n (j + 1) (((((((((w2) * (31))) + ((f_X5_fi κ (nI (j)) (0)).toInt64))) * (31))) + ((f_X5_fi κ (nI (j)) (1)).toInt64))))
set_option maxRecDepth 100000 in
set_option maxHeartbeats 4000000 in
theorem ml_X5_digest_94 {p : Program} {e : Env} {s : State} {m : MethodId} {below : List Frame} {meth : Method} {c : Code} {Q : State → Prop} (l : Launch) (g : Gt) (κ : Kp)  (hMI : MI κ) (hM : Mc g p s m ([.ref (g.2.2 (91))] : List Value).toArray meth c cX5_digest 10 yX5_digest.cls) : ∀ (n j : Nat), j + n = 3 → ∀ (w2 : Int64), ∀ (H : Heap) (locs : List Loc) (ls : Array Slot), lv_has ls 10 [(4, .int (nI (j))), (2, .long (w2)), (0, .ref (g.2.2 (91)))] → Ws g s κ H locs → (∀ (u2 : Int64) (H : Heap) (locs : List Loc) (ls : Array Slot), lp_X5_digest_94 κ n j w2 = u2 → lv_has ls 10 [(2, .long (u2)), (0, .ref (g.2.2 (91)))] → Ws g s κ H locs → W p l e { frames := 2, cells := 23, slots := 153, locals := 60 } s m ([.ref (g.2.2 (91))] : List Value).toArray below meth c H locs 1 5 Q (F0 m 139 ls [])) → W p l e { frames := 2, cells := 23, slots := 153, locals := 60 } s m ([.ref (g.2.2 (91))] : List Value).toArray below meth c H locs 1 5 Q (F0 m 94 ls []) := by
  intro n
  induction n with
  | zero =>
    intro j hj w2 H locs ls hl hw hx139
    have hF := Eq.refl (lp_X5_digest_94 κ 0 j w2)
    conv at hF => rhs; rw [lp_X5_digest_94]
    refine lv_iload hM.x hM.b dX5_digest_94 (lv_at hl 0 rfl) ?_
    refine lv_aload_n hM.x hM.b dX5_digest_96 rfl (lv_at hl 2 rfl) ?_
    refine k_get5 1 hM hw (by decide) u_fl_X5_35 dX5_digest_97 ?_
    refine lv_icmp_ge (tgt := 139) hM.x hM.b dX5_digest_100 (by decide) (fun _ => ?_) (fun cz => absurd (MI_fe hMI hj) cz)
    exact hx139 (w2) H locs ls hF (lv_sub hl [1, 2] rfl) hw
  | succ n ih =>
    intro j hj w2 H locs ls hl hw hx139
    have hF := Eq.refl (lp_X5_digest_94 κ (n + 1) j w2)
    conv at hF => rhs; rw [lp_X5_digest_94]
    refine lv_iload hM.x hM.b dX5_digest_94 (lv_at hl 0 rfl) ?_
    refine lv_aload_n hM.x hM.b dX5_digest_96 rfl (lv_at hl 2 rfl) ?_
    refine k_get5 1 hM hw (by decide) u_fl_X5_35 dX5_digest_97 ?_
    refine lv_icmp_ge (tgt := 139) hM.x hM.b dX5_digest_100 (by decide) (fun c1 => ?_) (fun c1 => ?_)
    · rw [if_pos c1] at hF
      exact hx139 (w2) H locs ls hF (lv_sub hl [1, 2] rfl) hw
    · rw [if_neg c1] at hF
      refine lv_lload_n hM.x hM.b dX5_digest_103 rfl (lv_at hl 1 rfl) ?_
      refine lv_ldc2 hM.x hM.b hM.ow (hM.ts _ u_kl_X5_159) dX5_digest_104 ?_
      refine lv_lmul hM.x hM.b dX5_digest_107 ?_
      refine lv_aload_n hM.x hM.b dX5_digest_108 rfl (lv_at hl 2 rfl) ?_
      refine lv_iload hM.x hM.b dX5_digest_109 (lv_at hl 0 rfl) ?_
      refine lv_iconst (v := 0) hM.x hM.b dX5_digest_111 (by decide) ?_
      refine k_cip hw (k_runV [.int (nI (j)), .int (0)] [.long (((w2) * (31)))] hM hw (m_X5_fi l g κ _ (nI (j)) (0) (vp_in_nI (n := j) (N := 3) (by omega) (by decide)) (vin_lit (by decide) : vp_in 0 2)) (kd_lt kd_91 (by decide)) (sh5 kd_91) rfl (k_gV u_ml_X5_54 u_im_X5_fi u_se_X5_fi u_ini_X5 u_co_X5_fi) (q_X5_fi) rfl rfl rfl ⟨Nat.le_of_ble_eq_true rfl, Nat.le_of_ble_eq_true rfl⟩ hl.1 rfl (Nat.le_of_ble_eq_true rfl) dX5_digest_112 ⟨(show _ ≤ 23 by omega), (show _ ≤ 153 by omega)⟩) (fun H locs hw => ?_)
      refine lv_i2l (v := (f_X5_fi κ (nI (j)) (0)).toInt64) hM.x hM.b dX5_digest_115 rfl ?_
      refine lv_ladd hM.x hM.b dX5_digest_116 ?_
      refine lv_lstore_n (lv' := [(2, .long (((((w2) * (31))) + ((f_X5_fi κ (nI (j)) (0)).toInt64)))), (4, .int (nI (j))), (0, .ref (g.2.2 (91)))]) hM.x hM.b dX5_digest_117 rfl hl (by decide) rfl (fun ls hl => ?_)
      refine lv_lload_n hM.x hM.b dX5_digest_118 rfl (lv_at hl 0 rfl) ?_
      refine lv_ldc2 hM.x hM.b hM.ow (hM.ts _ u_kl_X5_159) dX5_digest_119 ?_
      refine lv_lmul hM.x hM.b dX5_digest_122 ?_
      refine lv_aload_n hM.x hM.b dX5_digest_123 rfl (lv_at hl 2 rfl) ?_
      refine lv_iload hM.x hM.b dX5_digest_124 (lv_at hl 1 rfl) ?_
      refine lv_iconst (v := 1) hM.x hM.b dX5_digest_126 (by decide) ?_
      refine k_cip hw (k_runV [.int (nI (j)), .int (1)] [.long (((((((w2) * (31))) + ((f_X5_fi κ (nI (j)) (0)).toInt64))) * (31)))] hM hw (m_X5_fi l g κ _ (nI (j)) (1) (vp_in_nI (n := j) (N := 3) (by omega) (by decide)) (vin_lit (by decide) : vp_in 1 2)) (kd_lt kd_91 (by decide)) (sh5 kd_91) rfl (k_gV u_ml_X5_54 u_im_X5_fi u_se_X5_fi u_ini_X5 u_co_X5_fi) (q_X5_fi) rfl rfl rfl ⟨Nat.le_of_ble_eq_true rfl, Nat.le_of_ble_eq_true rfl⟩ hl.1 rfl (Nat.le_of_ble_eq_true rfl) dX5_digest_127 ⟨(show _ ≤ 23 by omega), (show _ ≤ 153 by omega)⟩) (fun H locs hw => ?_)
      refine lv_i2l (v := (f_X5_fi κ (nI (j)) (1)).toInt64) hM.x hM.b dX5_digest_130 rfl ?_
      refine lv_ladd hM.x hM.b dX5_digest_131 ?_
      refine lv_lstore_n (lv' := [(2, .long (((((((((w2) * (31))) + ((f_X5_fi κ (nI (j)) (0)).toInt64))) * (31))) + ((f_X5_fi κ (nI (j)) (1)).toInt64)))), (4, .int (nI (j))), (0, .ref (g.2.2 (91)))]) hM.x hM.b dX5_digest_132 rfl hl (by decide) rfl (fun ls hl => ?_)
      refine lv_iinc (v := nI (j + 1)) (lv' := [(4, .int (nI (j + 1))), (2, .long (((((((((w2) * (31))) + ((f_X5_fi κ (nI (j)) (0)).toInt64))) * (31))) + ((f_X5_fi κ (nI (j)) (1)).toInt64)))), (0, .ref (g.2.2 (91)))]) hM.x hM.b dX5_digest_133 hl (k := 1) rfl (nI_1 (j)) (by decide) rfl (fun ls hl => ?_)
      refine lv_goto (tgt := 94) hM.x hM.b dX5_digest_136 (by decide) ?_
      exact ih (j + 1) (by omega) (((((((((w2) * (31))) + ((f_X5_fi κ (nI (j)) (0)).toInt64))) * (31))) + ((f_X5_fi κ (nI (j)) (1)).toInt64))) H locs ls (lv_sub hl [0, 1, 2] rfl) hw (fun u2 H locs ls he hl hw => hx139 u2 H locs ls (hF.trans he) hl hw)
def lp_X5_digest_230 (κ : Kp) (tf : Nat → Int32) : Nat → Nat → Int64 → Int64
  | 0, j, w2 => w2
  | n + 1, j, w2 => lp_X5_digest_230 (κ) (tf) n (j + 1) (((((w2) * (31))) + ((tf (j)).toInt64)))
set_option maxRecDepth 100000 in
set_option maxHeartbeats 4000000 in
theorem ml_X5_digest_230 {p : Program} {e : Env} {s : State} {m : MethodId} {below : List Frame} {meth : Method} {c : Code} {Q : State → Prop} (l : Launch) (g : Gt) (κ : Kp) (tf : Nat → Int32)  {ta cells slots : Nat} {i : Nat} (hM : Mc g p s m ([.ref (g.2.2 (91))] : List Value).toArray meth c cX5_digest 10 yX5_digest.cls) : ∀ (n j : Nat), j + n = 6 → ∀ (w2 : Int64), ∀ (H : Heap) (locs : List Loc) (ls : Array Slot), lv_has ls 10 [(8, .int (nI (j))), (7, .int (nI (6))), (6, .ref ta), (4, .int (nI (i))), (2, .long (w2)), (0, .ref (g.2.2 (91)))] → Ws g s κ H locs → Tm g s ta 6 tf H → (∀ (u2 : Int64) (H : Heap) (locs : List Loc) (ls : Array Slot), lp_X5_digest_230 κ tf n j w2 = u2 → lv_has ls 10 [(4, .int (nI (i))), (2, .long (u2)), (0, .ref (g.2.2 (91)))] → Ws g s κ H locs → W p l e { frames := 2, cells := 23, slots := 153, locals := 60 } s m ([.ref (g.2.2 (91))] : List Value).toArray below meth c H locs cells slots Q (F0 m 260 ls [])) → W p l e { frames := 2, cells := 23, slots := 153, locals := 60 } s m ([.ref (g.2.2 (91))] : List Value).toArray below meth c H locs cells slots Q (F0 m 230 ls []) := by
  intro n
  induction n with
  | zero =>
    intro j hj w2 H locs ls hl hw ht hx260
    have hF := Eq.refl (lp_X5_digest_230 κ tf 0 j w2)
    conv at hF => rhs; rw [lp_X5_digest_230]
    refine lv_iload hM.x hM.b dX5_digest_230 (lv_at hl 0 rfl) ?_
    refine lv_iload hM.x hM.b dX5_digest_232 (lv_at hl 1 rfl) ?_
    refine lv_icmp_ge (tgt := 260) hM.x hM.b dX5_digest_234 (by decide) (fun _ => ?_) (fun cz => absurd (nI_le (by omega) (by omega) : nI 6 ≤ nI j) cz)
    exact hx260 (w2) H locs ls hF (lv_sub hl [3, 4, 5] rfl) hw
  | succ n ih =>
    intro j hj w2 H locs ls hl hw ht hx260
    have hF := Eq.refl (lp_X5_digest_230 κ tf (n + 1) j w2)
    conv at hF => rhs; rw [lp_X5_digest_230]
    refine lv_iload hM.x hM.b dX5_digest_230 (lv_at hl 0 rfl) ?_
    refine lv_iload hM.x hM.b dX5_digest_232 (lv_at hl 1 rfl) ?_
    refine lv_icmp_ge (tgt := 260) hM.x hM.b dX5_digest_234 (by decide) (fun cz => absurd cz (nI_ge (by omega) (by decide) : ¬ nI 6 ≤ nI j)) (fun _ => ?_)
    refine lv_aload hM.x hM.b dX5_digest_237 (lv_at hl 2 rfl) ?_
    refine lv_iload hM.x hM.b dX5_digest_239 (lv_at hl 0 rfl) ?_
    refine k_tld (i := j) hM ht (by omega) (by decide) dX5_digest_241 ?_
    refine lv_istore (lv' := [(9, .int (tf (j))), (8, .int (nI (j))), (7, .int (nI (6))), (6, .ref ta), (4, .int (nI (i))), (2, .long (w2)), (0, .ref (g.2.2 (91)))]) hM.x hM.b dX5_digest_242 hl (by decide) rfl (fun ls hl => ?_)
    refine lv_lload_n hM.x hM.b dX5_digest_244 rfl (lv_at hl 5 rfl) ?_
    refine lv_ldc2 hM.x hM.b hM.ow (hM.ts _ u_kl_X5_159) dX5_digest_245 ?_
    refine lv_lmul hM.x hM.b dX5_digest_248 ?_
    refine lv_iload hM.x hM.b dX5_digest_249 (lv_at hl 0 rfl) ?_
    refine lv_i2l (v := (tf (j)).toInt64) hM.x hM.b dX5_digest_251 rfl ?_
    refine lv_ladd hM.x hM.b dX5_digest_252 ?_
    refine lv_lstore_n (lv' := [(2, .long (((((w2) * (31))) + ((tf (j)).toInt64)))), (9, .int (tf (j))), (8, .int (nI (j))), (7, .int (nI (6))), (6, .ref ta), (4, .int (nI (i))), (0, .ref (g.2.2 (91)))]) hM.x hM.b dX5_digest_253 rfl hl (by decide) rfl (fun ls hl => ?_)
    refine lv_iinc (v := nI (j + 1)) (lv' := [(8, .int (nI (j + 1))), (2, .long (((((w2) * (31))) + ((tf (j)).toInt64)))), (9, .int (tf (j))), (7, .int (nI (6))), (6, .ref ta), (4, .int (nI (i))), (0, .ref (g.2.2 (91)))]) hM.x hM.b dX5_digest_254 hl (k := 2) rfl (nI_1 (j)) (by decide) rfl (fun ls hl => ?_)
    refine lv_goto (tgt := 230) hM.x hM.b dX5_digest_257 (by decide) ?_
    exact ih (j + 1) (by omega) (((((w2) * (31))) + ((tf (j)).toInt64))) H locs ls (lv_sub hl [0, 3, 4, 5, 1, 6] rfl) hw ht (fun u2 H locs ls he hl hw => hx260 u2 H locs ls (hF.trans he) hl hw)
def lp_X5_digest_142 (κ : Kp)  : Nat → Nat → Int64 → Int64
  | 0, j, w2 => w2
  | n + 1, j, w2 => if (κ 91 2) ≤ (nI (j)) then (w2) else ((fun uz1 : Int64 => lp_X5_digest_142 (κ) n (j + 1) (uz1)) (lp_X5_digest_230 κ (va_up (va_up (va_up (va_up (va_up (va_up (fun _ => 0 : Nat → Int32) 0 (κ (92) (j))) 1 (f_X5_sp κ (nI (j)) (0))) 2 (f_X5_glow κ (nI (j)))) 3 (f_X5_sp κ (nI (j)) (4))) 4 (f_X5_sp κ (nI (j)) (1))) 5 (((f_X5_sp κ (nI (j)) (2)) - (1)))) 6 0 (w2)))
set_option maxRecDepth 100000 in
set_option maxHeartbeats 4000000 in
theorem ml_X5_digest_142 {p : Program} {e : Env} {s : State} {m : MethodId} {below : List Frame} {meth : Method} {c : Code} {Q : State → Prop} (l : Launch) (g : Gt) (κ : Kp)  (hMI : MI κ) (hM : Mc g p s m ([.ref (g.2.2 (91))] : List Value).toArray meth c cX5_digest 10 yX5_digest.cls) : ∀ (n j : Nat), j + n = 6 → ∀ (w2 : Int64), ∀ (H : Heap) (locs : List Loc) (ls : Array Slot), lv_has ls 10 [(4, .int (nI (j))), (2, .long (w2)), (0, .ref (g.2.2 (91)))] → Ws g s κ H locs → (∀ (u2 : Int64) (H : Heap) (locs : List Loc) (ls : Array Slot), lp_X5_digest_142 κ n j w2 = u2 → lv_has ls 10 [(2, .long (u2)), (0, .ref (g.2.2 (91)))] → Ws g s κ H locs → W p l e { frames := 2, cells := 23, slots := 153, locals := 60 } s m ([.ref (g.2.2 (91))] : List Value).toArray below meth c H locs 7 41 Q (F0 m 266 ls [])) → W p l e { frames := 2, cells := 23, slots := 153, locals := 60 } s m ([.ref (g.2.2 (91))] : List Value).toArray below meth c H locs (1 + j) (5 + 6 * j) Q (F0 m 142 ls []) := by
  intro n
  induction n with
  | zero =>
    intro j hj w2 H locs ls hl hw hx266
    have hF := Eq.refl (lp_X5_digest_142 κ 0 j w2)
    conv at hF => rhs; rw [lp_X5_digest_142]
    refine lv_iload hM.x hM.b dX5_digest_142 (lv_at hl 0 rfl) ?_
    refine lv_aload_n hM.x hM.b dX5_digest_144 rfl (lv_at hl 2 rfl) ?_
    refine k_get5 2 hM hw (by decide) u_fl_X5_42 dX5_digest_145 ?_
    refine lv_icmp_ge (tgt := 266) hM.x hM.b dX5_digest_148 (by decide) (fun _ => ?_) (fun cz => absurd (MI_se hMI hj) cz)
    refine W.widen (k := 7) (n := 41) (by omega) (by omega) ?_
    exact hx266 (w2) H locs ls hF (lv_sub hl [1, 2] rfl) hw
  | succ n ih =>
    intro j hj w2 H locs ls hl hw hx266
    have hF := Eq.refl (lp_X5_digest_142 κ (n + 1) j w2)
    conv at hF => rhs; rw [lp_X5_digest_142]
    refine lv_iload hM.x hM.b dX5_digest_142 (lv_at hl 0 rfl) ?_
    refine lv_aload_n hM.x hM.b dX5_digest_144 rfl (lv_at hl 2 rfl) ?_
    refine k_get5 2 hM hw (by decide) u_fl_X5_42 dX5_digest_145 ?_
    refine lv_icmp_ge (tgt := 266) hM.x hM.b dX5_digest_148 (by decide) (fun c1 => ?_) (fun c1 => ?_)
    · rw [if_pos c1] at hF
      refine W.widen (k := 7) (n := 41) (by omega) (by omega) ?_
      exact hx266 (w2) H locs ls hF (lv_sub hl [1, 2] rfl) hw
    · rw [if_neg c1] at hF
      refine lv_bipush (v := 6) hM.x hM.b dX5_digest_151 (by decide) ?_
      refine k_newT (n := 6) hM hw (by decide) rfl (Nat.le_of_ble_eq_true rfl) (show _ ≤ 23 by omega) (show _ ≤ 153 by omega) dX5_digest_153 (fun ta1 H hw ht => ?_)
      refine lv_dup hM.x hM.b dX5_digest_155 rfl ?_
      refine lv_iconst (v := 0) hM.x hM.b dX5_digest_156 (by decide) ?_
      refine lv_aload_n hM.x hM.b dX5_digest_157 rfl (lv_at hl 2 rfl) ?_
      refine k_get5r 0 hM hw (by decide) u_fl_X5_13 dX5_digest_158 ?_
      refine lv_iload hM.x hM.b dX5_digest_161 (lv_at hl 0 rfl) ?_
      refine k_ialdN (i := j) (n := 6) hM hw (kd_lt kd_92 (by decide)) (sh10 kd_92) (by omega) (by decide) dX5_digest_163 ?_
      refine k_tst (i := 0) hM hw ht rfl (by decide) (by decide) dX5_digest_164 (fun H locs hw ht => ?_)
      refine lv_dup hM.x hM.b dX5_digest_165 rfl ?_
      refine lv_iconst (v := 1) hM.x hM.b dX5_digest_166 (by decide) ?_
      refine lv_aload_n hM.x hM.b dX5_digest_167 rfl (lv_at hl 2 rfl) ?_
      refine lv_iload hM.x hM.b dX5_digest_168 (lv_at hl 0 rfl) ?_
      refine lv_iconst (v := 0) hM.x hM.b dX5_digest_170 (by decide) ?_
      refine k_cipT hw ht (k_runV [.int (nI (j)), .int (0)] [.int (1), .ref ta1, .ref ta1] hM hw (m_X5_sp l g κ _ (nI (j)) (0) (vp_in_nI (n := j) (N := 6) (by omega) (by decide)) (vin_lit (by decide) : vp_in 0 5)) (kd_lt kd_91 (by decide)) (sh5 kd_91) rfl (k_gV u_ml_X5_58 u_im_X5_sp u_se_X5_sp u_ini_X5 u_co_X5_sp) (q_X5_sp) rfl rfl rfl ⟨Nat.le_of_ble_eq_true rfl, Nat.le_of_ble_eq_true rfl⟩ hl.1 rfl (Nat.le_of_ble_eq_true rfl) dX5_digest_171 ⟨(show _ ≤ 23 by omega), (show _ ≤ 153 by omega)⟩) (fun H locs hw ht => ?_)
      refine k_tst (i := 1) hM hw ht rfl (by decide) (by decide) dX5_digest_174 (fun H locs hw ht => ?_)
      refine lv_dup hM.x hM.b dX5_digest_175 rfl ?_
      refine lv_iconst (v := 2) hM.x hM.b dX5_digest_176 (by decide) ?_
      refine lv_aload_n hM.x hM.b dX5_digest_177 rfl (lv_at hl 2 rfl) ?_
      refine lv_iload hM.x hM.b dX5_digest_178 (lv_at hl 0 rfl) ?_
      refine k_cipT hw ht (k_runV [.int (nI (j))] [.int (2), .ref ta1, .ref ta1] hM hw (m_X5_glow l g κ _ (nI (j)) (vp_in_nI (n := j) (N := 6) (by omega) (by decide)) hMI c1) (kd_lt kd_91 (by decide)) (sh5 kd_91) rfl (k_gV u_ml_X5_77 u_im_X5_glow u_se_X5_glow u_ini_X5 u_co_X5_glow) (q_X5_glow) rfl rfl rfl ⟨Nat.le_of_ble_eq_true rfl, Nat.le_of_ble_eq_true rfl⟩ hl.1 rfl (Nat.le_of_ble_eq_true rfl) dX5_digest_180 ⟨(show _ ≤ 23 by omega), (show _ ≤ 153 by omega)⟩) (fun H locs hw ht => ?_)
      refine k_tst (i := 2) hM hw ht rfl (by decide) (by decide) dX5_digest_183 (fun H locs hw ht => ?_)
      refine lv_dup hM.x hM.b dX5_digest_184 rfl ?_
      refine lv_iconst (v := 3) hM.x hM.b dX5_digest_185 (by decide) ?_
      refine lv_aload_n hM.x hM.b dX5_digest_186 rfl (lv_at hl 2 rfl) ?_
      refine lv_iload hM.x hM.b dX5_digest_187 (lv_at hl 0 rfl) ?_
      refine lv_iconst (v := 4) hM.x hM.b dX5_digest_189 (by decide) ?_
      refine k_cipT hw ht (k_runV [.int (nI (j)), .int (4)] [.int (3), .ref ta1, .ref ta1] hM hw (m_X5_sp l g κ _ (nI (j)) (4) (vp_in_nI (n := j) (N := 6) (by omega) (by decide)) (vin_lit (by decide) : vp_in 4 5)) (kd_lt kd_91 (by decide)) (sh5 kd_91) rfl (k_gV u_ml_X5_58 u_im_X5_sp u_se_X5_sp u_ini_X5 u_co_X5_sp) (q_X5_sp) rfl rfl rfl ⟨Nat.le_of_ble_eq_true rfl, Nat.le_of_ble_eq_true rfl⟩ hl.1 rfl (Nat.le_of_ble_eq_true rfl) dX5_digest_190 ⟨(show _ ≤ 23 by omega), (show _ ≤ 153 by omega)⟩) (fun H locs hw ht => ?_)
      refine k_tst (i := 3) hM hw ht rfl (by decide) (by decide) dX5_digest_193 (fun H locs hw ht => ?_)
      refine lv_dup hM.x hM.b dX5_digest_194 rfl ?_
      refine lv_iconst (v := 4) hM.x hM.b dX5_digest_195 (by decide) ?_
      refine lv_aload_n hM.x hM.b dX5_digest_196 rfl (lv_at hl 2 rfl) ?_
      refine lv_iload hM.x hM.b dX5_digest_197 (lv_at hl 0 rfl) ?_
      refine lv_iconst (v := 1) hM.x hM.b dX5_digest_199 (by decide) ?_
      refine k_cipT hw ht (k_runV [.int (nI (j)), .int (1)] [.int (4), .ref ta1, .ref ta1] hM hw (m_X5_sp l g κ _ (nI (j)) (1) (vp_in_nI (n := j) (N := 6) (by omega) (by decide)) (vin_lit (by decide) : vp_in 1 5)) (kd_lt kd_91 (by decide)) (sh5 kd_91) rfl (k_gV u_ml_X5_58 u_im_X5_sp u_se_X5_sp u_ini_X5 u_co_X5_sp) (q_X5_sp) rfl rfl rfl ⟨Nat.le_of_ble_eq_true rfl, Nat.le_of_ble_eq_true rfl⟩ hl.1 rfl (Nat.le_of_ble_eq_true rfl) dX5_digest_200 ⟨(show _ ≤ 23 by omega), (show _ ≤ 153 by omega)⟩) (fun H locs hw ht => ?_)
      refine k_tst (i := 4) hM hw ht rfl (by decide) (by decide) dX5_digest_203 (fun H locs hw ht => ?_)
      refine lv_dup hM.x hM.b dX5_digest_204 rfl ?_
      refine lv_iconst (v := 5) hM.x hM.b dX5_digest_205 (by decide) ?_
      refine lv_aload_n hM.x hM.b dX5_digest_206 rfl (lv_at hl 2 rfl) ?_
      refine lv_iload hM.x hM.b dX5_digest_207 (lv_at hl 0 rfl) ?_
      refine lv_iconst (v := 2) hM.x hM.b dX5_digest_209 (by decide) ?_
      refine k_cipT hw ht (k_runV [.int (nI (j)), .int (2)] [.int (5), .ref ta1, .ref ta1] hM hw (m_X5_sp l g κ _ (nI (j)) (2) (vp_in_nI (n := j) (N := 6) (by omega) (by decide)) (vin_lit (by decide) : vp_in 2 5)) (kd_lt kd_91 (by decide)) (sh5 kd_91) rfl (k_gV u_ml_X5_58 u_im_X5_sp u_se_X5_sp u_ini_X5 u_co_X5_sp) (q_X5_sp) rfl rfl rfl ⟨Nat.le_of_ble_eq_true rfl, Nat.le_of_ble_eq_true rfl⟩ hl.1 rfl (Nat.le_of_ble_eq_true rfl) dX5_digest_210 ⟨(show _ ≤ 23 by omega), (show _ ≤ 153 by omega)⟩) (fun H locs hw ht => ?_)
      refine lv_iconst (v := 1) hM.x hM.b dX5_digest_213 (by decide) ?_
      refine lv_isub hM.x hM.b dX5_digest_214 ?_
      refine k_tst (i := 5) hM hw ht rfl (by decide) (by decide) dX5_digest_215 (fun H locs hw ht => ?_)
      refine lv_astore (lv' := [(5, .ref ta1), (4, .int (nI (j))), (2, .long (w2)), (0, .ref (g.2.2 (91)))]) hM.x hM.b dX5_digest_216 hl (by decide) rfl (fun ls hl => ?_)
      refine lv_aload hM.x hM.b dX5_digest_218 (lv_at hl 0 rfl) ?_
      refine lv_astore (lv' := [(6, .ref ta1), (5, .ref ta1), (4, .int (nI (j))), (2, .long (w2)), (0, .ref (g.2.2 (91)))]) hM.x hM.b dX5_digest_220 hl (by decide) rfl (fun ls hl => ?_)
      refine lv_aload hM.x hM.b dX5_digest_222 (lv_at hl 0 rfl) ?_
      refine k_tlen (v := nI 6) hM ht rfl dX5_digest_224 ?_
      refine lv_istore (lv' := [(7, .int (nI (6))), (6, .ref ta1), (5, .ref ta1), (4, .int (nI (j))), (2, .long (w2)), (0, .ref (g.2.2 (91)))]) hM.x hM.b dX5_digest_225 hl (by decide) rfl (fun ls hl => ?_)
      refine lv_iconst (v := nI 0) hM.x hM.b dX5_digest_227 (by decide) ?_
      refine lv_istore (lv' := [(8, .int (nI (0))), (7, .int (nI (6))), (6, .ref ta1), (5, .ref ta1), (4, .int (nI (j))), (2, .long (w2)), (0, .ref (g.2.2 (91)))]) hM.x hM.b dX5_digest_228 hl (by decide) rfl (fun ls hl => ?_)
      refine ml_X5_digest_230 l g κ (va_up (va_up (va_up (va_up (va_up (va_up (fun _ => 0 : Nat → Int32) 0 (κ (92) (j))) 1 (f_X5_sp κ (nI (j)) (0))) 2 (f_X5_glow κ (nI (j)))) 3 (f_X5_sp κ (nI (j)) (4))) 4 (f_X5_sp κ (nI (j)) (1))) 5 (((f_X5_sp κ (nI (j)) (2)) - (1))))  hM (6) (0) (by omega) (w2) _ _ _ (lv_sub hl [0, 1, 2, 4, 5, 6] rfl) hw ht (fun uz1 H locs ls he hl hw => ?_)
      rw [he] at hF
      try dsimp only at hF
      refine lv_iinc (v := nI (j + 1)) (lv' := [(4, .int (nI (j + 1))), (2, .long (uz1)), (0, .ref (g.2.2 (91)))]) hM.x hM.b dX5_digest_260 hl (k := 0) rfl (nI_1 (j)) (by decide) rfl (fun ls hl => ?_)
      refine lv_goto (tgt := 142) hM.x hM.b dX5_digest_263 (by decide) ?_
      refine W.widen (k := (1 + (j + 1))) (n := (5 + 6 * (j + 1))) (by omega) (by omega) ?_
      exact ih (j + 1) (by omega) (uz1) H locs ls (lv_sub hl [0, 1, 2] rfl) hw (fun u2 H locs ls he hl hw => hx266 u2 H locs ls (hF.trans he) hl hw)
def lp_X5_digest_383 (κ : Kp) (tf : Nat → Int32) : Nat → Nat → Int64 → Int64
  | 0, j, w2 => w2
  | n + 1, j, w2 => lp_X5_digest_383 (κ) (tf) n (j + 1) (((((w2) * (31))) + ((tf (j)).toInt64)))
set_option maxRecDepth 100000 in
set_option maxHeartbeats 4000000 in
theorem ml_X5_digest_383 {p : Program} {e : Env} {s : State} {m : MethodId} {below : List Frame} {meth : Method} {c : Code} {Q : State → Prop} (l : Launch) (g : Gt) (κ : Kp) (tf : Nat → Int32)  {ta cells slots : Nat} {i : Nat} (hM : Mc g p s m ([.ref (g.2.2 (91))] : List Value).toArray meth c cX5_digest 10 yX5_digest.cls) : ∀ (n j : Nat), j + n = 7 → ∀ (w2 : Int64), ∀ (H : Heap) (locs : List Loc) (ls : Array Slot), lv_has ls 10 [(8, .int (nI (j))), (7, .int (nI (7))), (6, .ref ta), (4, .int (nI (i))), (2, .long (w2)), (0, .ref (g.2.2 (91)))] → Ws g s κ H locs → Tm g s ta 7 tf H → (∀ (u2 : Int64) (H : Heap) (locs : List Loc) (ls : Array Slot), lp_X5_digest_383 κ tf n j w2 = u2 → lv_has ls 10 [(4, .int (nI (i))), (2, .long (u2)), (0, .ref (g.2.2 (91)))] → Ws g s κ H locs → W p l e { frames := 2, cells := 23, slots := 153, locals := 60 } s m ([.ref (g.2.2 (91))] : List Value).toArray below meth c H locs cells slots Q (F0 m 413 ls [])) → W p l e { frames := 2, cells := 23, slots := 153, locals := 60 } s m ([.ref (g.2.2 (91))] : List Value).toArray below meth c H locs cells slots Q (F0 m 383 ls []) := by
  intro n
  induction n with
  | zero =>
    intro j hj w2 H locs ls hl hw ht hx413
    have hF := Eq.refl (lp_X5_digest_383 κ tf 0 j w2)
    conv at hF => rhs; rw [lp_X5_digest_383]
    refine lv_iload hM.x hM.b dX5_digest_383 (lv_at hl 0 rfl) ?_
    refine lv_iload hM.x hM.b dX5_digest_385 (lv_at hl 1 rfl) ?_
    refine lv_icmp_ge (tgt := 413) hM.x hM.b dX5_digest_387 (by decide) (fun _ => ?_) (fun cz => absurd (nI_le (by omega) (by omega) : nI 7 ≤ nI j) cz)
    exact hx413 (w2) H locs ls hF (lv_sub hl [3, 4, 5] rfl) hw
  | succ n ih =>
    intro j hj w2 H locs ls hl hw ht hx413
    have hF := Eq.refl (lp_X5_digest_383 κ tf (n + 1) j w2)
    conv at hF => rhs; rw [lp_X5_digest_383]
    refine lv_iload hM.x hM.b dX5_digest_383 (lv_at hl 0 rfl) ?_
    refine lv_iload hM.x hM.b dX5_digest_385 (lv_at hl 1 rfl) ?_
    refine lv_icmp_ge (tgt := 413) hM.x hM.b dX5_digest_387 (by decide) (fun cz => absurd cz (nI_ge (by omega) (by decide) : ¬ nI 7 ≤ nI j)) (fun _ => ?_)
    refine lv_aload hM.x hM.b dX5_digest_390 (lv_at hl 2 rfl) ?_
    refine lv_iload hM.x hM.b dX5_digest_392 (lv_at hl 0 rfl) ?_
    refine k_tld (i := j) hM ht (by omega) (by decide) dX5_digest_394 ?_
    refine lv_istore (lv' := [(9, .int (tf (j))), (8, .int (nI (j))), (7, .int (nI (7))), (6, .ref ta), (4, .int (nI (i))), (2, .long (w2)), (0, .ref (g.2.2 (91)))]) hM.x hM.b dX5_digest_395 hl (by decide) rfl (fun ls hl => ?_)
    refine lv_lload_n hM.x hM.b dX5_digest_397 rfl (lv_at hl 5 rfl) ?_
    refine lv_ldc2 hM.x hM.b hM.ow (hM.ts _ u_kl_X5_159) dX5_digest_398 ?_
    refine lv_lmul hM.x hM.b dX5_digest_401 ?_
    refine lv_iload hM.x hM.b dX5_digest_402 (lv_at hl 0 rfl) ?_
    refine lv_i2l (v := (tf (j)).toInt64) hM.x hM.b dX5_digest_404 rfl ?_
    refine lv_ladd hM.x hM.b dX5_digest_405 ?_
    refine lv_lstore_n (lv' := [(2, .long (((((w2) * (31))) + ((tf (j)).toInt64)))), (9, .int (tf (j))), (8, .int (nI (j))), (7, .int (nI (7))), (6, .ref ta), (4, .int (nI (i))), (0, .ref (g.2.2 (91)))]) hM.x hM.b dX5_digest_406 rfl hl (by decide) rfl (fun ls hl => ?_)
    refine lv_iinc (v := nI (j + 1)) (lv' := [(8, .int (nI (j + 1))), (2, .long (((((w2) * (31))) + ((tf (j)).toInt64)))), (9, .int (tf (j))), (7, .int (nI (7))), (6, .ref ta), (4, .int (nI (i))), (0, .ref (g.2.2 (91)))]) hM.x hM.b dX5_digest_407 hl (k := 2) rfl (nI_1 (j)) (by decide) rfl (fun ls hl => ?_)
    refine lv_goto (tgt := 383) hM.x hM.b dX5_digest_410 (by decide) ?_
    exact ih (j + 1) (by omega) (((((w2) * (31))) + ((tf (j)).toInt64))) H locs ls (lv_sub hl [0, 3, 4, 5, 1, 6] rfl) hw ht (fun u2 H locs ls he hl hw => hx413 u2 H locs ls (hF.trans he) hl hw)
def lp_X5_digest_416 (κ : Kp) (i : Nat) : Nat → Nat → Int64 → Int64
  | 0, j, w2 => w2
  | n + 1, j, w2 => lp_X5_digest_416 (κ) (i) n (j + 1) (((((w2) * (31))) + ((f_X5_ro κ (nI (i)) (nI ((4 + j)))).toInt64)))
set_option maxRecDepth 100000 in
set_option maxHeartbeats 4000000 in
theorem ml_X5_digest_416 {p : Program} {e : Env} {s : State} {m : MethodId} {below : List Frame} {meth : Method} {c : Code} {Q : State → Prop} (l : Launch) (g : Gt) (κ : Kp) (i : Nat) (hi : i < 16) {cells slots : Nat} (hcl : cells ≤ 23) (hsl : slots ≤ 153) (hM : Mc g p s m ([.ref (g.2.2 (91))] : List Value).toArray meth c cX5_digest 10 yX5_digest.cls) : ∀ (n j : Nat), j + n = 4 → ∀ (w2 : Int64), ∀ (H : Heap) (locs : List Loc) (ls : Array Slot), lv_has ls 10 [(6, .int (nI (j))), (4, .int (nI (i))), (2, .long (w2)), (0, .ref (g.2.2 (91)))] → Ws g s κ H locs → (∀ (u2 : Int64) (H : Heap) (locs : List Loc) (ls : Array Slot), lp_X5_digest_416 κ i n j w2 = u2 → lv_has ls 10 [(4, .int (nI (i))), (2, .long (u2)), (0, .ref (g.2.2 (91)))] → Ws g s κ H locs → W p l e { frames := 2, cells := 23, slots := 153, locals := 60 } s m ([.ref (g.2.2 (91))] : List Value).toArray below meth c H locs cells slots Q (F0 m 446 ls [])) → W p l e { frames := 2, cells := 23, slots := 153, locals := 60 } s m ([.ref (g.2.2 (91))] : List Value).toArray below meth c H locs cells slots Q (F0 m 416 ls []) := by
  intro n
  induction n with
  | zero =>
    intro j hj w2 H locs ls hl hw hx446
    have hF := Eq.refl (lp_X5_digest_416 κ i 0 j w2)
    conv at hF => rhs; rw [lp_X5_digest_416]
    refine lv_iload hM.x hM.b dX5_digest_416 (lv_at hl 0 rfl) ?_
    refine lv_iconst (v := nI 4) hM.x hM.b dX5_digest_418 (by decide) ?_
    refine lv_icmp_ge (tgt := 446) hM.x hM.b dX5_digest_419 (by decide) (fun _ => ?_) (fun cz => absurd (nI_le (by omega) (by omega) : nI 4 ≤ nI j) cz)
    exact hx446 (w2) H locs ls hF (lv_sub hl [1, 2, 3] rfl) hw
  | succ n ih =>
    intro j hj w2 H locs ls hl hw hx446
    have hF := Eq.refl (lp_X5_digest_416 κ i (n + 1) j w2)
    conv at hF => rhs; rw [lp_X5_digest_416]
    refine lv_iload hM.x hM.b dX5_digest_416 (lv_at hl 0 rfl) ?_
    refine lv_iconst (v := nI 4) hM.x hM.b dX5_digest_418 (by decide) ?_
    refine lv_icmp_ge (tgt := 446) hM.x hM.b dX5_digest_419 (by decide) (fun cz => absurd cz (nI_ge (by omega) (by decide) : ¬ nI 4 ≤ nI j)) (fun _ => ?_)
    refine lv_lload_n hM.x hM.b dX5_digest_422 rfl (lv_at hl 2 rfl) ?_
    refine lv_ldc2 hM.x hM.b hM.ow (hM.ts _ u_kl_X5_159) dX5_digest_423 ?_
    refine lv_lmul hM.x hM.b dX5_digest_426 ?_
    refine lv_aload_n hM.x hM.b dX5_digest_427 rfl (lv_at hl 3 rfl) ?_
    refine lv_iload hM.x hM.b dX5_digest_428 (lv_at hl 1 rfl) ?_
    refine lv_iconst (v := 4) hM.x hM.b dX5_digest_430 (by decide) ?_
    refine lv_iload hM.x hM.b dX5_digest_431 (lv_at hl 0 rfl) ?_
    refine k_iaddN (a := 4) (b := j) hM dX5_digest_433 ?_
    refine k_cip hw (k_runV [.int (nI (i)), .int (nI ((4 + j)))] [.long (((w2) * (31)))] hM hw (m_X5_ro l g κ _ (nI (i)) (nI ((4 + j))) (vp_in_nI (n := i) (N := 16) (by omega) (by decide)) (vp_in_nI (n := (4 + j)) (N := 8) (by omega) (by decide))) (kd_lt kd_91 (by decide)) (sh5 kd_91) rfl (k_gV u_ml_X5_61 u_im_X5_ro u_se_X5_ro u_ini_X5 u_co_X5_ro) (q_X5_ro) rfl rfl rfl ⟨Nat.le_of_ble_eq_true rfl, Nat.le_of_ble_eq_true rfl⟩ hl.1 rfl (Nat.le_of_ble_eq_true rfl) dX5_digest_434 ⟨(show _ ≤ 23 by omega), (show _ ≤ 153 by omega)⟩) (fun H locs hw => ?_)
    refine lv_i2l (v := (f_X5_ro κ (nI (i)) (nI ((4 + j)))).toInt64) hM.x hM.b dX5_digest_437 rfl ?_
    refine lv_ladd hM.x hM.b dX5_digest_438 ?_
    refine lv_lstore_n (lv' := [(2, .long (((((w2) * (31))) + ((f_X5_ro κ (nI (i)) (nI ((4 + j)))).toInt64)))), (6, .int (nI (j))), (4, .int (nI (i))), (0, .ref (g.2.2 (91)))]) hM.x hM.b dX5_digest_439 rfl hl (by decide) rfl (fun ls hl => ?_)
    refine lv_iinc (v := nI (j + 1)) (lv' := [(6, .int (nI (j + 1))), (2, .long (((((w2) * (31))) + ((f_X5_ro κ (nI (i)) (nI ((4 + j)))).toInt64)))), (4, .int (nI (i))), (0, .ref (g.2.2 (91)))]) hM.x hM.b dX5_digest_440 hl (k := 1) rfl (nI_1 (j)) (by decide) rfl (fun ls hl => ?_)
    refine lv_goto (tgt := 416) hM.x hM.b dX5_digest_443 (by decide) ?_
    exact ih (j + 1) (by omega) (((((w2) * (31))) + ((f_X5_ro κ (nI (i)) (nI ((4 + j)))).toInt64))) H locs ls (lv_sub hl [0, 2, 1, 3] rfl) hw (fun u2 H locs ls he hl hw => hx446 u2 H locs ls (hF.trans he) hl hw)
def lp_X5_digest_269 (κ : Kp)  : Nat → Nat → Int64 → Int64
  | 0, j, w2 => w2
  | n + 1, j, w2 => if (κ 91 3) ≤ (nI (j)) then (w2) else (if (bi (f_X5_done κ (nI (j)))) = 0 then (if (bi (f_X5_burnt κ (nI (j)))) = 0 then ((fun uz1 : Int64 => (fun uz2 : Int64 => lp_X5_digest_269 (κ) n (j + 1) (uz2)) (lp_X5_digest_416 κ j 4 0 (uz1))) (lp_X5_digest_383 κ (va_up (va_up (va_up (va_up (va_up (va_up (va_up (fun _ => 0 : Nat → Int32) 0 (κ (93) (j))) 1 (((f_X5_ro κ (nI (j)) (0)) - (1)))) 2 (f_X5_ro κ (nI (j)) (1))) 3 (f_X5_ro κ (nI (j)) (2))) 4 (f_X5_ro κ (nI (j)) (3))) 5 (0)) 6 (0)) 7 0 (w2))) else ((fun uz3 : Int64 => (fun uz4 : Int64 => lp_X5_digest_269 (κ) n (j + 1) (uz4)) (lp_X5_digest_416 κ j 4 0 (uz3))) (lp_X5_digest_383 κ (va_up (va_up (va_up (va_up (va_up (va_up (va_up (fun _ => 0 : Nat → Int32) 0 (κ (93) (j))) 1 (((f_X5_ro κ (nI (j)) (0)) - (1)))) 2 (f_X5_ro κ (nI (j)) (1))) 3 (f_X5_ro κ (nI (j)) (2))) 4 (f_X5_ro κ (nI (j)) (3))) 5 (0)) 6 (1)) 7 0 (w2)))) else (if (bi (f_X5_burnt κ (nI (j)))) = 0 then ((fun uz5 : Int64 => (fun uz6 : Int64 => lp_X5_digest_269 (κ) n (j + 1) (uz6)) (lp_X5_digest_416 κ j 4 0 (uz5))) (lp_X5_digest_383 κ (va_up (va_up (va_up (va_up (va_up (va_up (va_up (fun _ => 0 : Nat → Int32) 0 (κ (93) (j))) 1 (((f_X5_ro κ (nI (j)) (0)) - (1)))) 2 (f_X5_ro κ (nI (j)) (1))) 3 (f_X5_ro κ (nI (j)) (2))) 4 (f_X5_ro κ (nI (j)) (3))) 5 (1)) 6 (0)) 7 0 (w2))) else ((fun uz7 : Int64 => (fun uz8 : Int64 => lp_X5_digest_269 (κ) n (j + 1) (uz8)) (lp_X5_digest_416 κ j 4 0 (uz7))) (lp_X5_digest_383 κ (va_up (va_up (va_up (va_up (va_up (va_up (va_up (fun _ => 0 : Nat → Int32) 0 (κ (93) (j))) 1 (((f_X5_ro κ (nI (j)) (0)) - (1)))) 2 (f_X5_ro κ (nI (j)) (1))) 3 (f_X5_ro κ (nI (j)) (2))) 4 (f_X5_ro κ (nI (j)) (3))) 5 (1)) 6 (1)) 7 0 (w2)))))
set_option maxRecDepth 100000 in
set_option maxHeartbeats 4000000 in
theorem ml_X5_digest_269 {p : Program} {e : Env} {s : State} {m : MethodId} {below : List Frame} {meth : Method} {c : Code} {Q : State → Prop} (l : Launch) (g : Gt) (κ : Kp)  (hMI : MI κ) (hM : Mc g p s m ([.ref (g.2.2 (91))] : List Value).toArray meth c cX5_digest 10 yX5_digest.cls) : ∀ (n j : Nat), j + n = 16 → ∀ (w2 : Int64), ∀ (H : Heap) (locs : List Loc) (ls : Array Slot), lv_has ls 10 [(4, .int (nI (j))), (2, .long (w2)), (0, .ref (g.2.2 (91)))] → Ws g s κ H locs → (∀ (u2 : Int64) (H : Heap) (locs : List Loc) (ls : Array Slot), lp_X5_digest_269 κ n j w2 = u2 → lv_has ls 10 [(2, .long (u2)), (0, .ref (g.2.2 (91)))] → Ws g s κ H locs → W p l e { frames := 2, cells := 23, slots := 153, locals := 60 } s m ([.ref (g.2.2 (91))] : List Value).toArray below meth c H locs 23 153 Q (F0 m 452 ls [])) → W p l e { frames := 2, cells := 23, slots := 153, locals := 60 } s m ([.ref (g.2.2 (91))] : List Value).toArray below meth c H locs (7 + j) (41 + 7 * j) Q (F0 m 269 ls []) := by
  intro n
  induction n with
  | zero =>
    intro j hj w2 H locs ls hl hw hx452
    have hF := Eq.refl (lp_X5_digest_269 κ 0 j w2)
    conv at hF => rhs; rw [lp_X5_digest_269]
    refine lv_iload hM.x hM.b dX5_digest_269 (lv_at hl 0 rfl) ?_
    refine lv_aload_n hM.x hM.b dX5_digest_271 rfl (lv_at hl 2 rfl) ?_
    refine k_get5 3 hM hw (by decide) u_fl_X5_45 dX5_digest_272 ?_
    refine lv_icmp_ge (tgt := 452) hM.x hM.b dX5_digest_275 (by decide) (fun _ => ?_) (fun cz => absurd (MI_re hMI hj) cz)
    refine W.widen (k := 23) (n := 153) (by omega) (by omega) ?_
    exact hx452 (w2) H locs ls hF (lv_sub hl [1, 2] rfl) hw
  | succ n ih =>
    intro j hj w2 H locs ls hl hw hx452
    have hF := Eq.refl (lp_X5_digest_269 κ (n + 1) j w2)
    conv at hF => rhs; rw [lp_X5_digest_269]
    refine lv_iload hM.x hM.b dX5_digest_269 (lv_at hl 0 rfl) ?_
    refine lv_aload_n hM.x hM.b dX5_digest_271 rfl (lv_at hl 2 rfl) ?_
    refine k_get5 3 hM hw (by decide) u_fl_X5_45 dX5_digest_272 ?_
    refine lv_icmp_ge (tgt := 452) hM.x hM.b dX5_digest_275 (by decide) (fun c1 => ?_) (fun c1 => ?_)
    · rw [if_pos c1] at hF
      refine W.widen (k := 23) (n := 153) (by omega) (by omega) ?_
      exact hx452 (w2) H locs ls hF (lv_sub hl [1, 2] rfl) hw
    · rw [if_neg c1] at hF
      refine lv_bipush (v := 7) hM.x hM.b dX5_digest_278 (by decide) ?_
      refine k_newT (n := 7) hM hw (by decide) rfl (Nat.le_of_ble_eq_true rfl) (show _ ≤ 23 by omega) (show _ ≤ 153 by omega) dX5_digest_280 (fun ta1 H hw ht => ?_)
      refine lv_dup hM.x hM.b dX5_digest_282 rfl ?_
      refine lv_iconst (v := 0) hM.x hM.b dX5_digest_283 (by decide) ?_
      refine lv_aload_n hM.x hM.b dX5_digest_284 rfl (lv_at hl 2 rfl) ?_
      refine k_get5r 1 hM hw (by decide) u_fl_X5_17 dX5_digest_285 ?_
      refine lv_iload hM.x hM.b dX5_digest_288 (lv_at hl 0 rfl) ?_
      refine k_ialdN (i := j) (n := 16) hM hw (kd_lt kd_93 (by decide)) (sh11 kd_93) (by omega) (by decide) dX5_digest_290 ?_
      refine k_tst (i := 0) hM hw ht rfl (by decide) (by decide) dX5_digest_291 (fun H locs hw ht => ?_)
      refine lv_dup hM.x hM.b dX5_digest_292 rfl ?_
      refine lv_iconst (v := 1) hM.x hM.b dX5_digest_293 (by decide) ?_
      refine lv_aload_n hM.x hM.b dX5_digest_294 rfl (lv_at hl 2 rfl) ?_
      refine lv_iload hM.x hM.b dX5_digest_295 (lv_at hl 0 rfl) ?_
      refine lv_iconst (v := 0) hM.x hM.b dX5_digest_297 (by decide) ?_
      refine k_cipT hw ht (k_runV [.int (nI (j)), .int (0)] [.int (1), .ref ta1, .ref ta1] hM hw (m_X5_ro l g κ _ (nI (j)) (0) (vp_in_nI (n := j) (N := 16) (by omega) (by decide)) (vin_lit (by decide) : vp_in 0 8)) (kd_lt kd_91 (by decide)) (sh5 kd_91) rfl (k_gV u_ml_X5_61 u_im_X5_ro u_se_X5_ro u_ini_X5 u_co_X5_ro) (q_X5_ro) rfl rfl rfl ⟨Nat.le_of_ble_eq_true rfl, Nat.le_of_ble_eq_true rfl⟩ hl.1 rfl (Nat.le_of_ble_eq_true rfl) dX5_digest_298 ⟨(show _ ≤ 23 by omega), (show _ ≤ 153 by omega)⟩) (fun H locs hw ht => ?_)
      refine lv_iconst (v := 1) hM.x hM.b dX5_digest_301 (by decide) ?_
      refine lv_isub hM.x hM.b dX5_digest_302 ?_
      refine k_tst (i := 1) hM hw ht rfl (by decide) (by decide) dX5_digest_303 (fun H locs hw ht => ?_)
      refine lv_dup hM.x hM.b dX5_digest_304 rfl ?_
      refine lv_iconst (v := 2) hM.x hM.b dX5_digest_305 (by decide) ?_
      refine lv_aload_n hM.x hM.b dX5_digest_306 rfl (lv_at hl 2 rfl) ?_
      refine lv_iload hM.x hM.b dX5_digest_307 (lv_at hl 0 rfl) ?_
      refine lv_iconst (v := 1) hM.x hM.b dX5_digest_309 (by decide) ?_
      refine k_cipT hw ht (k_runV [.int (nI (j)), .int (1)] [.int (2), .ref ta1, .ref ta1] hM hw (m_X5_ro l g κ _ (nI (j)) (1) (vp_in_nI (n := j) (N := 16) (by omega) (by decide)) (vin_lit (by decide) : vp_in 1 8)) (kd_lt kd_91 (by decide)) (sh5 kd_91) rfl (k_gV u_ml_X5_61 u_im_X5_ro u_se_X5_ro u_ini_X5 u_co_X5_ro) (q_X5_ro) rfl rfl rfl ⟨Nat.le_of_ble_eq_true rfl, Nat.le_of_ble_eq_true rfl⟩ hl.1 rfl (Nat.le_of_ble_eq_true rfl) dX5_digest_310 ⟨(show _ ≤ 23 by omega), (show _ ≤ 153 by omega)⟩) (fun H locs hw ht => ?_)
      refine k_tst (i := 2) hM hw ht rfl (by decide) (by decide) dX5_digest_313 (fun H locs hw ht => ?_)
      refine lv_dup hM.x hM.b dX5_digest_314 rfl ?_
      refine lv_iconst (v := 3) hM.x hM.b dX5_digest_315 (by decide) ?_
      refine lv_aload_n hM.x hM.b dX5_digest_316 rfl (lv_at hl 2 rfl) ?_
      refine lv_iload hM.x hM.b dX5_digest_317 (lv_at hl 0 rfl) ?_
      refine lv_iconst (v := 2) hM.x hM.b dX5_digest_319 (by decide) ?_
      refine k_cipT hw ht (k_runV [.int (nI (j)), .int (2)] [.int (3), .ref ta1, .ref ta1] hM hw (m_X5_ro l g κ _ (nI (j)) (2) (vp_in_nI (n := j) (N := 16) (by omega) (by decide)) (vin_lit (by decide) : vp_in 2 8)) (kd_lt kd_91 (by decide)) (sh5 kd_91) rfl (k_gV u_ml_X5_61 u_im_X5_ro u_se_X5_ro u_ini_X5 u_co_X5_ro) (q_X5_ro) rfl rfl rfl ⟨Nat.le_of_ble_eq_true rfl, Nat.le_of_ble_eq_true rfl⟩ hl.1 rfl (Nat.le_of_ble_eq_true rfl) dX5_digest_320 ⟨(show _ ≤ 23 by omega), (show _ ≤ 153 by omega)⟩) (fun H locs hw ht => ?_)
      refine k_tst (i := 3) hM hw ht rfl (by decide) (by decide) dX5_digest_323 (fun H locs hw ht => ?_)
      refine lv_dup hM.x hM.b dX5_digest_324 rfl ?_
      refine lv_iconst (v := 4) hM.x hM.b dX5_digest_325 (by decide) ?_
      refine lv_aload_n hM.x hM.b dX5_digest_326 rfl (lv_at hl 2 rfl) ?_
      refine lv_iload hM.x hM.b dX5_digest_327 (lv_at hl 0 rfl) ?_
      refine lv_iconst (v := 3) hM.x hM.b dX5_digest_329 (by decide) ?_
      refine k_cipT hw ht (k_runV [.int (nI (j)), .int (3)] [.int (4), .ref ta1, .ref ta1] hM hw (m_X5_ro l g κ _ (nI (j)) (3) (vp_in_nI (n := j) (N := 16) (by omega) (by decide)) (vin_lit (by decide) : vp_in 3 8)) (kd_lt kd_91 (by decide)) (sh5 kd_91) rfl (k_gV u_ml_X5_61 u_im_X5_ro u_se_X5_ro u_ini_X5 u_co_X5_ro) (q_X5_ro) rfl rfl rfl ⟨Nat.le_of_ble_eq_true rfl, Nat.le_of_ble_eq_true rfl⟩ hl.1 rfl (Nat.le_of_ble_eq_true rfl) dX5_digest_330 ⟨(show _ ≤ 23 by omega), (show _ ≤ 153 by omega)⟩) (fun H locs hw ht => ?_)
      refine k_tst (i := 4) hM hw ht rfl (by decide) (by decide) dX5_digest_333 (fun H locs hw ht => ?_)
      refine lv_dup hM.x hM.b dX5_digest_334 rfl ?_
      refine lv_iconst (v := 5) hM.x hM.b dX5_digest_335 (by decide) ?_
      refine lv_aload_n hM.x hM.b dX5_digest_336 rfl (lv_at hl 2 rfl) ?_
      refine lv_iload hM.x hM.b dX5_digest_337 (lv_at hl 0 rfl) ?_
      refine k_cipT hw ht (k_runV [.int (nI (j))] [.int (5), .ref ta1, .ref ta1] hM hw (m_X5_done l g κ _ (nI (j)) (vp_in_nI (n := j) (N := 16) (by omega) (by decide))) (kd_lt kd_91 (by decide)) (sh5 kd_91) rfl (k_gV u_ml_X5_141 u_im_X5_done u_se_X5_done u_ini_X5 u_co_X5_done) (q_X5_done) rfl rfl rfl ⟨Nat.le_of_ble_eq_true rfl, Nat.le_of_ble_eq_true rfl⟩ hl.1 rfl (Nat.le_of_ble_eq_true rfl) dX5_digest_339 ⟨(show _ ≤ 23 by omega), (show _ ≤ 153 by omega)⟩) (fun H locs hw ht => ?_)
      refine lv_if_eq (tgt := 349) hM.x hM.b dX5_digest_342 (by decide) (fun c2 => ?_) (fun c2 => ?_)
      · rw [if_pos c2] at hF
        refine lv_iconst (v := 0) hM.x hM.b dX5_digest_349 (by decide) ?_
        refine k_tst (i := 5) hM hw ht rfl (by decide) (by decide) dX5_digest_350 (fun H locs hw ht => ?_)
        refine lv_dup hM.x hM.b dX5_digest_351 rfl ?_
        refine lv_bipush (v := 6) hM.x hM.b dX5_digest_352 (by decide) ?_
        refine lv_aload_n hM.x hM.b dX5_digest_354 rfl (lv_at hl 2 rfl) ?_
        refine lv_iload hM.x hM.b dX5_digest_355 (lv_at hl 0 rfl) ?_
        refine k_cipT hw ht (k_runV [.int (nI (j))] [.int (6), .ref ta1, .ref ta1] hM hw (m_X5_burnt l g κ _ (nI (j)) (vp_in_nI (n := j) (N := 16) (by omega) (by decide))) (kd_lt kd_91 (by decide)) (sh5 kd_91) rfl (k_gV u_ml_X5_144 u_im_X5_burnt u_se_X5_burnt u_ini_X5 u_co_X5_burnt) (q_X5_burnt) rfl rfl rfl ⟨Nat.le_of_ble_eq_true rfl, Nat.le_of_ble_eq_true rfl⟩ hl.1 rfl (Nat.le_of_ble_eq_true rfl) dX5_digest_357 ⟨(show _ ≤ 23 by omega), (show _ ≤ 153 by omega)⟩) (fun H locs hw ht => ?_)
        refine lv_if_eq (tgt := 367) hM.x hM.b dX5_digest_360 (by decide) (fun c3 => ?_) (fun c3 => ?_)
        · rw [if_pos c3] at hF
          refine lv_iconst (v := 0) hM.x hM.b dX5_digest_367 (by decide) ?_
          refine k_tst (i := 6) hM hw ht rfl (by decide) (by decide) dX5_digest_368 (fun H locs hw ht => ?_)
          refine lv_astore (lv' := [(5, .ref ta1), (4, .int (nI (j))), (2, .long (w2)), (0, .ref (g.2.2 (91)))]) hM.x hM.b dX5_digest_369 hl (by decide) rfl (fun ls hl => ?_)
          refine lv_aload hM.x hM.b dX5_digest_371 (lv_at hl 0 rfl) ?_
          refine lv_astore (lv' := [(6, .ref ta1), (5, .ref ta1), (4, .int (nI (j))), (2, .long (w2)), (0, .ref (g.2.2 (91)))]) hM.x hM.b dX5_digest_373 hl (by decide) rfl (fun ls hl => ?_)
          refine lv_aload hM.x hM.b dX5_digest_375 (lv_at hl 0 rfl) ?_
          refine k_tlen (v := nI 7) hM ht rfl dX5_digest_377 ?_
          refine lv_istore (lv' := [(7, .int (nI (7))), (6, .ref ta1), (5, .ref ta1), (4, .int (nI (j))), (2, .long (w2)), (0, .ref (g.2.2 (91)))]) hM.x hM.b dX5_digest_378 hl (by decide) rfl (fun ls hl => ?_)
          refine lv_iconst (v := nI 0) hM.x hM.b dX5_digest_380 (by decide) ?_
          refine lv_istore (lv' := [(8, .int (nI (0))), (7, .int (nI (7))), (6, .ref ta1), (5, .ref ta1), (4, .int (nI (j))), (2, .long (w2)), (0, .ref (g.2.2 (91)))]) hM.x hM.b dX5_digest_381 hl (by decide) rfl (fun ls hl => ?_)
          refine ml_X5_digest_383 l g κ (va_up (va_up (va_up (va_up (va_up (va_up (va_up (fun _ => 0 : Nat → Int32) 0 (κ (93) (j))) 1 (((f_X5_ro κ (nI (j)) (0)) - (1)))) 2 (f_X5_ro κ (nI (j)) (1))) 3 (f_X5_ro κ (nI (j)) (2))) 4 (f_X5_ro κ (nI (j)) (3))) 5 (0)) 6 (0))  hM (7) (0) (by omega) (w2) _ _ _ (lv_sub hl [0, 1, 2, 4, 5, 6] rfl) hw ht (fun uz1 H locs ls he hl hw => ?_)
          rw [he] at hF
          try dsimp only at hF
          refine lv_iconst (v := nI 0) hM.x hM.b dX5_digest_413 (by decide) ?_
          refine lv_istore (lv' := [(6, .int (nI (0))), (4, .int (nI (j))), (2, .long (uz1)), (0, .ref (g.2.2 (91)))]) hM.x hM.b dX5_digest_414 hl (by decide) rfl (fun ls hl => ?_)
          refine ml_X5_digest_416 l g κ j (by omega) (show _ ≤ 23 by omega) (show _ ≤ 153 by omega) hM (4) (0) (by omega) (uz1) _ _ _ (lv_sub hl [0, 1, 2, 3] rfl) hw (fun uz2 H locs ls he hl hw => ?_)
          rw [he] at hF
          try dsimp only at hF
          refine lv_iinc (v := nI (j + 1)) (lv' := [(4, .int (nI (j + 1))), (2, .long (uz2)), (0, .ref (g.2.2 (91)))]) hM.x hM.b dX5_digest_446 hl (k := 0) rfl (nI_1 (j)) (by decide) rfl (fun ls hl => ?_)
          refine lv_goto (tgt := 269) hM.x hM.b dX5_digest_449 (by decide) ?_
          refine W.widen (k := (7 + (j + 1))) (n := (41 + 7 * (j + 1))) (by omega) (by omega) ?_
          exact ih (j + 1) (by omega) (uz2) H locs ls (lv_sub hl [0, 1, 2] rfl) hw (fun u2 H locs ls he hl hw => hx452 u2 H locs ls (hF.trans he) hl hw)
        · rw [if_neg c3] at hF
          refine lv_iconst (v := 1) hM.x hM.b dX5_digest_363 (by decide) ?_
          refine lv_goto (tgt := 368) hM.x hM.b dX5_digest_364 (by decide) ?_
          refine k_tst (i := 6) hM hw ht rfl (by decide) (by decide) dX5_digest_368 (fun H locs hw ht => ?_)
          refine lv_astore (lv' := [(5, .ref ta1), (4, .int (nI (j))), (2, .long (w2)), (0, .ref (g.2.2 (91)))]) hM.x hM.b dX5_digest_369 hl (by decide) rfl (fun ls hl => ?_)
          refine lv_aload hM.x hM.b dX5_digest_371 (lv_at hl 0 rfl) ?_
          refine lv_astore (lv' := [(6, .ref ta1), (5, .ref ta1), (4, .int (nI (j))), (2, .long (w2)), (0, .ref (g.2.2 (91)))]) hM.x hM.b dX5_digest_373 hl (by decide) rfl (fun ls hl => ?_)
          refine lv_aload hM.x hM.b dX5_digest_375 (lv_at hl 0 rfl) ?_
          refine k_tlen (v := nI 7) hM ht rfl dX5_digest_377 ?_
          refine lv_istore (lv' := [(7, .int (nI (7))), (6, .ref ta1), (5, .ref ta1), (4, .int (nI (j))), (2, .long (w2)), (0, .ref (g.2.2 (91)))]) hM.x hM.b dX5_digest_378 hl (by decide) rfl (fun ls hl => ?_)
          refine lv_iconst (v := nI 0) hM.x hM.b dX5_digest_380 (by decide) ?_
          refine lv_istore (lv' := [(8, .int (nI (0))), (7, .int (nI (7))), (6, .ref ta1), (5, .ref ta1), (4, .int (nI (j))), (2, .long (w2)), (0, .ref (g.2.2 (91)))]) hM.x hM.b dX5_digest_381 hl (by decide) rfl (fun ls hl => ?_)
          refine ml_X5_digest_383 l g κ (va_up (va_up (va_up (va_up (va_up (va_up (va_up (fun _ => 0 : Nat → Int32) 0 (κ (93) (j))) 1 (((f_X5_ro κ (nI (j)) (0)) - (1)))) 2 (f_X5_ro κ (nI (j)) (1))) 3 (f_X5_ro κ (nI (j)) (2))) 4 (f_X5_ro κ (nI (j)) (3))) 5 (0)) 6 (1))  hM (7) (0) (by omega) (w2) _ _ _ (lv_sub hl [0, 1, 2, 4, 5, 6] rfl) hw ht (fun uz3 H locs ls he hl hw => ?_)
          rw [he] at hF
          try dsimp only at hF
          refine lv_iconst (v := nI 0) hM.x hM.b dX5_digest_413 (by decide) ?_
          refine lv_istore (lv' := [(6, .int (nI (0))), (4, .int (nI (j))), (2, .long (uz3)), (0, .ref (g.2.2 (91)))]) hM.x hM.b dX5_digest_414 hl (by decide) rfl (fun ls hl => ?_)
          refine ml_X5_digest_416 l g κ j (by omega) (show _ ≤ 23 by omega) (show _ ≤ 153 by omega) hM (4) (0) (by omega) (uz3) _ _ _ (lv_sub hl [0, 1, 2, 3] rfl) hw (fun uz4 H locs ls he hl hw => ?_)
          rw [he] at hF
          try dsimp only at hF
          refine lv_iinc (v := nI (j + 1)) (lv' := [(4, .int (nI (j + 1))), (2, .long (uz4)), (0, .ref (g.2.2 (91)))]) hM.x hM.b dX5_digest_446 hl (k := 0) rfl (nI_1 (j)) (by decide) rfl (fun ls hl => ?_)
          refine lv_goto (tgt := 269) hM.x hM.b dX5_digest_449 (by decide) ?_
          refine W.widen (k := (7 + (j + 1))) (n := (41 + 7 * (j + 1))) (by omega) (by omega) ?_
          exact ih (j + 1) (by omega) (uz4) H locs ls (lv_sub hl [0, 1, 2] rfl) hw (fun u2 H locs ls he hl hw => hx452 u2 H locs ls (hF.trans he) hl hw)
      · rw [if_neg c2] at hF
        refine lv_iconst (v := 1) hM.x hM.b dX5_digest_345 (by decide) ?_
        refine lv_goto (tgt := 350) hM.x hM.b dX5_digest_346 (by decide) ?_
        refine k_tst (i := 5) hM hw ht rfl (by decide) (by decide) dX5_digest_350 (fun H locs hw ht => ?_)
        refine lv_dup hM.x hM.b dX5_digest_351 rfl ?_
        refine lv_bipush (v := 6) hM.x hM.b dX5_digest_352 (by decide) ?_
        refine lv_aload_n hM.x hM.b dX5_digest_354 rfl (lv_at hl 2 rfl) ?_
        refine lv_iload hM.x hM.b dX5_digest_355 (lv_at hl 0 rfl) ?_
        refine k_cipT hw ht (k_runV [.int (nI (j))] [.int (6), .ref ta1, .ref ta1] hM hw (m_X5_burnt l g κ _ (nI (j)) (vp_in_nI (n := j) (N := 16) (by omega) (by decide))) (kd_lt kd_91 (by decide)) (sh5 kd_91) rfl (k_gV u_ml_X5_144 u_im_X5_burnt u_se_X5_burnt u_ini_X5 u_co_X5_burnt) (q_X5_burnt) rfl rfl rfl ⟨Nat.le_of_ble_eq_true rfl, Nat.le_of_ble_eq_true rfl⟩ hl.1 rfl (Nat.le_of_ble_eq_true rfl) dX5_digest_357 ⟨(show _ ≤ 23 by omega), (show _ ≤ 153 by omega)⟩) (fun H locs hw ht => ?_)
        refine lv_if_eq (tgt := 367) hM.x hM.b dX5_digest_360 (by decide) (fun c4 => ?_) (fun c4 => ?_)
        · rw [if_pos c4] at hF
          refine lv_iconst (v := 0) hM.x hM.b dX5_digest_367 (by decide) ?_
          refine k_tst (i := 6) hM hw ht rfl (by decide) (by decide) dX5_digest_368 (fun H locs hw ht => ?_)
          refine lv_astore (lv' := [(5, .ref ta1), (4, .int (nI (j))), (2, .long (w2)), (0, .ref (g.2.2 (91)))]) hM.x hM.b dX5_digest_369 hl (by decide) rfl (fun ls hl => ?_)
          refine lv_aload hM.x hM.b dX5_digest_371 (lv_at hl 0 rfl) ?_
          refine lv_astore (lv' := [(6, .ref ta1), (5, .ref ta1), (4, .int (nI (j))), (2, .long (w2)), (0, .ref (g.2.2 (91)))]) hM.x hM.b dX5_digest_373 hl (by decide) rfl (fun ls hl => ?_)
          refine lv_aload hM.x hM.b dX5_digest_375 (lv_at hl 0 rfl) ?_
          refine k_tlen (v := nI 7) hM ht rfl dX5_digest_377 ?_
          refine lv_istore (lv' := [(7, .int (nI (7))), (6, .ref ta1), (5, .ref ta1), (4, .int (nI (j))), (2, .long (w2)), (0, .ref (g.2.2 (91)))]) hM.x hM.b dX5_digest_378 hl (by decide) rfl (fun ls hl => ?_)
          refine lv_iconst (v := nI 0) hM.x hM.b dX5_digest_380 (by decide) ?_
          refine lv_istore (lv' := [(8, .int (nI (0))), (7, .int (nI (7))), (6, .ref ta1), (5, .ref ta1), (4, .int (nI (j))), (2, .long (w2)), (0, .ref (g.2.2 (91)))]) hM.x hM.b dX5_digest_381 hl (by decide) rfl (fun ls hl => ?_)
          refine ml_X5_digest_383 l g κ (va_up (va_up (va_up (va_up (va_up (va_up (va_up (fun _ => 0 : Nat → Int32) 0 (κ (93) (j))) 1 (((f_X5_ro κ (nI (j)) (0)) - (1)))) 2 (f_X5_ro κ (nI (j)) (1))) 3 (f_X5_ro κ (nI (j)) (2))) 4 (f_X5_ro κ (nI (j)) (3))) 5 (1)) 6 (0))  hM (7) (0) (by omega) (w2) _ _ _ (lv_sub hl [0, 1, 2, 4, 5, 6] rfl) hw ht (fun uz5 H locs ls he hl hw => ?_)
          rw [he] at hF
          try dsimp only at hF
          refine lv_iconst (v := nI 0) hM.x hM.b dX5_digest_413 (by decide) ?_
          refine lv_istore (lv' := [(6, .int (nI (0))), (4, .int (nI (j))), (2, .long (uz5)), (0, .ref (g.2.2 (91)))]) hM.x hM.b dX5_digest_414 hl (by decide) rfl (fun ls hl => ?_)
          refine ml_X5_digest_416 l g κ j (by omega) (show _ ≤ 23 by omega) (show _ ≤ 153 by omega) hM (4) (0) (by omega) (uz5) _ _ _ (lv_sub hl [0, 1, 2, 3] rfl) hw (fun uz6 H locs ls he hl hw => ?_)
          rw [he] at hF
          try dsimp only at hF
          refine lv_iinc (v := nI (j + 1)) (lv' := [(4, .int (nI (j + 1))), (2, .long (uz6)), (0, .ref (g.2.2 (91)))]) hM.x hM.b dX5_digest_446 hl (k := 0) rfl (nI_1 (j)) (by decide) rfl (fun ls hl => ?_)
          refine lv_goto (tgt := 269) hM.x hM.b dX5_digest_449 (by decide) ?_
          refine W.widen (k := (7 + (j + 1))) (n := (41 + 7 * (j + 1))) (by omega) (by omega) ?_
          exact ih (j + 1) (by omega) (uz6) H locs ls (lv_sub hl [0, 1, 2] rfl) hw (fun u2 H locs ls he hl hw => hx452 u2 H locs ls (hF.trans he) hl hw)
        · rw [if_neg c4] at hF
          refine lv_iconst (v := 1) hM.x hM.b dX5_digest_363 (by decide) ?_
          refine lv_goto (tgt := 368) hM.x hM.b dX5_digest_364 (by decide) ?_
          refine k_tst (i := 6) hM hw ht rfl (by decide) (by decide) dX5_digest_368 (fun H locs hw ht => ?_)
          refine lv_astore (lv' := [(5, .ref ta1), (4, .int (nI (j))), (2, .long (w2)), (0, .ref (g.2.2 (91)))]) hM.x hM.b dX5_digest_369 hl (by decide) rfl (fun ls hl => ?_)
          refine lv_aload hM.x hM.b dX5_digest_371 (lv_at hl 0 rfl) ?_
          refine lv_astore (lv' := [(6, .ref ta1), (5, .ref ta1), (4, .int (nI (j))), (2, .long (w2)), (0, .ref (g.2.2 (91)))]) hM.x hM.b dX5_digest_373 hl (by decide) rfl (fun ls hl => ?_)
          refine lv_aload hM.x hM.b dX5_digest_375 (lv_at hl 0 rfl) ?_
          refine k_tlen (v := nI 7) hM ht rfl dX5_digest_377 ?_
          refine lv_istore (lv' := [(7, .int (nI (7))), (6, .ref ta1), (5, .ref ta1), (4, .int (nI (j))), (2, .long (w2)), (0, .ref (g.2.2 (91)))]) hM.x hM.b dX5_digest_378 hl (by decide) rfl (fun ls hl => ?_)
          refine lv_iconst (v := nI 0) hM.x hM.b dX5_digest_380 (by decide) ?_
          refine lv_istore (lv' := [(8, .int (nI (0))), (7, .int (nI (7))), (6, .ref ta1), (5, .ref ta1), (4, .int (nI (j))), (2, .long (w2)), (0, .ref (g.2.2 (91)))]) hM.x hM.b dX5_digest_381 hl (by decide) rfl (fun ls hl => ?_)
          refine ml_X5_digest_383 l g κ (va_up (va_up (va_up (va_up (va_up (va_up (va_up (fun _ => 0 : Nat → Int32) 0 (κ (93) (j))) 1 (((f_X5_ro κ (nI (j)) (0)) - (1)))) 2 (f_X5_ro κ (nI (j)) (1))) 3 (f_X5_ro κ (nI (j)) (2))) 4 (f_X5_ro κ (nI (j)) (3))) 5 (1)) 6 (1))  hM (7) (0) (by omega) (w2) _ _ _ (lv_sub hl [0, 1, 2, 4, 5, 6] rfl) hw ht (fun uz7 H locs ls he hl hw => ?_)
          rw [he] at hF
          try dsimp only at hF
          refine lv_iconst (v := nI 0) hM.x hM.b dX5_digest_413 (by decide) ?_
          refine lv_istore (lv' := [(6, .int (nI (0))), (4, .int (nI (j))), (2, .long (uz7)), (0, .ref (g.2.2 (91)))]) hM.x hM.b dX5_digest_414 hl (by decide) rfl (fun ls hl => ?_)
          refine ml_X5_digest_416 l g κ j (by omega) (show _ ≤ 23 by omega) (show _ ≤ 153 by omega) hM (4) (0) (by omega) (uz7) _ _ _ (lv_sub hl [0, 1, 2, 3] rfl) hw (fun uz8 H locs ls he hl hw => ?_)
          rw [he] at hF
          try dsimp only at hF
          refine lv_iinc (v := nI (j + 1)) (lv' := [(4, .int (nI (j + 1))), (2, .long (uz8)), (0, .ref (g.2.2 (91)))]) hM.x hM.b dX5_digest_446 hl (k := 0) rfl (nI_1 (j)) (by decide) rfl (fun ls hl => ?_)
          refine lv_goto (tgt := 269) hM.x hM.b dX5_digest_449 (by decide) ?_
          refine W.widen (k := (7 + (j + 1))) (n := (41 + 7 * (j + 1))) (by omega) (by omega) ?_
          exact ih (j + 1) (by omega) (uz8) H locs ls (lv_sub hl [0, 1, 2] rfl) hw (fun u2 H locs ls he hl hw => hx452 u2 H locs ls (hF.trans he) hl hw)
def f_X5_digest (κ : Kp) : Int64 × Kp := (fun κ1 : Kp => (fun uz1 : Int64 => (fun uz2 : Int64 => (fun uz3 : Int64 => (fun uz4 : Int64 => (uz4, κ1)) (lp_X5_digest_269 κ1 16 0 (uz3))) (lp_X5_digest_142 κ1 6 0 (uz2))) (lp_X5_digest_94 κ1 3 0 (uz1))) (lp_X5_digest_61 κ1 (va_up (va_up (va_up (va_up (va_up (fun _ => 0 : Nat → Int32) 0 (κ1 (96) (0))) 1 (κ1 91 4)) 2 (κ1 91 1)) 3 (κ1 91 2)) 4 (κ1 91 3)) 5 0 (1951))) (up2 κ (91) 0 (0))
set_option maxRecDepth 100000 in
set_option maxHeartbeats 4000000 in
theorem m_X5_digest (l : Launch) (g : Gt) (κ : Kp) (sz : Nat) (hMI : MI κ) : Met l yX5_digest (.code yX5_digest cX5_digest 10 (some .long) :: uW) { frames := 2, cells := 23, slots := 153, locals := 60 } (PRE g κ sz [.ref (g.2.2 (91))]) (va_Ql (fun r κ' => f_X5_digest κ  = (r, κ')) (Wp g) (fr g sz)) 23 153 (fr g sz) := by
  refine k_enter (by decide +kernel) (Nat.le_of_ble_eq_true rfl) ?_
  intro p e s m below meth c ls hM hr hl hw hsz
  subst hsz
  have hl : lv_has ls 10 [(0, .ref (g.2.2 (91)))] := hl
  have hF := f_X5_digest.eq_1 κ 
  refine lv_aload_n hM.x hM.b dX5_digest_0 rfl (lv_at hl 0 rfl) ?_
  refine lv_iconst (v := 0) hM.x hM.b dX5_digest_1 (by decide) ?_
  refine k_put5 0 hM hw (by decide) u_fl_X5_32 dX5_digest_2 (fun H locs hw => ?_)
  obtain ⟨κ1, eκ1⟩ : ∃ z : Kp, up2 κ (91) 0 (0) = z := ⟨_, rfl⟩
  rw [eκ1] at hw
  rw [eκ1] at hF
  try dsimp only at hF
  refine lv_iconst (v := 5) hM.x hM.b dX5_digest_5 (by decide) ?_
  refine k_newT (n := 5) hM hw (by decide) rfl (Nat.le_of_ble_eq_true rfl) (show _ ≤ 23 by omega) (show _ ≤ 153 by omega) dX5_digest_6 (fun ta1 H hw ht => ?_)
  refine lv_dup hM.x hM.b dX5_digest_8 rfl ?_
  refine lv_iconst (v := 0) hM.x hM.b dX5_digest_9 (by decide) ?_
  refine lv_aload_n hM.x hM.b dX5_digest_10 rfl (lv_at hl 0 rfl) ?_
  refine k_get5r 4 hM hw (by decide) u_fl_X5_26 dX5_digest_11 ?_
  refine lv_iconst (v := 0) hM.x hM.b dX5_digest_14 (by decide) ?_
  refine k_ialdN (i := 0) (n := 165) hM hw (kd_lt kd_96 (by decide)) (sh13 kd_96) (by decide) (by decide) dX5_digest_15 ?_
  refine k_tst (i := 0) hM hw ht rfl (by decide) (by decide) dX5_digest_16 (fun H locs hw ht => ?_)
  refine lv_dup hM.x hM.b dX5_digest_17 rfl ?_
  refine lv_iconst (v := 1) hM.x hM.b dX5_digest_18 (by decide) ?_
  refine lv_aload_n hM.x hM.b dX5_digest_19 rfl (lv_at hl 0 rfl) ?_
  refine k_get5 4 hM hw (by decide) u_fl_X5_7 dX5_digest_20 ?_
  refine k_tst (i := 1) hM hw ht rfl (by decide) (by decide) dX5_digest_23 (fun H locs hw ht => ?_)
  refine lv_dup hM.x hM.b dX5_digest_24 rfl ?_
  refine lv_iconst (v := 2) hM.x hM.b dX5_digest_25 (by decide) ?_
  refine lv_aload_n hM.x hM.b dX5_digest_26 rfl (lv_at hl 0 rfl) ?_
  refine k_get5 1 hM hw (by decide) u_fl_X5_35 dX5_digest_27 ?_
  refine k_tst (i := 2) hM hw ht rfl (by decide) (by decide) dX5_digest_30 (fun H locs hw ht => ?_)
  refine lv_dup hM.x hM.b dX5_digest_31 rfl ?_
  refine lv_iconst (v := 3) hM.x hM.b dX5_digest_32 (by decide) ?_
  refine lv_aload_n hM.x hM.b dX5_digest_33 rfl (lv_at hl 0 rfl) ?_
  refine k_get5 2 hM hw (by decide) u_fl_X5_42 dX5_digest_34 ?_
  refine k_tst (i := 3) hM hw ht rfl (by decide) (by decide) dX5_digest_37 (fun H locs hw ht => ?_)
  refine lv_dup hM.x hM.b dX5_digest_38 rfl ?_
  refine lv_iconst (v := 4) hM.x hM.b dX5_digest_39 (by decide) ?_
  refine lv_aload_n hM.x hM.b dX5_digest_40 rfl (lv_at hl 0 rfl) ?_
  refine k_get5 3 hM hw (by decide) u_fl_X5_45 dX5_digest_41 ?_
  refine k_tst (i := 4) hM hw ht rfl (by decide) (by decide) dX5_digest_44 (fun H locs hw ht => ?_)
  refine lv_astore_n (lv' := [(1, .ref ta1), (0, .ref (g.2.2 (91)))]) hM.x hM.b dX5_digest_45 rfl hl (by decide) rfl (fun ls hl => ?_)
  refine lv_ldc2 hM.x hM.b hM.ow (hM.ts _ u_kl_X5_157) dX5_digest_46 ?_
  refine lv_lstore_n (lv' := [(2, .long (1951)), (1, .ref ta1), (0, .ref (g.2.2 (91)))]) hM.x hM.b dX5_digest_49 rfl hl (by decide) rfl (fun ls hl => ?_)
  refine lv_aload_n hM.x hM.b dX5_digest_50 rfl (lv_at hl 1 rfl) ?_
  refine lv_astore (lv' := [(4, .ref ta1), (2, .long (1951)), (1, .ref ta1), (0, .ref (g.2.2 (91)))]) hM.x hM.b dX5_digest_51 hl (by decide) rfl (fun ls hl => ?_)
  refine lv_aload hM.x hM.b dX5_digest_53 (lv_at hl 0 rfl) ?_
  refine k_tlen (v := nI 5) hM ht rfl dX5_digest_55 ?_
  refine lv_istore (lv' := [(5, .int (nI (5))), (4, .ref ta1), (2, .long (1951)), (1, .ref ta1), (0, .ref (g.2.2 (91)))]) hM.x hM.b dX5_digest_56 hl (by decide) rfl (fun ls hl => ?_)
  refine lv_iconst (v := nI 0) hM.x hM.b dX5_digest_58 (by decide) ?_
  refine lv_istore (lv' := [(6, .int (nI (0))), (5, .int (nI (5))), (4, .ref ta1), (2, .long (1951)), (1, .ref ta1), (0, .ref (g.2.2 (91)))]) hM.x hM.b dX5_digest_59 hl (by decide) rfl (fun ls hl => ?_)
  refine ml_X5_digest_61 l g κ1 (va_up (va_up (va_up (va_up (va_up (fun _ => 0 : Nat → Int32) 0 (κ1 (96) (0))) 1 (κ1 91 4)) 2 (κ1 91 1)) 3 (κ1 91 2)) 4 (κ1 91 3))  hM (5) (0) (by omega) (1951) _ _ _ (lv_sub hl [0, 1, 2, 3, 5] rfl) hw ht (fun uz1 H locs ls he hl hw => ?_)
  rw [he] at hF
  try dsimp only at hF
  refine lv_iconst (v := nI 0) hM.x hM.b dX5_digest_91 (by decide) ?_
  refine lv_istore (lv' := [(4, .int (nI (0))), (2, .long (uz1)), (0, .ref (g.2.2 (91)))]) hM.x hM.b dX5_digest_92 hl (by decide) rfl (fun ls hl => ?_)
  refine ml_X5_digest_94 l g κ1 (MI_th eκ1 hMI) hM (3) (0) (by omega) (uz1) _ _ _ (lv_sub hl [0, 1, 2] rfl) hw (fun uz2 H locs ls he hl hw => ?_)
  rw [he] at hF
  try dsimp only at hF
  refine lv_iconst (v := nI 0) hM.x hM.b dX5_digest_139 (by decide) ?_
  refine lv_istore (lv' := [(4, .int (nI (0))), (2, .long (uz2)), (0, .ref (g.2.2 (91)))]) hM.x hM.b dX5_digest_140 hl (by decide) rfl (fun ls hl => ?_)
  refine ml_X5_digest_142 l g κ1 (MI_th eκ1 hMI) hM (6) (0) (by omega) (uz2) _ _ _ (lv_sub hl [0, 1, 2] rfl) hw (fun uz3 H locs ls he hl hw => ?_)
  rw [he] at hF
  try dsimp only at hF
  refine lv_iconst (v := nI 0) hM.x hM.b dX5_digest_266 (by decide) ?_
  refine lv_istore (lv' := [(4, .int (nI (0))), (2, .long (uz3)), (0, .ref (g.2.2 (91)))]) hM.x hM.b dX5_digest_267 hl (by decide) rfl (fun ls hl => ?_)
  refine ml_X5_digest_269 l g κ1 (MI_th eκ1 hMI) hM (16) (0) (by omega) (uz3) _ _ _ (lv_sub hl [0, 1, 2] rfl) hw (fun uz4 H locs ls he hl hw => ?_)
  rw [he] at hF
  try dsimp only at hF
  refine lv_lload_n hM.x hM.b dX5_digest_452 rfl (lv_at hl 0 rfl) ?_
  exact k_lret hM hr hw (Nat.le_of_ble_eq_true rfl) (Nat.le_of_ble_eq_true rfl) hF dX5_digest_453
