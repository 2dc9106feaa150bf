theorem law_end {L t : Nat} (h : L < 3 * t + 3) (ht : 3 * t ≤ L) (hL : L ≤ 1536) : (nI L - 3 : Int32) < nI (3 * t) := by
  rw [Int32.lt_iff_toInt_lt, Int32.toInt_sub, nI_toInt (by omega), nI_toInt (by omega), show (3 : Int32).toInt = 3 from rfl, Int.bmod_eq_of_le (by omega) (by omega)]
  omega
theorem law_go {L t : Nat} (h : 3 * t + 3 ≤ L) (hL : L ≤ 1536) : ¬ (nI L - 3 : Int32) < nI (3 * t) := by
  rw [Int32.lt_iff_toInt_lt, Int32.toInt_sub, nI_toInt (by omega), nI_toInt (by omega), show (3 : Int32).toInt = 3 from rfl, Int.bmod_eq_of_le (by omega) (by omega)]
  omega
theorem law_63 (x : Int32) : 0 ≤ (x &&& 63).toInt ∧ (x &&& 63).toInt < 64 := by
  have h : (x &&& 63).toBitVec = x.toBitVec &&& 63#32 := rfl
  have h2 : (x.toBitVec &&& 63#32).toNat < 64 := by
    rw [BitVec.toNat_and]
    exact Nat.lt_of_le_of_lt Nat.and_le_right (by decide)
  have h3 : (x &&& 63).toInt = ((x.toBitVec &&& 63#32).toNat : Int) := by
    show (x &&& 63).toBitVec.toInt = _
    rw [h, BitVec.toInt_eq_toNat_cond, if_pos (by omega)]
  omega
set_option maxRecDepth 100000 in
set_option maxHeartbeats 4000000 in
theorem ml_law {p : Program} {e : Env} {s : State} {m : MethodId} {below : List Frame} {meth : Method} {c : Code} (l : Launch) (hlst : l.stackTraces = false) (g : Gt) {b L : Nat} {xs : Nat → Int32} {S : Nat → Kp → Prop} {Q : State → Prop} (h_addFire : SimOp S (fun κ => f_L_addFire κ ) (fun κ => f_X5_addFire κ )) (h_layLogs : ∀ a b : Int32, SimOp S (fun κ => f_L_layLogs κ a b) (fun κ => f_X5_layLogs κ a b)) (h_addSpit : ∀ a b : Int32, SimOp S (fun κ => f_L_addSpit κ a b) (fun κ => f_X5_addSpit κ a b)) (h_moveSpit : ∀ a b : Int32, SimOp S (fun κ => f_L_moveSpit κ a b) (fun κ => f_X5_moveSpit κ a b)) (h_turnEach : ∀ a b : Int32, SimOp S (fun κ => f_L_turnEach κ a b) (fun κ => f_X5_turnEach κ a b)) (h_setFeast : ∀ a : Int32, SimOp S (fun κ => f_L_setFeast κ a) (fun κ => f_X5_setFeast κ a)) (h_hang : ∀ a b : Int32, SimOp S (fun κ => f_L_hang κ a b) (fun κ => f_X5_hang κ a b)) (h_turnNow : ∀ a : Int32, SimOp S (fun κ => f_L_turnNow κ a) (fun κ => f_X5_turnNow κ a)) (h_baste : ∀ a : Int32, SimOp S (fun κ => f_L_baste κ a) (fun κ => f_X5_baste κ a)) (h_takeDown : ∀ a : Int32, SimOp S (fun κ => f_L_takeDown κ a) (fun κ => f_X5_takeDown κ a)) (h_emptyPan : ∀ a : Int32, SimOp S (fun κ => f_L_emptyPan κ a) (fun κ => f_X5_emptyPan κ a)) (h_pass : ∀ a : Int32, SimOp S (fun κ => f_L_pass κ a) (fun κ => f_X5_pass κ a)) (h_minute : SimRd S (fun κ => f_X4_minute κ ) (fun κ => f_X5_minute κ )) (h_feast : SimRd S (fun κ => f_X4_feast κ ) (fun κ => f_X5_feast κ )) (h_fires : SimRd S (fun κ => f_X4_fires κ ) (fun κ => f_X5_fires κ )) (h_logsOf : ∀ a : Int32, SimOp S (fun κ => f_L_logsOf κ a) (fun κ => f_X5_logsOf κ a)) (h_heatOf : ∀ a : Int32, SimOp S (fun κ => f_L_heatOf κ a) (fun κ => f_X5_heatOf κ a)) (h_spits : SimRd S (fun κ => f_X4_spits κ ) (fun κ => f_X5_spits κ )) (h_fireOf : ∀ a : Int32, SimOp S (fun κ => f_L_fireOf κ a) (fun κ => f_X5_fireOf κ a)) (h_feetOf : ∀ a : Int32, SimOp S (fun κ => f_L_feetOf κ a) (fun κ => f_X5_feetOf κ a)) (h_glowAt : ∀ a : Int32, SimOp S (fun κ => f_L_glowAt κ a) (fun κ => f_X5_glowAt κ a)) (h_turnedEach : ∀ a : Int32, SimOp S (fun κ => f_L_turnedEach κ a) (fun κ => f_X5_turnedEach κ a)) (h_drippingsOf : ∀ a : Int32, SimOp S (fun κ => f_L_drippingsOf κ a) (fun κ => f_X5_drippingsOf κ a)) (h_roastOn : ∀ a : Int32, SimOp S (fun κ => f_L_roastOn κ a) (fun κ => f_X5_roastOn κ a)) (h_roasts : SimRd S (fun κ => f_X4_roasts κ ) (fun κ => f_X5_roasts κ )) (h_poundsOf : ∀ a : Int32, SimOp S (fun κ => f_L_poundsOf κ a) (fun κ => f_X5_poundsOf κ a)) (h_spitOf : ∀ a : Int32, SimOp S (fun κ => f_L_spitOf κ a) (fun κ => f_X5_spitOf κ a)) (h_sideToFire : ∀ a : Int32, SimOp S (fun κ => f_L_sideToFire κ a) (fun κ => f_X5_sideToFire κ a)) (h_brownOf : ∀ a b : Int32, SimOp S (fun κ => f_L_brownOf κ a b) (fun κ => f_X5_brownOf κ a b)) (h_fatOf : ∀ a : Int32, SimOp S (fun κ => f_L_fatOf κ a) (fun κ => f_X5_fatOf κ a)) (h_wetFor : ∀ a : Int32, SimOp S (fun κ => f_L_wetFor κ a) (fun κ => f_X5_wetFor κ a)) (h_isDone : ∀ a : Int32, SimOz S (fun κ => f_L_isDone κ a) (fun κ => f_X5_isDone κ a)) (h_isBurnt : ∀ a : Int32, SimOz S (fun κ => f_L_isBurnt κ a) (fun κ => f_X5_isBurnt κ a)) (h_minutesUntilDone : ∀ a : Int32, SimOp S (fun κ => f_L_minutesUntilDone κ a) (fun κ => f_X5_minutesUntilDone κ a)) (h_minutesUntilBurnt : ∀ a : Int32, SimOp S (fun κ => f_L_minutesUntilBurnt κ a) (fun κ => f_X5_minutesUntilBurnt κ a)) (h_doneAtFeast : SimFe S (fun κ => f_X4_doneAtFeast κ ) (fun κ => f_X5_doneAtFeast κ )) (h_bestEach : ∀ a : Int32, SimOp S (fun κ => f_L_bestEach κ a) (fun κ => f_X5_bestEach κ a)) (h_bestSpit : ∀ a : Int32, SimOp S (fun κ => f_L_bestSpit κ a) (fun κ => f_X5_bestSpit κ a)) (h_meanBrown : SimDb S (fun κ => f_X4_meanBrown κ ) (fun κ => f_X5_meanBrown κ )) (h_digest : SimLg S (fun κ => f_X4_digest κ ) (fun κ => f_X5_digest κ )) (hsp : ∀ t κ, S t κ → κ 1 4 ≤ nI 6) (h_none : ∀ t κ, S t κ → S (t + 1) κ) (hM0 : Mc g p s m ([.ref b] : List Value).toArray meth c cL_law 9 RL) (hend : ∀ (d0 : Drawn) (H : Heap) (locs : List Loc) (ls : Array Slot), s.drawn.sameBut d0 lw_cs → (∀ q ∈ locs, s.heap.size ≤ q.base) → W p l e room_1 (s.setDrawn d0) m ([.ref b] : List Value).toArray below meth c H locs 655566 7129405 Q (F0 m 2217 ls [])) (hX : va_X b L xs s s.heap) (hbl : b < s.heap.size) (hbA : ¬ fr g s.heap.size b) (hfr : ∀ k, k < 99 → s.heap.size ≤ g.2.2 k) (hL2 : L ≤ 1536) : ∀ (n t : Nat), t + n = L / 3 → ∀ (κ : Kp), S t κ → ∀ (d0 : Drawn), s.drawn.sameBut d0 lw_cs → ∀ (H : Heap) (locs : List Loc) (ls : Array Slot), lv_has ls 9 (lwL g b t) → Ws g s κ H locs → W p l e room_1 (s.setDrawn d0) m ([.ref b] : List Value).toArray below meth c H locs (200 + 30 * t) (2000 + 200 * t) Q (F0 m 23 ls []) := by
  intro n
  induction n with
  | zero =>
    intro t ht κ hS d0 hd0 H locs ls hl hw
    have hM := hM0.drawn d0
    have hw : Ws g (s.setDrawn d0) κ H locs := hw
    have hXd : va_X b L xs (s.setDrawn d0) s.heap := hX.moved (Vm.Alike.refl s.vm)
    refine lv_iload hM.x hM.b dL_law_23 (lv_at hl 0 rfl) ?_
    refine lv_aload_n hM.x hM.b dL_law_25 rfl (lv_at hl 4 rfl) ?_
    refine va_slen hM.x hM.b hXd hbl hbA hw.2 dL_law_26 ?_
    refine lv_iconst (v := 3) hM.x hM.b dL_law_27 (by decide) ?_
    refine lv_isub hM.x hM.b dL_law_28 ?_
    refine lv_icmp_gt (tgt := 2217) hM.x hM.b dL_law_29 (by decide) (fun _ => ?_) (fun cz => absurd (law_end (L := L) (t := t) (by omega) (by omega) hL2) cz)
    refine W.widen (k := 655566) (n := 7129405) (by omega) (by omega) (hend d0 H locs ls hd0 (fun q hq => ?_))
    rcases hw.2.2.2 q hq with ⟨k, hk, h⟩ | h
    · rw [h]; exact hfr k hk
    · exact h
  | succ n ih =>
    intro t ht κ hS d0 hd0 H locs ls hl hw
    have hM := hM0.drawn d0
    have hw : Ws g (s.setDrawn d0) κ H locs := hw
    have hXd : va_X b L xs (s.setDrawn d0) s.heap := hX.moved (Vm.Alike.refl s.vm)
    refine lv_iload hM.x hM.b dL_law_23 (lv_at hl 0 rfl) ?_
    refine lv_aload_n hM.x hM.b dL_law_25 rfl (lv_at hl 4 rfl) ?_
    refine va_slen hM.x hM.b hXd hbl hbA hw.2 dL_law_26 ?_
    refine lv_iconst (v := 3) hM.x hM.b dL_law_27 (by decide) ?_
    refine lv_isub hM.x hM.b dL_law_28 ?_
    have hgo : 3 * t + 3 ≤ L := by omega
    refine lv_icmp_gt (tgt := 2217) hM.x hM.b dL_law_29 (by decide) (fun cz => absurd cz (law_go (L := L) (t := t) hgo hL2)) (fun _ => ?_)
    refine lv_aload_n hM.x hM.b dL_law_32 rfl (lv_at hl 4 rfl) ?_
    refine lv_iload hM.x hM.b dL_law_33 (lv_at hl 0 rfl) ?_
    refine k_sld (i := 3 * t) hM hX hbl hbA hw (by omega) hL2 dL_law_35 ?_
    refine lv_bipush (v := 63) hM.x hM.b dL_law_36 (by decide) ?_
    refine lv_iand hM.x hM.b dL_law_38 ?_
    have hnext : ∀ (κ2 : Kp) (d1 : Drawn) (H : Heap) (locs : List Loc) (ls : Array Slot), S (t + 1) κ2 → s.drawn.sameBut d1 lw_cs → lv_has ls 9 (lwL g b t) → Ws g s κ2 H locs → W p l e room_1 (s.setDrawn d1) m ([.ref b] : List Value).toArray below meth c H locs (200 + 30 * t + 30) (2000 + 200 * t + 200) Q (F0 m 2211 ls []) := by
      intro κ2 d1 H locs ls hS hd1 hl hw
      have hM := hM0.drawn d1
      refine lv_iinc (v := nI (3 * (t + 1))) (lv' := lwL g b (t + 1)) hM.x hM.b dL_law_2211 hl (k := 0) rfl (by rw [show 3 * (t + 1) = 3 * t + 3 by omega, ← nI_add]; rfl) (by decide) rfl (fun ls hl => ?_)
      refine lv_goto (tgt := 23) hM.x hM.b dL_law_2214 (by decide) ?_
      refine W.widen (k := 200 + 30 * (t + 1)) (n := 2000 + 200 * (t + 1)) (by omega) (by omega) ?_
      exact ih (t + 1) (by omega) κ2 hS d1 hd1 H locs ls hl hw
    obtain ⟨hv0, hv1⟩ := law_63 (xs (3 * t))
    generalize hvx : xs (3 * t) &&& 63 = vx at hv0 hv1
    by_cases hv : 39 < vx.toInt
    · refine lv_tableOut (tgt := 2211) hM.x hM.b dL_law_39 (Or.inr hv) (by decide) ?_
      exact W.widen (by omega) (by omega) (hnext κ d0 H locs ls (h_none t κ hS) hd0 hl hw)
    · obtain ⟨k, hk⟩ : ∃ k : Nat, vx.toInt = (k : Int) := ⟨vx.toInt.toNat, by omega⟩
      have hk40 : k < 40 := by omega
      match k, hk, hk40 with
      | 0, hk, _ =>
        refine lv_tableIn (tgt := 212) (off := 173) hM.x hM.b dL_law_39 (by rw [hk]; decide) (by rw [hk]; decide) (by rw [hk]; rfl) (by decide) ?_
        exact lc_addFire l hlst g h_addFire hM0 hX hbl hbA hgo hL2 (by omega) (by omega) κ hS d0 hd0 H locs ls hl hw hnext
      | 1, hk, _ =>
        refine lv_tableIn (tgt := 256) (off := 217) hM.x hM.b dL_law_39 (by rw [hk]; decide) (by rw [hk]; decide) (by rw [hk]; rfl) (by decide) ?_
        exact lc_layLogs l hlst g (h_layLogs (xs (3 * t + 1)) (xs (3 * t + 2))) hM0 hX hbl hbA hgo hL2 (by omega) (by omega) κ hS d0 hd0 H locs ls hl hw hnext
      | 2, hk, _ =>
        refine lv_tableIn (tgt := 324) (off := 285) hM.x hM.b dL_law_39 (by rw [hk]; decide) (by rw [hk]; decide) (by rw [hk]; rfl) (by decide) ?_
        exact lc_addSpit l hlst g (h_addSpit (xs (3 * t + 1)) (xs (3 * t + 2))) hM0 hX hbl hbA hgo hL2 (by omega) (by omega) κ hS d0 hd0 H locs ls hl hw hnext
      | 3, hk, _ =>
        refine lv_tableIn (tgt := 392) (off := 353) hM.x hM.b dL_law_39 (by rw [hk]; decide) (by rw [hk]; decide) (by rw [hk]; rfl) (by decide) ?_
        exact lc_moveSpit l hlst g (h_moveSpit (xs (3 * t + 1)) (xs (3 * t + 2))) hM0 hX hbl hbA hgo hL2 (by omega) (by omega) κ hS d0 hd0 H locs ls hl hw hnext
      | 4, hk, _ =>
        refine lv_tableIn (tgt := 460) (off := 421) hM.x hM.b dL_law_39 (by rw [hk]; decide) (by rw [hk]; decide) (by rw [hk]; rfl) (by decide) ?_
        exact lc_turnEach l hlst g (h_turnEach (xs (3 * t + 1)) (xs (3 * t + 2))) hM0 hX hbl hbA hgo hL2 (by omega) (by omega) κ hS d0 hd0 H locs ls hl hw hnext
      | 5, hk, _ =>
        refine lv_tableIn (tgt := 528) (off := 489) hM.x hM.b dL_law_39 (by rw [hk]; decide) (by rw [hk]; decide) (by rw [hk]; rfl) (by decide) ?_
        exact lc_setFeast l hlst g (h_setFeast (xs (3 * t + 1))) hM0 hX hbl hbA hgo hL2 (by omega) (by omega) κ hS d0 hd0 H locs ls hl hw hnext
      | 6, hk, _ =>
        refine lv_tableIn (tgt := 584) (off := 545) hM.x hM.b dL_law_39 (by rw [hk]; decide) (by rw [hk]; decide) (by rw [hk]; rfl) (by decide) ?_
        exact lc_hang l hlst g (h_hang (xs (3 * t + 1)) (xs (3 * t + 2))) hM0 hX hbl hbA hgo hL2 (by omega) (by omega) κ hS d0 hd0 H locs ls hl hw hnext
      | 7, hk, _ =>
        refine lv_tableIn (tgt := 652) (off := 613) hM.x hM.b dL_law_39 (by rw [hk]; decide) (by rw [hk]; decide) (by rw [hk]; rfl) (by decide) ?_
        exact lc_turnNow l hlst g (h_turnNow (xs (3 * t + 1))) hM0 hX hbl hbA hgo hL2 (by omega) (by omega) κ hS d0 hd0 H locs ls hl hw hnext
      | 8, hk, _ =>
        refine lv_tableIn (tgt := 708) (off := 669) hM.x hM.b dL_law_39 (by rw [hk]; decide) (by rw [hk]; decide) (by rw [hk]; rfl) (by decide) ?_
        exact lc_baste l hlst g (h_baste (xs (3 * t + 1))) hM0 hX hbl hbA hgo hL2 (by omega) (by omega) κ hS d0 hd0 H locs ls hl hw hnext
      | 9, hk, _ =>
        refine lv_tableIn (tgt := 764) (off := 725) hM.x hM.b dL_law_39 (by rw [hk]; decide) (by rw [hk]; decide) (by rw [hk]; rfl) (by decide) ?_
        exact lc_takeDown l hlst g (h_takeDown (xs (3 * t + 1))) hM0 hX hbl hbA hgo hL2 (by omega) (by omega) κ hS d0 hd0 H locs ls hl hw hnext
      | 10, hk, _ =>
        refine lv_tableIn (tgt := 820) (off := 781) hM.x hM.b dL_law_39 (by rw [hk]; decide) (by rw [hk]; decide) (by rw [hk]; rfl) (by decide) ?_
        exact lc_emptyPan l hlst g (h_emptyPan (xs (3 * t + 1))) hM0 hX hbl hbA hgo hL2 (by omega) (by omega) κ hS d0 hd0 H locs ls hl hw hnext
      | 11, hk, _ =>
        refine lv_tableIn (tgt := 876) (off := 837) hM.x hM.b dL_law_39 (by rw [hk]; decide) (by rw [hk]; decide) (by rw [hk]; rfl) (by decide) ?_
        exact lc_pass l hlst g (h_pass (xs (3 * t + 1))) hM0 hX hbl hbA hgo hL2 (by omega) (by omega) κ hS d0 hd0 H locs ls hl hw hnext
      | 12, hk, _ =>
        refine lv_tableIn (tgt := 932) (off := 893) hM.x hM.b dL_law_39 (by rw [hk]; decide) (by rw [hk]; decide) (by rw [hk]; rfl) (by decide) ?_
        exact lc_minute l hlst g h_minute hM0 hX hbl hbA hgo hL2 (by omega) (by omega) κ hS d0 hd0 H locs ls hl hw hnext
      | 13, hk, _ =>
        refine lv_tableIn (tgt := 945) (off := 906) hM.x hM.b dL_law_39 (by rw [hk]; decide) (by rw [hk]; decide) (by rw [hk]; rfl) (by decide) ?_
        exact lc_feast l hlst g h_feast hM0 hX hbl hbA hgo hL2 (by omega) (by omega) κ hS d0 hd0 H locs ls hl hw hnext
      | 14, hk, _ =>
        refine lv_tableIn (tgt := 958) (off := 919) hM.x hM.b dL_law_39 (by rw [hk]; decide) (by rw [hk]; decide) (by rw [hk]; rfl) (by decide) ?_
        exact lc_fires l hlst g h_fires hM0 hX hbl hbA hgo hL2 (by omega) (by omega) κ hS d0 hd0 H locs ls hl hw hnext
      | 15, hk, _ =>
        refine lv_tableIn (tgt := 971) (off := 932) hM.x hM.b dL_law_39 (by rw [hk]; decide) (by rw [hk]; decide) (by rw [hk]; rfl) (by decide) ?_
        exact lc_logsOf l hlst g (h_logsOf (xs (3 * t + 1))) hM0 hX hbl hbA hgo hL2 (by omega) (by omega) κ hS d0 hd0 H locs ls hl hw hnext
      | 16, hk, _ =>
        refine lv_tableIn (tgt := 1027) (off := 988) hM.x hM.b dL_law_39 (by rw [hk]; decide) (by rw [hk]; decide) (by rw [hk]; rfl) (by decide) ?_
        exact lc_heatOf l hlst g (h_heatOf (xs (3 * t + 1))) hM0 hX hbl hbA hgo hL2 (by omega) (by omega) κ hS d0 hd0 H locs ls hl hw hnext
      | 17, hk, _ =>
        refine lv_tableIn (tgt := 1083) (off := 1044) hM.x hM.b dL_law_39 (by rw [hk]; decide) (by rw [hk]; decide) (by rw [hk]; rfl) (by decide) ?_
        exact lc_spits l hlst g h_spits hM0 hX hbl hbA hgo hL2 (by omega) (by omega) κ hS d0 hd0 H locs ls hl hw hnext
      | 18, hk, _ =>
        refine lv_tableIn (tgt := 1096) (off := 1057) hM.x hM.b dL_law_39 (by rw [hk]; decide) (by rw [hk]; decide) (by rw [hk]; rfl) (by decide) ?_
        exact lc_fireOf l hlst g (h_fireOf (xs (3 * t + 1))) hM0 hX hbl hbA hgo hL2 (by omega) (by omega) κ hS d0 hd0 H locs ls hl hw hnext
      | 19, hk, _ =>
        refine lv_tableIn (tgt := 1152) (off := 1113) hM.x hM.b dL_law_39 (by rw [hk]; decide) (by rw [hk]; decide) (by rw [hk]; rfl) (by decide) ?_
        exact lc_feetOf l hlst g (h_feetOf (xs (3 * t + 1))) hM0 hX hbl hbA hgo hL2 (by omega) (by omega) κ hS d0 hd0 H locs ls hl hw hnext
      | 20, hk, _ =>
        refine lv_tableIn (tgt := 1208) (off := 1169) hM.x hM.b dL_law_39 (by rw [hk]; decide) (by rw [hk]; decide) (by rw [hk]; rfl) (by decide) ?_
        exact lc_glowAt l hlst g (h_glowAt (xs (3 * t + 1))) hM0 hX hbl hbA hgo hL2 (by omega) (by omega) κ hS d0 hd0 H locs ls hl hw hnext
      | 21, hk, _ =>
        refine lv_tableIn (tgt := 1264) (off := 1225) hM.x hM.b dL_law_39 (by rw [hk]; decide) (by rw [hk]; decide) (by rw [hk]; rfl) (by decide) ?_
        exact lc_turnedEach l hlst g (h_turnedEach (xs (3 * t + 1))) hM0 hX hbl hbA hgo hL2 (by omega) (by omega) κ hS d0 hd0 H locs ls hl hw hnext
      | 22, hk, _ =>
        refine lv_tableIn (tgt := 1320) (off := 1281) hM.x hM.b dL_law_39 (by rw [hk]; decide) (by rw [hk]; decide) (by rw [hk]; rfl) (by decide) ?_
        exact lc_drippingsOf l hlst g (h_drippingsOf (xs (3 * t + 1))) hM0 hX hbl hbA hgo hL2 (by omega) (by omega) κ hS d0 hd0 H locs ls hl hw hnext
      | 23, hk, _ =>
        refine lv_tableIn (tgt := 1376) (off := 1337) hM.x hM.b dL_law_39 (by rw [hk]; decide) (by rw [hk]; decide) (by rw [hk]; rfl) (by decide) ?_
        exact lc_roastOn l hlst g (h_roastOn (xs (3 * t + 1))) hM0 hX hbl hbA hgo hL2 (by omega) (by omega) κ hS d0 hd0 H locs ls hl hw hnext
      | 24, hk, _ =>
        refine lv_tableIn (tgt := 1432) (off := 1393) hM.x hM.b dL_law_39 (by rw [hk]; decide) (by rw [hk]; decide) (by rw [hk]; rfl) (by decide) ?_
        exact lc_roasts l hlst g h_roasts hM0 hX hbl hbA hgo hL2 (by omega) (by omega) κ hS d0 hd0 H locs ls hl hw hnext
      | 25, hk, _ =>
        refine lv_tableIn (tgt := 1445) (off := 1406) hM.x hM.b dL_law_39 (by rw [hk]; decide) (by rw [hk]; decide) (by rw [hk]; rfl) (by decide) ?_
        exact lc_poundsOf l hlst g (h_poundsOf (xs (3 * t + 1))) hM0 hX hbl hbA hgo hL2 (by omega) (by omega) κ hS d0 hd0 H locs ls hl hw hnext
      | 26, hk, _ =>
        refine lv_tableIn (tgt := 1501) (off := 1462) hM.x hM.b dL_law_39 (by rw [hk]; decide) (by rw [hk]; decide) (by rw [hk]; rfl) (by decide) ?_
        exact lc_spitOf l hlst g (h_spitOf (xs (3 * t + 1))) hM0 hX hbl hbA hgo hL2 (by omega) (by omega) κ hS d0 hd0 H locs ls hl hw hnext
      | 27, hk, _ =>
        refine lv_tableIn (tgt := 1557) (off := 1518) hM.x hM.b dL_law_39 (by rw [hk]; decide) (by rw [hk]; decide) (by rw [hk]; rfl) (by decide) ?_
        exact lc_sideToFire l hlst g (h_sideToFire (xs (3 * t + 1))) hM0 hX hbl hbA hgo hL2 (by omega) (by omega) κ hS d0 hd0 H locs ls hl hw hnext
      | 28, hk, _ =>
        refine lv_tableIn (tgt := 1613) (off := 1574) hM.x hM.b dL_law_39 (by rw [hk]; decide) (by rw [hk]; decide) (by rw [hk]; rfl) (by decide) ?_
        exact lc_brownOf l hlst g (h_brownOf (xs (3 * t + 1)) (xs (3 * t + 2))) hM0 hX hbl hbA hgo hL2 (by omega) (by omega) κ hS d0 hd0 H locs ls hl hw hnext
      | 29, hk, _ =>
        refine lv_tableIn (tgt := 1681) (off := 1642) hM.x hM.b dL_law_39 (by rw [hk]; decide) (by rw [hk]; decide) (by rw [hk]; rfl) (by decide) ?_
        exact lc_fatOf l hlst g (h_fatOf (xs (3 * t + 1))) hM0 hX hbl hbA hgo hL2 (by omega) (by omega) κ hS d0 hd0 H locs ls hl hw hnext
      | 30, hk, _ =>
        refine lv_tableIn (tgt := 1737) (off := 1698) hM.x hM.b dL_law_39 (by rw [hk]; decide) (by rw [hk]; decide) (by rw [hk]; rfl) (by decide) ?_
        exact lc_wetFor l hlst g (h_wetFor (xs (3 * t + 1))) hM0 hX hbl hbA hgo hL2 (by omega) (by omega) κ hS d0 hd0 H locs ls hl hw hnext
      | 31, hk, _ =>
        refine lv_tableIn (tgt := 1793) (off := 1754) hM.x hM.b dL_law_39 (by rw [hk]; decide) (by rw [hk]; decide) (by rw [hk]; rfl) (by decide) ?_
        exact lc_isDone l hlst g (h_isDone (xs (3 * t + 1))) hM0 hX hbl hbA hgo hL2 (by omega) (by omega) κ hS d0 hd0 H locs ls hl hw hnext
      | 32, hk, _ =>
        refine lv_tableIn (tgt := 1856) (off := 1817) hM.x hM.b dL_law_39 (by rw [hk]; decide) (by rw [hk]; decide) (by rw [hk]; rfl) (by decide) ?_
        exact lc_isBurnt l hlst g (h_isBurnt (xs (3 * t + 1))) hM0 hX hbl hbA hgo hL2 (by omega) (by omega) κ hS d0 hd0 H locs ls hl hw hnext
      | 33, hk, _ =>
        refine lv_tableIn (tgt := 1919) (off := 1880) hM.x hM.b dL_law_39 (by rw [hk]; decide) (by rw [hk]; decide) (by rw [hk]; rfl) (by decide) ?_
        exact lc_minutesUntilDone l hlst g (h_minutesUntilDone (xs (3 * t + 1))) hM0 hX hbl hbA hgo hL2 (by omega) (by omega) κ hS d0 hd0 H locs ls hl hw hnext
      | 34, hk, _ =>
        refine lv_tableIn (tgt := 1975) (off := 1936) hM.x hM.b dL_law_39 (by rw [hk]; decide) (by rw [hk]; decide) (by rw [hk]; rfl) (by decide) ?_
        exact lc_minutesUntilBurnt l hlst g (h_minutesUntilBurnt (xs (3 * t + 1))) hM0 hX hbl hbA hgo hL2 (by omega) (by omega) κ hS d0 hd0 H locs ls hl hw hnext
      | 35, hk, _ =>
        refine lv_tableIn (tgt := 2031) (off := 1992) hM.x hM.b dL_law_39 (by rw [hk]; decide) (by rw [hk]; decide) (by rw [hk]; rfl) (by decide) ?_
        exact lc_doneAtFeast l hlst g h_doneAtFeast hM0 hX hbl hbA hgo hL2 (by omega) (by omega) κ hS d0 hd0 H locs ls hl hw hnext
      | 36, hk, _ =>
        refine lv_tableIn (tgt := 2044) (off := 2005) hM.x hM.b dL_law_39 (by rw [hk]; decide) (by rw [hk]; decide) (by rw [hk]; rfl) (by decide) ?_
        exact lc_bestEach l hlst g (h_bestEach (xs (3 * t + 1))) hM0 hX hbl hbA hgo hL2 (by omega) (by omega) κ hS d0 hd0 H locs ls hl hw hnext
      | 37, hk, _ =>
        refine lv_tableIn (tgt := 2100) (off := 2061) hM.x hM.b dL_law_39 (by rw [hk]; decide) (by rw [hk]; decide) (by rw [hk]; rfl) (by decide) ?_
        exact lc_bestSpit l hlst g (h_bestSpit (xs (3 * t + 1))) hsp hM0 hX hbl hbA hgo hL2 (by omega) (by omega) κ hS d0 hd0 H locs ls hl hw hnext
      | 38, hk, _ =>
        refine lv_tableIn (tgt := 2156) (off := 2117) hM.x hM.b dL_law_39 (by rw [hk]; decide) (by rw [hk]; decide) (by rw [hk]; rfl) (by decide) ?_
        exact lc_meanBrown l hlst g h_meanBrown hM0 hX hbl hbA hgo hL2 (by omega) (by omega) κ hS d0 hd0 H locs ls hl hw hnext
      | 39, hk, _ =>
        refine lv_tableIn (tgt := 2197) (off := 2158) hM.x hM.b dL_law_39 (by rw [hk]; decide) (by rw [hk]; decide) (by rw [hk]; rfl) (by decide) ?_
        exact lc_digest l hlst g h_digest hM0 hX hbl hbA hgo hL2 (by omega) (by omega) κ hS d0 hd0 H locs ls hl hw hnext
      | k + 40, _, h => exact absurd h (by omega)
