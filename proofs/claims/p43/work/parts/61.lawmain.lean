set_option maxRecDepth 100000 in
set_option maxHeartbeats 4000000 in
theorem law_main {p : Program} {e : Env} {s : State} {m : MethodId} {args : Array Value} {below : List Frame} {meth : Method} {c : Code} {Q : State → Prop} {A : Nat → Prop} {D : va_G} {cA : Nat → ClassId} {b k1 n1 : Nat} (l : Launch) (hlst : l.stackTraces = false) (hM : Ma A D cA p s m args meth c cL_law 27 RL) (hk1 : k1 ≤ 600000) (hn1 : n1 ≤ 4000000) {Ls : Nat} {xs : Nat → Int32} (hLs : Ls ≤ 260) (hX : va_X b Ls xs s s.heap) (hbl : b < s.heap.size) (hbA : ¬ A b) {ad0 : Nat → Nat} : ∀ (n t : Nat), t + n = 30 → ∀ (L : List Nat) (ad : Nat → Nat) (κ : Kp) (nf ns nr : Nat), Lm L ad nf ns nr [] → RR nf ns nr κ → (∀ k, k < 92 → ad k = ad0 k) → ∀ (H : Heap) (locs : List Loc) (ls : Array Slot), lv_has ls 27 [(3, .int (nI t)), (0, .ref b), (1, .ref (ad0 0)), (2, .ref (ad0 91))] → Wa A D cA L ad s κ H locs → (∀ (L : List Nat) (ad : Nat → Nat) (κ : Kp) (nf ns nr : Nat) (H : Heap) (locs : List Loc) (ls : Array Slot), Lm L ad nf ns nr [] → RR nf ns nr κ → (∀ k, k < 92 → ad k = ad0 k) → lv_has ls 27 [(0, .ref b), (1, .ref (ad0 0)), (2, .ref (ad0 91))] → Wa A D cA L ad s κ H locs → W p l e room_1 s m args below meth c H locs (k1 + 800 * 30) (n1 + 4500 * 30) Q (F0 m 1041 ls [])) → W p l e room_1 s m args below meth c H locs (k1 + 800 * t) (n1 + 4500 * t) Q (F0 m 22 ls []) := by
  intro n
  induction n with
  | zero =>
    intro t ht L ad κ nf ns nr hL hR had H locs ls hl hw kk
    obtain rfl : t = 30 := by omega
    refine lv_iload_n hM.x hM.b dL_law_22 rfl (lv_at hl 0 rfl) ?_
    refine lv_bipush (v := nI 30) hM.x hM.b dL_law_23 (by decide) ?_
    refine lv_icmp_ge (tgt := 1041) hM.x hM.b dL_law_25 (by decide) (fun _ => ?_) (fun cz => absurd (by decide) cz)
    exact kk L ad κ nf ns nr H locs ls hL hR had (lv_sub hl [1, 2, 3] rfl) hw
  | succ n ih =>
    intro t ht L ad κ nf ns nr hL hR had H locs ls hl hw kk
    refine lv_iload_n hM.x hM.b dL_law_22 rfl (lv_at hl 0 rfl) ?_
    refine lv_bipush (v := nI 30) hM.x hM.b dL_law_23 (by decide) ?_
    refine lv_icmp_ge (tgt := 1041) hM.x hM.b dL_law_25 (by decide) (fun cz => absurd cz (nI_ge (by omega) (by omega))) (fun _ => ?_)
    refine law_round l hlst hM (k1 := k1 + 800 * t) (n1 := n1 + 4500 * t) (by omega) (by omega) hLs hX hbl hbA (by omega) hL hR had H locs ls hl hw (fun L2 ad2 κ2 nf2 ns2 nr2 H locs ls hL2 hR2 had2 hl hw => ?_)
    refine lv_iinc (v := nI (t + 1)) (lv' := [(3, .int (nI (t + 1))), (0, .ref b), (1, .ref (ad0 0)), (2, .ref (ad0 91))]) hM.x hM.b dL_law_1035 hl (k := 0) rfl (nI_up t) (by decide) rfl (fun ls hl => ?_)
    refine lv_goto (tgt := 22) hM.x hM.b dL_law_1038 (by decide) ?_
    refine W.widen (k := k1 + 800 * (t + 1)) (n := n1 + 4500 * (t + 1)) (by omega) (by omega) ?_
    exact ih (t + 1) (by omega) L2 ad2 κ2 nf2 ns2 nr2 hL2 hR2 had2 H locs ls hl hw kk
