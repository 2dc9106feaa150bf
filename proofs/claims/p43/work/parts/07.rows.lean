section KR
variable {p : Program} {l : Launch} {e : Env} {R : Room} {s : State} {m : MethodId} {args : Array Value} {below : List Frame} {meth : Method} {c : Code} {H : Heap} {locs : List Loc} {cells slots : Nat} {Q : State → Prop}
variable {cc : ByteArray} {pc nL : Nat} {ls : Array Slot} {rest : List Value} {A : Nat → Prop} {D : va_G} {cA : Nat → ClassId} {L : List Nat} {ad : Nat → Nat} {κ : Kp} {own : String}
/-- a number field of a cell -/
theorem k_get {ci idx : Nat} {C : String} {T : u_T} {N k : Nat} {fs : List Value} {v : Value} (hM : Ma A D cA p s m args meth c cc nL own) (hw : Wa A D cA L ad s κ H locs) (hk : k ∈ L) (hsh : sh cA ad k (κ k) = .inr (ci, fs)) (hc : vwCl[ci]? = some (C, T, N)) (hin : ∀ w ∈ u_ws C T N, w ∈ uW) (j : Nat) (hj : j < N)
    (hlink : Cond.fieldLink own idx (T j).1 (T j).2.1 (T j).2.2.1 ∈ uW) (hv : fs[j]? = some v) (hdg : decode cc pc = .ok (.getfield idx, 3))
    (kk : W p l e R s m args below meth c H locs cells slots Q (F0 m (pc + 3) ls (v :: rest))) : W p l e R s m args below meth c H locs cells slots Q (F0 m pc ls (.ref (ad k) :: rest)) :=
  va_get hM.x hM.b hM.ts hin hM.ow hM.K hw.1 (L.idxOf k) (by rw [wl_get hk, hsh]) hc j hj (hM.ts _ hlink) (fun _ h => h) hv hdg kk
theorem k_put {ci idx : Nat} {C : String} {T : u_T} {N k : Nat} {fs : List Value} {x : Int32} (hM : Ma A D cA p s m args meth c cc nL own) (hw : Wa A D cA L ad s κ H locs) (hk : k ∈ L) (hsh : sh cA ad k (κ k) = .inr (ci, fs)) (hc : vwCl[ci]? = some (C, T, N)) (hin : ∀ w ∈ u_ws C T N, w ∈ uW) (ty0 : Nat → FieldType) (hty : ∀ k, k < N → parseFieldDescriptor (T k).2.2.1 = some (ty0 k)) (hnm : ∀ a, a < N → ∀ b, b < N → a ≠ b → (T a).2.1 ≠ (T b).2.1) (j : Nat) (hj : j < N)
    (hlink : Cond.fieldLink own idx (T j).1 (T j).2.1 (T j).2.2.1 ∈ uW) (hfin : (T j).2.2.2 = false) (hd : parseFieldDescriptor (T j).2.2.1 = some .int) (hl : j < fs.length) (hset : sh cA ad k (va_up (κ k) j x) = .inr (ci, fs.set j (.int x))) (hdg : decode cc pc = .ok (.putfield idx, 3))
    (kk : ∀ (H1 : Heap) (locs1 : List Loc), Wa A D cA L ad s (up2 κ k j x) H1 locs1 → W p l e R s m args below meth c H1 locs1 cells slots Q (F0 m (pc + 3) ls rest)) : W p l e R s m args below meth c H locs cells slots Q (F0 m pc ls (.int x :: .ref (ad k) :: rest)) := by
  refine va_put hM.x hM.b hM.ts hin ty0 hty hnm hM.ow hM.K hw.1 hw.dd hw.2.1 (L.idxOf k) (by rw [wl_get hk, hsh]) hc j hj (hM.ts _ hlink) (fun _ h => h) hfin hd rfl rfl hl hdg (fun H1 locs1 hP hD hS => kk H1 locs1 ⟨?_, hS, hw.2.2⟩)
  rw [← hset, wl_set _ hw.2.2.1.1 hk] at hP
  exact hP
end KR
theorem inW0 : ∀ w ∈ u_ws RX0 TX0 3, w ∈ uW := fun w h => List.mem_filter.mpr ⟨(by decide +kernel : ∀ w ∈ u_ws RX0 TX0 3, w ∈ lw_tbl) w h, (by decide +kernel : ∀ w ∈ u_ws RX0 TX0 3, goodWord w = true) w h⟩
theorem inW1 : ∀ w ∈ u_ws RX1 TX1 8, w ∈ uW := fun w h => List.mem_filter.mpr ⟨(by decide +kernel : ∀ w ∈ u_ws RX1 TX1 8, w ∈ lw_tbl) w h, (by decide +kernel : ∀ w ∈ u_ws RX1 TX1 8, goodWord w = true) w h⟩
theorem inW2 : ∀ w ∈ u_ws RX2 TX2 6, w ∈ uW := fun w h => List.mem_filter.mpr ⟨(by decide +kernel : ∀ w ∈ u_ws RX2 TX2 6, w ∈ lw_tbl) w h, (by decide +kernel : ∀ w ∈ u_ws RX2 TX2 6, goodWord w = true) w h⟩
theorem inW3 : ∀ w ∈ u_ws RX3 TX3 6, w ∈ uW := fun w h => List.mem_filter.mpr ⟨(by decide +kernel : ∀ w ∈ u_ws RX3 TX3 6, w ∈ lw_tbl) w h, (by decide +kernel : ∀ w ∈ u_ws RX3 TX3 6, goodWord w = true) w h⟩
theorem inW4 : ∀ w ∈ u_ws RX4 TX4 2, w ∈ uW := fun w h => List.mem_filter.mpr ⟨(by decide +kernel : ∀ w ∈ u_ws RX4 TX4 2, w ∈ lw_tbl) w h, (by decide +kernel : ∀ w ∈ u_ws RX4 TX4 2, goodWord w = true) w h⟩
theorem inW5 : ∀ w ∈ u_ws RX5 TX5 7, w ∈ uW := fun w h => List.mem_filter.mpr ⟨(by decide +kernel : ∀ w ∈ u_ws RX5 TX5 7, w ∈ lw_tbl) w h, (by decide +kernel : ∀ w ∈ u_ws RX5 TX5 7, goodWord w = true) w h⟩
theorem inW6 : ∀ w ∈ u_ws RX6 TX6 5, w ∈ uW := fun w h => List.mem_filter.mpr ⟨(by decide +kernel : ∀ w ∈ u_ws RX6 TX6 5, w ∈ lw_tbl) w h, (by decide +kernel : ∀ w ∈ u_ws RX6 TX6 5, goodWord w = true) w h⟩
section KR2
variable {p : Program} {l : Launch} {e : Env} {R : Room} {s : State} {m : MethodId} {args : Array Value} {below : List Frame} {meth : Method} {c : Code} {H : Heap} {locs : List Loc} {cells slots : Nat} {Q : State → Prop}
variable {cc : ByteArray} {pc nL : Nat} {ls : Array Slot} {rest : List Value} {A : Nat → Prop} {D : va_G} {cA : Nat → ClassId} {L : List Nat} {ad : Nat → Nat} {κ : Kp} {own : String} {idx k : Nat}
-- Fire
theorem k_get0 (j : Nat) (hM : Ma A D cA p s m args meth c cc nL own) (hw : Wa A D cA L ad s κ H locs) (h : kd k = 0) (hj : j < 3) (hlink : Cond.fieldLink own idx (TX0 j).1 (TX0 j).2.1 (TX0 j).2.2.1 ∈ uW) (hdg : decode cc pc = .ok (.getfield idx, 3))
    (kk : W p l e R s m args below meth c H locs cells slots Q (F0 m (pc + 3) ls (.int (κ k j) :: rest))) : W p l e R s m args below meth c H locs cells slots Q (F0 m pc ls (.ref (ad k) :: rest)) :=
  k_get (C := RX0) (T := TX0) (N := 3) hM hw (hw.dm h (by decide)) (sh0 h) rfl inW0 j hj hlink (by match j, hj with | 0, _ => rfl | 1, _ => rfl | 2, _ => rfl) hdg kk
theorem k_put0 (j : Nat) {x : Int32} (hM : Ma A D cA p s m args meth c cc nL own) (hw : Wa A D cA L ad s κ H locs) (h : kd k = 0) (hj : j < 3) (hlink : Cond.fieldLink own idx (TX0 j).1 (TX0 j).2.1 (TX0 j).2.2.1 ∈ uW) (hdg : decode cc pc = .ok (.putfield idx, 3))
    (kk : ∀ (H1 : Heap) (locs1 : List Loc), Wa A D cA L ad s (up2 κ k j x) H1 locs1 → W p l e R s m args below meth c H1 locs1 cells slots Q (F0 m (pc + 3) ls rest)) : W p l e R s m args below meth c H locs cells slots Q (F0 m pc ls (.int x :: .ref (ad k) :: rest)) :=
  k_put (C := RX0) (T := TX0) (N := 3) hM hw (hw.dm h (by decide)) (sh0 h) rfl inW0 tyX0 tyX0_ok nmX0 j hj hlink (by match j, hj with | 0, _ => rfl | 1, _ => rfl | 2, _ => rfl) (by match j, hj with | 0, _ => exact tyX0_ok 0 (by decide) | 1, _ => exact tyX0_ok 1 (by decide) | 2, _ => exact tyX0_ok 2 (by decide)) hj (by rw [sh0 h]; match j, hj with | 0, _ => rfl | 1, _ => rfl | 2, _ => rfl) hdg kk
-- Spit
theorem k_get3 (j : Nat) (hM : Ma A D cA p s m args meth c cc nL own) (hw : Wa A D cA L ad s κ H locs) (h : kd k = 3) (hj : j < 6) (hlink : Cond.fieldLink own idx (TX3 j).1 (TX3 j).2.1 (TX3 j).2.2.1 ∈ uW) (hdg : decode cc pc = .ok (.getfield idx, 3))
    (kk : W p l e R s m args below meth c H locs cells slots Q (F0 m (pc + 3) ls (.int (κ k j) :: rest))) : W p l e R s m args below meth c H locs cells slots Q (F0 m pc ls (.ref (ad k) :: rest)) :=
  k_get (C := RX3) (T := TX3) (N := 6) hM hw (hw.dm h (by decide)) (sh3 h) rfl inW3 j hj hlink (by match j, hj with | 0, _ => rfl | 1, _ => rfl | 2, _ => rfl | 3, _ => rfl | 4, _ => rfl | 5, _ => rfl) hdg kk
theorem k_put3 (j : Nat) {x : Int32} (hM : Ma A D cA p s m args meth c cc nL own) (hw : Wa A D cA L ad s κ H locs) (h : kd k = 3) (hj : j < 6) (hlink : Cond.fieldLink own idx (TX3 j).1 (TX3 j).2.1 (TX3 j).2.2.1 ∈ uW) (hdg : decode cc pc = .ok (.putfield idx, 3))
    (kk : ∀ (H1 : Heap) (locs1 : List Loc), Wa A D cA L ad s (up2 κ k j x) H1 locs1 → W p l e R s m args below meth c H1 locs1 cells slots Q (F0 m (pc + 3) ls rest)) : W p l e R s m args below meth c H locs cells slots Q (F0 m pc ls (.int x :: .ref (ad k) :: rest)) :=
  k_put (C := RX3) (T := TX3) (N := 6) hM hw (hw.dm h (by decide)) (sh3 h) rfl inW3 tyX3 tyX3_ok nmX3 j hj hlink (by match j, hj with | 0, _ => rfl | 1, _ => rfl | 2, _ => rfl | 3, _ => rfl | 4, _ => rfl | 5, _ => rfl) (by match j, hj with | 0, _ => exact tyX3_ok 0 (by decide) | 1, _ => exact tyX3_ok 1 (by decide) | 2, _ => exact tyX3_ok 2 (by decide) | 3, _ => exact tyX3_ok 3 (by decide) | 4, _ => exact tyX3_ok 4 (by decide) | 5, _ => exact tyX3_ok 5 (by decide)) hj (by rw [sh3 h]; match j, hj with | 0, _ => rfl | 1, _ => rfl | 2, _ => rfl | 3, _ => rfl | 4, _ => rfl | 5, _ => rfl) hdg kk
-- Roast: field 0 is its row
theorem k_get2 (j : Nat) (hM : Ma A D cA p s m args meth c cc nL own) (hw : Wa A D cA L ad s κ H locs) (h : kd k = 2) (hj : 0 < j ∧ j < 6) (hlink : Cond.fieldLink own idx (TX2 j).1 (TX2 j).2.1 (TX2 j).2.2.1 ∈ uW) (hdg : decode cc pc = .ok (.getfield idx, 3))
    (kk : W p l e R s m args below meth c H locs cells slots Q (F0 m (pc + 3) ls (.int (κ k j) :: rest))) : W p l e R s m args below meth c H locs cells slots Q (F0 m pc ls (.ref (ad k) :: rest)) :=
  k_get (C := RX2) (T := TX2) (N := 6) hM hw (hw.dm h (by decide)) (sh2 h) rfl inW2 j hj.2 hlink (by match j, hj with | 1, _ => rfl | 2, _ => rfl | 3, _ => rfl | 4, _ => rfl | 5, _ => rfl) hdg kk
theorem k_get2r (hM : Ma A D cA p s m args meth c cc nL own) (hw : Wa A D cA L ad s κ H locs) (h : kd k = 2) (hlink : Cond.fieldLink own idx (TX2 0).1 (TX2 0).2.1 (TX2 0).2.2.1 ∈ uW) (hdg : decode cc pc = .ok (.getfield idx, 3))
    (kk : W p l e R s m args below meth c H locs cells slots Q (F0 m (pc + 3) ls (.ref (ad (k + 1)) :: rest))) : W p l e R s m args below meth c H locs cells slots Q (F0 m pc ls (.ref (ad k) :: rest)) :=
  k_get (C := RX2) (T := TX2) (N := 6) hM hw (hw.dm h (by decide)) (sh2 h) rfl inW2 0 (by decide) hlink rfl hdg kk
theorem k_put2 (j : Nat) {x : Int32} (hM : Ma A D cA p s m args meth c cc nL own) (hw : Wa A D cA L ad s κ H locs) (h : kd k = 2) (hj : 0 < j ∧ j < 6) (hlink : Cond.fieldLink own idx (TX2 j).1 (TX2 j).2.1 (TX2 j).2.2.1 ∈ uW) (hdg : decode cc pc = .ok (.putfield idx, 3))
    (kk : ∀ (H1 : Heap) (locs1 : List Loc), Wa A D cA L ad s (up2 κ k j x) H1 locs1 → W p l e R s m args below meth c H1 locs1 cells slots Q (F0 m (pc + 3) ls rest)) : W p l e R s m args below meth c H locs cells slots Q (F0 m pc ls (.int x :: .ref (ad k) :: rest)) :=
  k_put (C := RX2) (T := TX2) (N := 6) hM hw (hw.dm h (by decide)) (sh2 h) rfl inW2 tyX2 tyX2_ok nmX2 j hj.2 hlink (by match j, hj with | 1, _ => rfl | 2, _ => rfl | 3, _ => rfl | 4, _ => rfl | 5, _ => rfl) (by match j, hj with | 1, _ => exact tyX2_ok 1 (by decide) | 2, _ => exact tyX2_ok 2 (by decide) | 3, _ => exact tyX2_ok 3 (by decide) | 4, _ => exact tyX2_ok 4 (by decide) | 5, _ => exact tyX2_ok 5 (by decide)) hj.2 (by rw [sh2 h]; match j, hj with | 1, _ => rfl | 2, _ => rfl | 3, _ => rfl | 4, _ => rfl | 5, _ => rfl) hdg kk
-- Kitchen: fields 0, 1, 2 are its rows
theorem k_get1 (j : Nat) (hM : Ma A D cA p s m args meth c cc nL own) (hw : Wa A D cA L ad s κ H locs) (h : kd k = 1) (hj : 2 < j ∧ j < 8) (hlink : Cond.fieldLink own idx (TX1 j).1 (TX1 j).2.1 (TX1 j).2.2.1 ∈ uW) (hdg : decode cc pc = .ok (.getfield idx, 3))
    (kk : W p l e R s m args below meth c H locs cells slots Q (F0 m (pc + 3) ls (.int (κ k j) :: rest))) : W p l e R s m args below meth c H locs cells slots Q (F0 m pc ls (.ref (ad k) :: rest)) :=
  k_get (C := RX1) (T := TX1) (N := 8) hM hw (hw.dm h (by decide)) (sh1 h) rfl inW1 j hj.2 hlink (by match j, hj with | 3, _ => rfl | 4, _ => rfl | 5, _ => rfl | 6, _ => rfl | 7, _ => rfl) hdg kk
theorem k_get1r (j : Nat) (hM : Ma A D cA p s m args meth c cc nL own) (hw : Wa A D cA L ad s κ H locs) (h : kd k = 1) (hj : j < 3) (hlink : Cond.fieldLink own idx (TX1 j).1 (TX1 j).2.1 (TX1 j).2.2.1 ∈ uW) (hdg : decode cc pc = .ok (.getfield idx, 3))
    (kk : W p l e R s m args below meth c H locs cells slots Q (F0 m (pc + 3) ls (.ref (ad (k + (j + 1))) :: rest))) : W p l e R s m args below meth c H locs cells slots Q (F0 m pc ls (.ref (ad k) :: rest)) :=
  k_get (C := RX1) (T := TX1) (N := 8) hM hw (hw.dm h (by decide)) (sh1 h) rfl inW1 j (by omega) hlink (by match j, hj with | 0, _ => rfl | 1, _ => rfl | 2, _ => rfl) hdg kk
theorem k_put1 (j : Nat) {x : Int32} (hM : Ma A D cA p s m args meth c cc nL own) (hw : Wa A D cA L ad s κ H locs) (h : kd k = 1) (hj : 2 < j ∧ j < 8) (hlink : Cond.fieldLink own idx (TX1 j).1 (TX1 j).2.1 (TX1 j).2.2.1 ∈ uW) (hdg : decode cc pc = .ok (.putfield idx, 3))
    (kk : ∀ (H1 : Heap) (locs1 : List Loc), Wa A D cA L ad s (up2 κ k j x) H1 locs1 → W p l e R s m args below meth c H1 locs1 cells slots Q (F0 m (pc + 3) ls rest)) : W p l e R s m args below meth c H locs cells slots Q (F0 m pc ls (.int x :: .ref (ad k) :: rest)) :=
  k_put (C := RX1) (T := TX1) (N := 8) hM hw (hw.dm h (by decide)) (sh1 h) rfl inW1 tyX1 tyX1_ok nmX1 j hj.2 hlink (by match j, hj with | 3, _ => rfl | 4, _ => rfl | 5, _ => rfl | 6, _ => rfl | 7, _ => rfl) (by match j, hj with | 3, _ => exact tyX1_ok 3 (by decide) | 4, _ => exact tyX1_ok 4 (by decide) | 5, _ => exact tyX1_ok 5 (by decide) | 6, _ => exact tyX1_ok 6 (by decide) | 7, _ => exact tyX1_ok 7 (by decide)) hj.2 (by rw [sh1 h]; match j, hj with | 3, _ => rfl | 4, _ => rfl | 5, _ => rfl | 6, _ => rfl | 7, _ => rfl) hdg kk
-- KitchenSpits: the object 0
theorem k_get4a (hM : Ma A D cA p s m args meth c cc nL own) (hw : Wa A D cA L ad s κ H locs) (hlink : Cond.fieldLink own idx (TX4 0).1 (TX4 0).2.1 (TX4 0).2.2.1 ∈ uW) (hdg : decode cc pc = .ok (.getfield idx, 3))
    (kk : W p l e R s m args below meth c H locs cells slots Q (F0 m (pc + 3) ls (.ref (ad 1) :: rest))) : W p l e R s m args below meth c H locs cells slots Q (F0 m pc ls (.ref (ad 0) :: rest)) :=
  k_get (C := RX4) (T := TX4) (N := 2) hM hw (hw.dm kd_0 (by decide)) (sh4 kd_0) rfl inW4 0 (by decide) hlink rfl hdg kk
theorem k_get4b (hM : Ma A D cA p s m args meth c cc nL own) (hw : Wa A D cA L ad s κ H locs) (hlink : Cond.fieldLink own idx (TX4 1).1 (TX4 1).2.1 (TX4 1).2.2.1 ∈ uW) (hdg : decode cc pc = .ok (.getfield idx, 3))
    (kk : W p l e R s m args below meth c H locs cells slots Q (F0 m (pc + 3) ls (.ref (ad 46) :: rest))) : W p l e R s m args below meth c H locs cells slots Q (F0 m pc ls (.ref (ad 0) :: rest)) :=
  k_get (C := RX4) (T := TX4) (N := 2) hM hw (hw.dm kd_0 (by decide)) (sh4 kd_0) rfl inW4 1 (by decide) hlink rfl hdg kk
-- rows of numbers
theorem k_iald {n : Nat} {i : Int32} (hM : Ma A D cA p s m args meth c cc nL own) (hw : Wa A D cA L ad s κ H locs) (hk : k ∈ L) (hsh : sh cA ad k (κ k) = .inl (cA 0, n, .inl (κ k))) (hin : vp_in i n) (hdg : decode cc pc = .ok (.iaload, 1))
    (kk : W p l e R s m args below meth c H locs cells slots Q (F0 m (pc + 1) ls (.int (κ k i.toNatClampNeg) :: rest))) : W p l e R s m args below meth c H locs cells slots Q (F0 m pc ls (.int i :: .ref (ad k) :: rest)) :=
  va_iald hM.x hM.b hM.K hw.1 (L.idxOf k) 0 (by rw [wl_get hk, hsh]) rfl hin hdg kk
theorem k_iast {n : Nat} {i x : Int32} (hM : Ma A D cA p s m args meth c cc nL own) (hw : Wa A D cA L ad s κ H locs) (hk : k ∈ L) (hsh : ∀ r : Nat → Int32, sh cA ad k r = .inl (cA 0, n, .inl r)) (hin : vp_in i n) (hdg : decode cc pc = .ok (.iastore, 1))
    (kk : ∀ (H1 : Heap) (locs1 : List Loc), Wa A D cA L ad s (up2 κ k i.toNatClampNeg x) H1 locs1 → W p l e R s m args below meth c H1 locs1 cells slots Q (F0 m (pc + 1) ls rest)) : W p l e R s m args below meth c H locs cells slots Q (F0 m pc ls (.int x :: .int i :: .ref (ad k) :: rest)) := by
  refine va_iast hM.x hM.b hM.K hw.1 hw.dd hw.2.1 (L.idxOf k) 0 (by rw [wl_get hk, hsh]) rfl hin hdg (fun H1 locs1 hP hD hS => kk H1 locs1 ⟨?_, hS, hw.2.2⟩)
  have e1 : upd (κ k) i.toNatClampNeg x = va_up (κ k) i.toNatClampNeg x := rfl
  rw [e1, ← hsh, wl_set _ hw.2.2.1.1 hk] at hP
  exact hP
theorem k_alen {v : Int32} (hM : Ma A D cA p s m args meth c cc nL own) (hw : Wa A D cA L ad s κ H locs) (hk : k ∈ L) {a : vp_A} (t : Nat) {ci : ClassId} {ty : FieldType} (hsh : sh cA ad k (κ k) = .inl (ci, a)) (ht : (tyl cA)[t]? = some (ci, ty)) (hn : Int32.ofNat a.1 = v) (hdg : decode cc pc = .ok (.arraylength, 1))
    (kk : W p l e R s m args below meth c H locs cells slots Q (F0 m (pc + 1) ls (.int v :: rest))) : W p l e R s m args below meth c H locs cells slots Q (F0 m pc ls (.ref (ad k) :: rest)) :=
  va_alen hM.x hM.b hM.K hw.1 (L.idxOf k) t (by rw [wl_get hk, hsh]) ht hn hdg kk
-- rows of objects
theorem k_aldq {C : String} {i : Int32} {n t x : Nat} {f : Nat → Option Nat} (hM : Ma A D cA p s m args meth c cc nL own) (hw : Wa A D cA L ad s κ H locs) (hk : k ∈ L) (hsh : sh cA ad k (κ k) = .inl (cA t, n, Qr f)) (ht : (tyl cA)[t]? = some (cA t, .object C)) (hin : vp_in i n) (hf : f i.toNatClampNeg = some x) (hdg : decode cc pc = .ok (.aaload, 1))
    (kk : W p l e R s m args below meth c H locs cells slots Q (F0 m (pc + 1) ls (.ref x :: rest))) : W p l e R s m args below meth c H locs cells slots Q (F0 m pc ls (.int i :: .ref (ad k) :: rest)) :=
  va_aldq hM.x hM.b hM.K hw.1 (L.idxOf k) t (by rw [wl_get hk, hsh]) ht hin hdg (by rw [hf]; exact kk)
/-- .. of rows -/
theorem k_alda {ty : FieldType} {i : Int32} {n t x : Nat} {f : Nat → Option Nat} (hM : Ma A D cA p s m args meth c cc nL own) (hw : Wa A D cA L ad s κ H locs) (hk : k ∈ L) (hsh : sh cA ad k (κ k) = .inl (cA t, n, Qr f)) (ht : (tyl cA)[t]? = some (cA t, .array ty)) (hin : vp_in i n) (hf : f i.toNatClampNeg = some x) (hdg : decode cc pc = .ok (.aaload, 1))
    (kk : W p l e R s m args below meth c H locs cells slots Q (F0 m (pc + 1) ls (.ref x :: rest))) : W p l e R s m args below meth c H locs cells slots Q (F0 m pc ls (.int i :: .ref (ad k) :: rest)) := by
  have hlt : i.toNatClampNeg < n := Nat.not_le.mp fun q => hin (Or.inr q)
  have h1 : va_at D vwCl (ad k, .inl (cA t, n, Qr f)) H := hw.1 (L.idxOf k) _ (by rw [wl_get hk, hsh])
  exact W.aald (v := va_rf (f i.toNatClampNeg)) (ty := .array ty) hM.x hM.b h1 ((hM.K.2 t _ ht).1 n (fun j => va_rf (f j))) rfl (fun q => by cases q) (by show ¬ (i < 0 ∨ (arrV _ _ _).slots.size ≤ _); rw [arrV_size]; exact hin) (by show (arrV _ _ _).slots[_]? = _; rw [arrV_read _ _ hlt]) rfl rfl hdg (by rw [hf]; exact kk)
theorem vpi_lt {x : Int32} {n : Nat} (h : vp_in x n) : x.toNatClampNeg < n := Nat.not_le.mp fun q => h (Or.inr q)
theorem k_ald7 {i : Int32} (hM : Ma A D cA p s m args meth c cc nL own) (hw : Wa A D cA L ad s κ H locs) (h : kd k = 1) (hin : vp_in i 3) (hdg : decode cc pc = .ok (.aaload, 1))
    (kk : W p l e R s m args below meth c H locs cells slots Q (F0 m (pc + 1) ls (.ref (ad (k + 4 + i.toNatClampNeg)) :: rest))) : W p l e R s m args below meth c H locs cells slots Q (F0 m pc ls (.int i :: .ref (ad (k + 1)) :: rest)) :=
  k_aldq (t := 2) hM hw (hw.dm (kd1_7 h) (by decide)) (sh7 (kd1_7 h)) rfl hin (by rw [if_pos (vpi_lt hin), show k + 1 + 3 + i.toNatClampNeg = k + 4 + i.toNatClampNeg by omega]) hdg kk
theorem k_ald8 {i : Int32} (hM : Ma A D cA p s m args meth c cc nL own) (hw : Wa A D cA L ad s κ H locs) (h : kd k = 1) (hin : vp_in i 6) (hdg : decode cc pc = .ok (.aaload, 1))
    (kk : W p l e R s m args below meth c H locs cells slots Q (F0 m (pc + 1) ls (.ref (ad (k + 7 + i.toNatClampNeg)) :: rest))) : W p l e R s m args below meth c H locs cells slots Q (F0 m pc ls (.int i :: .ref (ad (k + 2)) :: rest)) :=
  k_aldq (t := 3) hM hw (hw.dm (kd1_8 h) (by decide)) (sh8 (kd1_8 h)) rfl hin (by rw [if_pos (vpi_lt hin), show k + 2 + 5 + i.toNatClampNeg = k + 7 + i.toNatClampNeg by omega]) hdg kk
theorem k_ald9 {i : Int32} (hM : Ma A D cA p s m args meth c cc nL own) (hw : Wa A D cA L ad s κ H locs) (h : kd k = 1) (hin : vp_in i 16) (hdg : decode cc pc = .ok (.aaload, 1))
    (kk : W p l e R s m args below meth c H locs cells slots Q (F0 m (pc + 1) ls (.ref (ad (k + 13 + 2 * i.toNatClampNeg)) :: rest))) : W p l e R s m args below meth c H locs cells slots Q (F0 m pc ls (.int i :: .ref (ad (k + 3)) :: rest)) :=
  k_aldq (t := 4) hM hw (hw.dm (kd1_9 h) (by decide)) (sh9 (kd1_9 h)) rfl hin (by rw [if_pos (vpi_lt hin), show k + 3 + 10 + 2 * i.toNatClampNeg = k + 13 + 2 * i.toNatClampNeg by omega]) hdg kk
-- the law's roast: 0 pounds, 1 spit, 2 side, 3 fat, 4 wet, 5 got, behind them its sides
theorem k_get5 (j : Nat) (hM : Ma A D cA p s m args meth c cc nL own) (hw : Wa A D cA L ad s κ H locs) (h : kd k = 21) (hk : k ∈ L) (hj : j < 6) (hlink : Cond.fieldLink own idx (TX5 j).1 (TX5 j).2.1 (TX5 j).2.2.1 ∈ uW) (hdg : decode cc pc = .ok (.getfield idx, 3))
    (kk : W p l e R s m args below meth c H locs cells slots Q (F0 m (pc + 3) ls (.int (κ k j) :: rest))) : W p l e R s m args below meth c H locs cells slots Q (F0 m pc ls (.ref (ad k) :: rest)) :=
  k_get (C := RX5) (T := TX5) (N := 7) hM hw hk (sh21 h) rfl inW5 j (by omega) hlink (by match j, hj with | 0, _ => rfl | 1, _ => rfl | 2, _ => rfl | 3, _ => rfl | 4, _ => rfl | 5, _ => rfl) hdg kk
theorem k_get5r (hM : Ma A D cA p s m args meth c cc nL own) (hw : Wa A D cA L ad s κ H locs) (h : kd k = 21) (hk : k ∈ L) (hlink : Cond.fieldLink own idx (TX5 6).1 (TX5 6).2.1 (TX5 6).2.2.1 ∈ uW) (hdg : decode cc pc = .ok (.getfield idx, 3))
    (kk : W p l e R s m args below meth c H locs cells slots Q (F0 m (pc + 3) ls (.ref (ad (k + 1)) :: rest))) : W p l e R s m args below meth c H locs cells slots Q (F0 m pc ls (.ref (ad k) :: rest)) :=
  k_get (C := RX5) (T := TX5) (N := 7) hM hw hk (sh21 h) rfl inW5 6 (by decide) hlink rfl hdg kk
theorem k_put5 (j : Nat) {x : Int32} (hM : Ma A D cA p s m args meth c cc nL own) (hw : Wa A D cA L ad s κ H locs) (h : kd k = 21) (hk : k ∈ L) (hj : j < 6) (hlink : Cond.fieldLink own idx (TX5 j).1 (TX5 j).2.1 (TX5 j).2.2.1 ∈ uW) (hdg : decode cc pc = .ok (.putfield idx, 3))
    (kk : ∀ (H1 : Heap) (locs1 : List Loc), Wa A D cA L ad s (up2 κ k j x) H1 locs1 → W p l e R s m args below meth c H1 locs1 cells slots Q (F0 m (pc + 3) ls rest)) : W p l e R s m args below meth c H locs cells slots Q (F0 m pc ls (.int x :: .ref (ad k) :: rest)) :=
  k_put (C := RX5) (T := TX5) (N := 7) hM hw hk (sh21 h) rfl inW5 tyX5 tyX5_ok nmX5 j (by omega) hlink (by match j, hj with | 0, _ => rfl | 1, _ => rfl | 2, _ => rfl | 3, _ => rfl | 4, _ => rfl | 5, _ => rfl) (by match j, hj with | 0, _ => exact tyX5_ok 0 (by decide) | 1, _ => exact tyX5_ok 1 (by decide) | 2, _ => exact tyX5_ok 2 (by decide) | 3, _ => exact tyX5_ok 3 (by decide) | 4, _ => exact tyX5_ok 4 (by decide) | 5, _ => exact tyX5_ok 5 (by decide)) (by show j < 7; omega) (by rw [sh21 h]; match j, hj with | 0, _ => rfl | 1, _ => rfl | 2, _ => rfl | 3, _ => rfl | 4, _ => rfl | 5, _ => rfl) hdg kk
-- the law's kitchen: 0 minute, 1 feast, then its rows
theorem k_get6 (j : Nat) (hM : Ma A D cA p s m args meth c cc nL own) (hw : Wa A D cA L ad s κ H locs) (hk : 91 ∈ L) (hj : j < 2) (hlink : Cond.fieldLink own idx (TX6 j).1 (TX6 j).2.1 (TX6 j).2.2.1 ∈ uW) (hdg : decode cc pc = .ok (.getfield idx, 3))
    (kk : W p l e R s m args below meth c H locs cells slots Q (F0 m (pc + 3) ls (.int (κ 91 j) :: rest))) : W p l e R s m args below meth c H locs cells slots Q (F0 m pc ls (.ref (ad 91) :: rest)) :=
  k_get (C := RX6) (T := TX6) (N := 5) hM hw hk (sh15 kd_91) rfl inW6 j (by omega) hlink (by match j, hj with | 0, _ => rfl | 1, _ => rfl) hdg kk
theorem k_get6r (j : Nat) (hM : Ma A D cA p s m args meth c cc nL own) (hw : Wa A D cA L ad s κ H locs) (hk : 91 ∈ L) (hj : j < 3) (hlink : Cond.fieldLink own idx (TX6 (j + 2)).1 (TX6 (j + 2)).2.1 (TX6 (j + 2)).2.2.1 ∈ uW) (hdg : decode cc pc = .ok (.getfield idx, 3))
    (kk : W p l e R s m args below meth c H locs cells slots Q (F0 m (pc + 3) ls (.ref (ad (92 + j)) :: rest))) : W p l e R s m args below meth c H locs cells slots Q (F0 m pc ls (.ref (ad 91) :: rest)) :=
  k_get (C := RX6) (T := TX6) (N := 5) hM hw hk (sh15 kd_91) rfl inW6 (j + 2) (by omega) hlink (by match j, hj with | 0, _ => rfl | 1, _ => rfl | 2, _ => rfl) hdg kk
theorem k_put6 (j : Nat) {x : Int32} (hM : Ma A D cA p s m args meth c cc nL own) (hw : Wa A D cA L ad s κ H locs) (hk : 91 ∈ L) (hj : j < 2) (hlink : Cond.fieldLink own idx (TX6 j).1 (TX6 j).2.1 (TX6 j).2.2.1 ∈ uW) (hdg : decode cc pc = .ok (.putfield idx, 3))
    (kk : ∀ (H1 : Heap) (locs1 : List Loc), Wa A D cA L ad s (up2 κ 91 j x) H1 locs1 → W p l e R s m args below meth c H1 locs1 cells slots Q (F0 m (pc + 3) ls rest)) : W p l e R s m args below meth c H locs cells slots Q (F0 m pc ls (.int x :: .ref (ad 91) :: rest)) :=
  k_put (C := RX6) (T := TX6) (N := 5) hM hw hk (sh15 kd_91) rfl inW6 tyX6 tyX6_ok nmX6 j (by omega) hlink (by match j, hj with | 0, _ => rfl | 1, _ => rfl) (by match j, hj with | 0, _ => exact tyX6_ok 0 (by decide) | 1, _ => exact tyX6_ok 1 (by decide)) (by show j < 5; omega) (by rw [sh15 kd_91]; match j, hj with | 0, _ => rfl | 1, _ => rfl) hdg kk
/-- how long a row is -/
theorem k_alenD {v : Int32} (hM : Ma A D cA p s m args meth c cc nL own) (hw : Wa A D cA L ad s κ H locs) (hk : k ∈ L) {n : Nat} {a : (Nat → Int32) ⊕ (Nat → Int64) ⊕ (Nat → UInt32) ⊕ (Nat → UInt64) ⊕ (Nat → Option Nat)} (t : Nat) {ty : FieldType} (hsh : sh cA ad k (κ k) = .inl (cA t, n, a)) (ht : (tyl cA)[t]? = some (cA t, ty)) (hn : nI n = v) (hdg : decode cc pc = .ok (.arraylength, 1))
    (kk : W p l e R s m args below meth c H locs cells slots Q (F0 m (pc + 1) ls (.int v :: rest))) : W p l e R s m args below meth c H locs cells slots Q (F0 m pc ls (.ref (ad k) :: rest)) :=
  k_alen hM hw hk (a := (n, a)) t hsh ht hn hdg kk
-- rows of booleans
theorem k_zald {n : Nat} {i : Int32} (hM : Ma A D cA p s m args meth c cc nL own) (hw : Wa A D cA L ad s κ H locs) (hk : k ∈ L) (hsh : sh cA ad k (κ k) = .inl (cA 6, n, .inl (κ k))) (hin : vp_in i n) (hdg : decode cc pc = .ok (.baload, 1))
    (kk : W p l e R s m args below meth c H locs cells slots Q (F0 m (pc + 1) ls (.int (κ k i.toNatClampNeg) :: rest))) : W p l e R s m args below meth c H locs cells slots Q (F0 m pc ls (.int i :: .ref (ad k) :: rest)) :=
  va_zald hM.x hM.b hM.K hw.1 (L.idxOf k) 6 (by rw [wl_get hk, hsh]) rfl hin hdg kk
theorem k_zast {n : Nat} {i x : Int32} (hM : Ma A D cA p s m args meth c cc nL own) (hw : Wa A D cA L ad s κ H locs) (hk : k ∈ L) (hsh : ∀ r : Nat → Int32, sh cA ad k r = .inl (cA 6, n, .inl r)) (hin : vp_in i n) (hx : vp_nar .boolean x = x) (hdg : decode cc pc = .ok (.bastore, 1))
    (kk : ∀ (H1 : Heap) (locs1 : List Loc), Wa A D cA L ad s (up2 κ k i.toNatClampNeg x) H1 locs1 → W p l e R s m args below meth c H1 locs1 cells slots Q (F0 m (pc + 1) ls rest)) : W p l e R s m args below meth c H locs cells slots Q (F0 m pc ls (.int x :: .int i :: .ref (ad k) :: rest)) := by
  refine va_zast hM.x hM.b hM.K hw.1 hw.dd hw.2.1 (L.idxOf k) 6 (by rw [wl_get hk, hsh]) rfl hin hdg (fun H1 locs1 hP hD hS => kk H1 locs1 ⟨?_, hS, hw.2.2⟩)
  have e1 : upd (κ k) i.toNatClampNeg (vp_nar .boolean x) = va_up (κ k) i.toNatClampNeg x := by rw [hx]; rfl
  rw [e1, ← hsh, wl_set _ hw.2.2.1.1 hk] at hP
  exact hP
end KR2
