def bi (b : Bool) : Int32 := if b then 1 else 0
theorem bi_narrow (b : Bool) : narrow .boolean (.int (bi b)) = .int (bi b) := by cases b <;> rfl
section KR
variable {p : Program} {l : Launch} {e : Env} {R : Room} {s : State} {m : MethodId} {args : Array Value} {below : List Frame} {meth : Method} {c : Code} {H : Heap} {locs : List Loc} {cells slots : Nat} {Q : State → Prop}
variable {cc : ByteArray} {pc nL : Nat} {ls : Array Slot} {rest : List Value} {g : Gt} {κ : Kp} {own : String}
theorem Mc.x (hM : Mc g p s m args meth c cc nL own) : p.tables.exec = Jvm.exec := hM.1.1
theorem Mc.b (hM : Mc g p s m args meth c cc nL own) : c.code = cc := hM.1.2.1
theorem Mc.ml (hM : Mc g p s m args meth c cc nL own) : c.maxLocals = nL := hM.1.2.2.1
theorem Mc.ow (hM : Mc g p s m args meth c cc nL own) : s.vm.findClass own = some m.cls := hM.1.2.2.2.1
theorem Mc.ts (hM : Mc g p s m args meth c cc nL own) : ∀ w ∈ uW, w.before args s = true := hM.1.2.2.2.2
theorem Mc.K (hM : Mc g p s m args meth c cc nL own) : va_K g.1 vwCl (tyl g.2.1) s := hM.2.1.1
theorem Mc.I (hM : Mc g p s m args meth c cc nL own) : Inj g := hM.2.1.2.1
/-- a number field of a cell -/
theorem k_get {ci idx : Nat} {C : String} {T : u_T} {N k : Nat} {fs : List Value} {v : Value} (hM : Mc g p s m args meth c cc nL own) (hw : Ws g s κ H locs) (hk : k < 99) (hsh : sh g.2.1 g.2.2 k (κ k) = .inr (ci, fs)) (hc : vwCl[ci]? = some (C, T, N)) (hin : ∀ w ∈ u_ws C T N, w ∈ uW) (j : Nat) (hj : j < N)
    (hlink : Cond.fieldLink own idx (T j).1 (T j).2.1 (T j).2.2.1 ∈ uW) (hv : fs[j]? = some v) (hdg : decode cc pc = .ok (.getfield idx, 3))
    (kk : W p l e R s m args below meth c H locs cells slots Q (F0 m (pc + 3) ls (v :: rest))) : W p l e R s m args below meth c H locs cells slots Q (F0 m pc ls (.ref (g.2.2 k) :: rest)) :=
  va_get hM.x hM.b hM.ts hin hM.ow hM.K hw.1 k (by rw [wl_get g κ hk, hsh]) hc j hj (hM.ts _ hlink) (fun _ h => h) hv hdg kk
theorem k_put {ci idx : Nat} {C : String} {T : u_T} {N k : Nat} {fs : List Value} {x : Int32} (hM : Mc g p s m args meth c cc nL own) (hw : Ws g s κ H locs) (hk : k < 99) (hsh : sh g.2.1 g.2.2 k (κ k) = .inr (ci, fs)) (hc : vwCl[ci]? = some (C, T, N)) (hin : ∀ w ∈ u_ws C T N, w ∈ uW) (ty0 : Nat → FieldType) (hty : ∀ k, k < N → parseFieldDescriptor (T k).2.2.1 = some (ty0 k)) (hnm : ∀ a, a < N → ∀ b, b < N → a ≠ b → (T a).2.1 ≠ (T b).2.1) (j : Nat) (hj : j < N)
    (hlink : Cond.fieldLink own idx (T j).1 (T j).2.1 (T j).2.2.1 ∈ uW) (hfin : (T j).2.2.2 = false) (hd : parseFieldDescriptor (T j).2.2.1 = some .int) (hl : j < fs.length) (hset : sh g.2.1 g.2.2 k (va_up (κ k) j x) = .inr (ci, fs.set j (.int x))) (hdg : decode cc pc = .ok (.putfield idx, 3))
    (kk : ∀ (H1 : Heap) (locs1 : List Loc), Ws g s (up2 κ k j x) H1 locs1 → W p l e R s m args below meth c H1 locs1 cells slots Q (F0 m (pc + 3) ls rest)) : W p l e R s m args below meth c H locs cells slots Q (F0 m pc ls (.int x :: .ref (g.2.2 k) :: rest)) := by
  refine va_put hM.x hM.b hM.ts hin ty0 hty hnm hM.ow hM.K hw.1 (wl_D hM.I κ s.heap.size) hw.2 k (by rw [wl_get g κ hk, hsh]) hc j hj (hM.ts _ hlink) (fun _ h => h) hfin hd rfl rfl hl hdg (fun H1 locs1 hP hD hS => kk H1 locs1 ⟨?_, hS⟩)
  rw [← hset, wl_set] at hP
  exact hP
end KR
theorem inW0 : ∀ w ∈ u_ws RX0 TX0 3, w ∈ uW := fun w h => List.mem_filter.mpr ⟨(by decide +kernel : ∀ w ∈ u_ws RX0 TX0 3, w ∈ lw_tbl) w h, (by decide +kernel : ∀ w ∈ u_ws RX0 TX0 3, goodWord w = true) w h⟩
theorem inW1 : ∀ w ∈ u_ws RX1 TX1 8, w ∈ uW := fun w h => List.mem_filter.mpr ⟨(by decide +kernel : ∀ w ∈ u_ws RX1 TX1 8, w ∈ lw_tbl) w h, (by decide +kernel : ∀ w ∈ u_ws RX1 TX1 8, goodWord w = true) w h⟩
theorem inW2 : ∀ w ∈ u_ws RX2 TX2 6, w ∈ uW := fun w h => List.mem_filter.mpr ⟨(by decide +kernel : ∀ w ∈ u_ws RX2 TX2 6, w ∈ lw_tbl) w h, (by decide +kernel : ∀ w ∈ u_ws RX2 TX2 6, goodWord w = true) w h⟩
theorem inW3 : ∀ w ∈ u_ws RX3 TX3 6, w ∈ uW := fun w h => List.mem_filter.mpr ⟨(by decide +kernel : ∀ w ∈ u_ws RX3 TX3 6, w ∈ lw_tbl) w h, (by decide +kernel : ∀ w ∈ u_ws RX3 TX3 6, goodWord w = true) w h⟩
theorem inW4 : ∀ w ∈ u_ws RX4 TX4 2, w ∈ uW := fun w h => List.mem_filter.mpr ⟨(by decide +kernel : ∀ w ∈ u_ws RX4 TX4 2, w ∈ lw_tbl) w h, (by decide +kernel : ∀ w ∈ u_ws RX4 TX4 2, goodWord w = true) w h⟩
theorem inW5 : ∀ w ∈ u_ws RX5 TX5 11, w ∈ uW := fun w h => List.mem_filter.mpr ⟨(by decide +kernel : ∀ w ∈ u_ws RX5 TX5 11, w ∈ lw_tbl) w h, (by decide +kernel : ∀ w ∈ u_ws RX5 TX5 11, goodWord w = true) w h⟩
section KR2
variable {p : Program} {l : Launch} {e : Env} {R : Room} {s : State} {m : MethodId} {args : Array Value} {below : List Frame} {meth : Method} {c : Code} {H : Heap} {locs : List Loc} {cells slots : Nat} {Q : State → Prop}
variable {cc : ByteArray} {pc nL : Nat} {ls : Array Slot} {rest : List Value} {g : Gt} {κ : Kp} {own : String} {idx k : Nat}
-- Fire
theorem k_get0 (j : Nat) (hM : Mc g p s m args meth c cc nL own) (hw : Ws g s κ H locs) (h : kd k = 0) (hj : j < 3) (hlink : Cond.fieldLink own idx (TX0 j).1 (TX0 j).2.1 (TX0 j).2.2.1 ∈ uW) (hdg : decode cc pc = .ok (.getfield idx, 3))
    (kk : W p l e R s m args below meth c H locs cells slots Q (F0 m (pc + 3) ls (.int (κ k j) :: rest))) : W p l e R s m args below meth c H locs cells slots Q (F0 m pc ls (.ref (g.2.2 k) :: rest)) :=
  k_get (C := RX0) (T := TX0) (N := 3) hM hw (kd_lt h (by decide)) (sh0 h) rfl inW0 j hj hlink (by match j, hj with | 0, _ => rfl | 1, _ => rfl | 2, _ => rfl) hdg kk
theorem k_put0 (j : Nat) {x : Int32} (hM : Mc g p s m args meth c cc nL own) (hw : Ws g s κ H locs) (h : kd k = 0) (hj : j < 3) (hlink : Cond.fieldLink own idx (TX0 j).1 (TX0 j).2.1 (TX0 j).2.2.1 ∈ uW) (hdg : decode cc pc = .ok (.putfield idx, 3))
    (kk : ∀ (H1 : Heap) (locs1 : List Loc), Ws g s (up2 κ k j x) H1 locs1 → W p l e R s m args below meth c H1 locs1 cells slots Q (F0 m (pc + 3) ls rest)) : W p l e R s m args below meth c H locs cells slots Q (F0 m pc ls (.int x :: .ref (g.2.2 k) :: rest)) :=
  k_put (C := RX0) (T := TX0) (N := 3) hM hw (kd_lt h (by decide)) (sh0 h) rfl inW0 tyX0 tyX0_ok nmX0 j hj hlink (by match j, hj with | 0, _ => rfl | 1, _ => rfl | 2, _ => rfl) (by match j, hj with | 0, _ => exact tyX0_ok 0 (by decide) | 1, _ => exact tyX0_ok 1 (by decide) | 2, _ => exact tyX0_ok 2 (by decide)) hj (by rw [sh0 h]; match j, hj with | 0, _ => rfl | 1, _ => rfl | 2, _ => rfl) hdg kk
-- Spit
theorem k_get3 (j : Nat) (hM : Mc g p s m args meth c cc nL own) (hw : Ws g s κ H locs) (h : kd k = 3) (hj : j < 6) (hlink : Cond.fieldLink own idx (TX3 j).1 (TX3 j).2.1 (TX3 j).2.2.1 ∈ uW) (hdg : decode cc pc = .ok (.getfield idx, 3))
    (kk : W p l e R s m args below meth c H locs cells slots Q (F0 m (pc + 3) ls (.int (κ k j) :: rest))) : W p l e R s m args below meth c H locs cells slots Q (F0 m pc ls (.ref (g.2.2 k) :: rest)) :=
  k_get (C := RX3) (T := TX3) (N := 6) hM hw (kd_lt h (by decide)) (sh3 h) rfl inW3 j hj hlink (by match j, hj with | 0, _ => rfl | 1, _ => rfl | 2, _ => rfl | 3, _ => rfl | 4, _ => rfl | 5, _ => rfl) hdg kk
theorem k_put3 (j : Nat) {x : Int32} (hM : Mc g p s m args meth c cc nL own) (hw : Ws g s κ H locs) (h : kd k = 3) (hj : j < 6) (hlink : Cond.fieldLink own idx (TX3 j).1 (TX3 j).2.1 (TX3 j).2.2.1 ∈ uW) (hdg : decode cc pc = .ok (.putfield idx, 3))
    (kk : ∀ (H1 : Heap) (locs1 : List Loc), Ws g s (up2 κ k j x) H1 locs1 → W p l e R s m args below meth c H1 locs1 cells slots Q (F0 m (pc + 3) ls rest)) : W p l e R s m args below meth c H locs cells slots Q (F0 m pc ls (.int x :: .ref (g.2.2 k) :: rest)) :=
  k_put (C := RX3) (T := TX3) (N := 6) hM hw (kd_lt h (by decide)) (sh3 h) rfl inW3 tyX3 tyX3_ok nmX3 j hj hlink (by match j, hj with | 0, _ => rfl | 1, _ => rfl | 2, _ => rfl | 3, _ => rfl | 4, _ => rfl | 5, _ => rfl) (by match j, hj with | 0, _ => exact tyX3_ok 0 (by decide) | 1, _ => exact tyX3_ok 1 (by decide) | 2, _ => exact tyX3_ok 2 (by decide) | 3, _ => exact tyX3_ok 3 (by decide) | 4, _ => exact tyX3_ok 4 (by decide) | 5, _ => exact tyX3_ok 5 (by decide)) hj (by rw [sh3 h]; match j, hj with | 0, _ => rfl | 1, _ => rfl | 2, _ => rfl | 3, _ => rfl | 4, _ => rfl | 5, _ => rfl) hdg kk
-- Roast: field 0 is its row
theorem k_get2 (j : Nat) (hM : Mc g p s m args meth c cc nL own) (hw : Ws g s κ H locs) (h : kd k = 2) (hj : 0 < j ∧ j < 6) (hlink : Cond.fieldLink own idx (TX2 j).1 (TX2 j).2.1 (TX2 j).2.2.1 ∈ uW) (hdg : decode cc pc = .ok (.getfield idx, 3))
    (kk : W p l e R s m args below meth c H locs cells slots Q (F0 m (pc + 3) ls (.int (κ k j) :: rest))) : W p l e R s m args below meth c H locs cells slots Q (F0 m pc ls (.ref (g.2.2 k) :: rest)) :=
  k_get (C := RX2) (T := TX2) (N := 6) hM hw (kd_lt h (by decide)) (sh2 h) rfl inW2 j hj.2 hlink (by match j, hj with | 1, _ => rfl | 2, _ => rfl | 3, _ => rfl | 4, _ => rfl | 5, _ => rfl) hdg kk
theorem k_get2r (hM : Mc g p s m args meth c cc nL own) (hw : Ws g s κ H locs) (h : kd k = 2) (hlink : Cond.fieldLink own idx (TX2 0).1 (TX2 0).2.1 (TX2 0).2.2.1 ∈ uW) (hdg : decode cc pc = .ok (.getfield idx, 3))
    (kk : W p l e R s m args below meth c H locs cells slots Q (F0 m (pc + 3) ls (.ref (g.2.2 (k + 1)) :: rest))) : W p l e R s m args below meth c H locs cells slots Q (F0 m pc ls (.ref (g.2.2 k) :: rest)) :=
  k_get (C := RX2) (T := TX2) (N := 6) hM hw (kd_lt h (by decide)) (sh2 h) rfl inW2 0 (by decide) hlink rfl hdg kk
theorem k_put2 (j : Nat) {x : Int32} (hM : Mc g p s m args meth c cc nL own) (hw : Ws g s κ H locs) (h : kd k = 2) (hj : 0 < j ∧ j < 6) (hlink : Cond.fieldLink own idx (TX2 j).1 (TX2 j).2.1 (TX2 j).2.2.1 ∈ uW) (hdg : decode cc pc = .ok (.putfield idx, 3))
    (kk : ∀ (H1 : Heap) (locs1 : List Loc), Ws g s (up2 κ k j x) H1 locs1 → W p l e R s m args below meth c H1 locs1 cells slots Q (F0 m (pc + 3) ls rest)) : W p l e R s m args below meth c H locs cells slots Q (F0 m pc ls (.int x :: .ref (g.2.2 k) :: rest)) :=
  k_put (C := RX2) (T := TX2) (N := 6) hM hw (kd_lt h (by decide)) (sh2 h) rfl inW2 tyX2 tyX2_ok nmX2 j hj.2 hlink (by match j, hj with | 1, _ => rfl | 2, _ => rfl | 3, _ => rfl | 4, _ => rfl | 5, _ => rfl) (by match j, hj with | 1, _ => exact tyX2_ok 1 (by decide) | 2, _ => exact tyX2_ok 2 (by decide) | 3, _ => exact tyX2_ok 3 (by decide) | 4, _ => exact tyX2_ok 4 (by decide) | 5, _ => exact tyX2_ok 5 (by decide)) hj.2 (by rw [sh2 h]; match j, hj with | 1, _ => rfl | 2, _ => rfl | 3, _ => rfl | 4, _ => rfl | 5, _ => rfl) hdg kk
-- Kitchen: fields 0, 1, 2 are its rows
theorem k_get1 (j : Nat) (hM : Mc g p s m args meth c cc nL own) (hw : Ws g s κ H locs) (h : kd k = 1) (hj : 2 < j ∧ j < 8) (hlink : Cond.fieldLink own idx (TX1 j).1 (TX1 j).2.1 (TX1 j).2.2.1 ∈ uW) (hdg : decode cc pc = .ok (.getfield idx, 3))
    (kk : W p l e R s m args below meth c H locs cells slots Q (F0 m (pc + 3) ls (.int (κ k j) :: rest))) : W p l e R s m args below meth c H locs cells slots Q (F0 m pc ls (.ref (g.2.2 k) :: rest)) :=
  k_get (C := RX1) (T := TX1) (N := 8) hM hw (kd_lt h (by decide)) (sh1 h) rfl inW1 j hj.2 hlink (by match j, hj with | 3, _ => rfl | 4, _ => rfl | 5, _ => rfl | 6, _ => rfl | 7, _ => rfl) hdg kk
theorem k_get1r (j : Nat) (hM : Mc g p s m args meth c cc nL own) (hw : Ws g s κ H locs) (h : kd k = 1) (hj : j < 3) (hlink : Cond.fieldLink own idx (TX1 j).1 (TX1 j).2.1 (TX1 j).2.2.1 ∈ uW) (hdg : decode cc pc = .ok (.getfield idx, 3))
    (kk : W p l e R s m args below meth c H locs cells slots Q (F0 m (pc + 3) ls (.ref (g.2.2 (k + (j + 1))) :: rest))) : W p l e R s m args below meth c H locs cells slots Q (F0 m pc ls (.ref (g.2.2 k) :: rest)) :=
  k_get (C := RX1) (T := TX1) (N := 8) hM hw (kd_lt h (by decide)) (sh1 h) rfl inW1 j (by omega) hlink (by match j, hj with | 0, _ => rfl | 1, _ => rfl | 2, _ => rfl) hdg kk
theorem k_put1 (j : Nat) {x : Int32} (hM : Mc g p s m args meth c cc nL own) (hw : Ws g s κ H locs) (h : kd k = 1) (hj : 2 < j ∧ j < 8) (hlink : Cond.fieldLink own idx (TX1 j).1 (TX1 j).2.1 (TX1 j).2.2.1 ∈ uW) (hdg : decode cc pc = .ok (.putfield idx, 3))
    (kk : ∀ (H1 : Heap) (locs1 : List Loc), Ws g s (up2 κ k j x) H1 locs1 → W p l e R s m args below meth c H1 locs1 cells slots Q (F0 m (pc + 3) ls rest)) : W p l e R s m args below meth c H locs cells slots Q (F0 m pc ls (.int x :: .ref (g.2.2 k) :: rest)) :=
  k_put (C := RX1) (T := TX1) (N := 8) hM hw (kd_lt h (by decide)) (sh1 h) rfl inW1 tyX1 tyX1_ok nmX1 j hj.2 hlink (by match j, hj with | 3, _ => rfl | 4, _ => rfl | 5, _ => rfl | 6, _ => rfl | 7, _ => rfl) (by match j, hj with | 3, _ => exact tyX1_ok 3 (by decide) | 4, _ => exact tyX1_ok 4 (by decide) | 5, _ => exact tyX1_ok 5 (by decide) | 6, _ => exact tyX1_ok 6 (by decide) | 7, _ => exact tyX1_ok 7 (by decide)) hj.2 (by rw [sh1 h]; match j, hj with | 3, _ => rfl | 4, _ => rfl | 5, _ => rfl | 6, _ => rfl | 7, _ => rfl) hdg kk
-- KitchenSpits: the object 0
theorem k_get4a (hM : Mc g p s m args meth c cc nL own) (hw : Ws g s κ H locs) (hlink : Cond.fieldLink own idx (TX4 0).1 (TX4 0).2.1 (TX4 0).2.2.1 ∈ uW) (hdg : decode cc pc = .ok (.getfield idx, 3))
    (kk : W p l e R s m args below meth c H locs cells slots Q (F0 m (pc + 3) ls (.ref (g.2.2 1) :: rest))) : W p l e R s m args below meth c H locs cells slots Q (F0 m pc ls (.ref (g.2.2 0) :: rest)) :=
  k_get (C := RX4) (T := TX4) (N := 2) hM hw (by decide) (sh4 kd_0) rfl inW4 0 (by decide) hlink rfl hdg kk
theorem k_get4b (hM : Mc g p s m args meth c cc nL own) (hw : Ws g s κ H locs) (hlink : Cond.fieldLink own idx (TX4 1).1 (TX4 1).2.1 (TX4 1).2.2.1 ∈ uW) (hdg : decode cc pc = .ok (.getfield idx, 3))
    (kk : W p l e R s m args below meth c H locs cells slots Q (F0 m (pc + 3) ls (.ref (g.2.2 46) :: rest))) : W p l e R s m args below meth c H locs cells slots Q (F0 m pc ls (.ref (g.2.2 0) :: rest)) :=
  k_get (C := RX4) (T := TX4) (N := 2) hM hw (by decide) (sh4 kd_0) rfl inW4 1 (by decide) hlink rfl hdg kk
-- the reference: the object 91, fields 5.. its rows at 92..
theorem k_get5 (j : Nat) (hM : Mc g p s m args meth c cc nL own) (hw : Ws g s κ H locs) (hj : j < 5) (hlink : Cond.fieldLink own idx (TX5 j).1 (TX5 j).2.1 (TX5 j).2.2.1 ∈ uW) (hdg : decode cc pc = .ok (.getfield idx, 3))
    (kk : W p l e R s m args below meth c H locs cells slots Q (F0 m (pc + 3) ls (.int (κ 91 j) :: rest))) : W p l e R s m args below meth c H locs cells slots Q (F0 m pc ls (.ref (g.2.2 91) :: rest)) :=
  k_get (C := RX5) (T := TX5) (N := 11) hM hw (by decide) (sh5 kd_91) rfl inW5 j (by omega) hlink (by match j, hj with | 0, _ => rfl | 1, _ => rfl | 2, _ => rfl | 3, _ => rfl | 4, _ => rfl) hdg kk
theorem k_get5r (j : Nat) (hM : Mc g p s m args meth c cc nL own) (hw : Ws g s κ H locs) (hj : j < 6) (hlink : Cond.fieldLink own idx (TX5 (j + 5)).1 (TX5 (j + 5)).2.1 (TX5 (j + 5)).2.2.1 ∈ uW) (hdg : decode cc pc = .ok (.getfield idx, 3))
    (kk : W p l e R s m args below meth c H locs cells slots Q (F0 m (pc + 3) ls (.ref (g.2.2 (j + 92)) :: rest))) : W p l e R s m args below meth c H locs cells slots Q (F0 m pc ls (.ref (g.2.2 91) :: rest)) :=
  k_get (C := RX5) (T := TX5) (N := 11) hM hw (by decide) (sh5 kd_91) rfl inW5 (j + 5) (by omega) hlink (by match j, hj with | 0, _ => rfl | 1, _ => rfl | 2, _ => rfl | 3, _ => rfl | 4, _ => rfl | 5, _ => rfl) hdg kk
theorem k_put5 (j : Nat) {x : Int32} (hM : Mc g p s m args meth c cc nL own) (hw : Ws g s κ H locs) (hj : j < 5) (hlink : Cond.fieldLink own idx (TX5 j).1 (TX5 j).2.1 (TX5 j).2.2.1 ∈ uW) (hdg : decode cc pc = .ok (.putfield idx, 3))
    (kk : ∀ (H1 : Heap) (locs1 : List Loc), Ws g s (up2 κ 91 j x) H1 locs1 → W p l e R s m args below meth c H1 locs1 cells slots Q (F0 m (pc + 3) ls rest)) : W p l e R s m args below meth c H locs cells slots Q (F0 m pc ls (.int x :: .ref (g.2.2 91) :: rest)) :=
  k_put (C := RX5) (T := TX5) (N := 11) hM hw (by decide) (sh5 kd_91) rfl inW5 tyX5 tyX5_ok nmX5 j (by omega) hlink (by match j, hj with | 0, _ => rfl | 1, _ => rfl | 2, _ => rfl | 3, _ => rfl | 4, _ => rfl) (by match j, hj with | 0, _ => exact tyX5_ok 0 (by decide) | 1, _ => exact tyX5_ok 1 (by decide) | 2, _ => exact tyX5_ok 2 (by decide) | 3, _ => exact tyX5_ok 3 (by decide) | 4, _ => exact tyX5_ok 4 (by decide)) (by show j < 11; omega) (by rw [sh5 kd_91]; match j, hj with | 0, _ => rfl | 1, _ => rfl | 2, _ => rfl | 3, _ => rfl | 4, _ => rfl) hdg kk
-- rows of numbers
theorem k_iald {n : Nat} {i : Int32} (hM : Mc g p s m args meth c cc nL own) (hw : Ws g s κ H locs) (hk : k < 99) (hsh : sh g.2.1 g.2.2 k (κ k) = .inl (g.2.1 0, n, .inl (κ k))) (hin : vp_in i n) (hdg : decode cc pc = .ok (.iaload, 1))
    (kk : W p l e R s m args below meth c H locs cells slots Q (F0 m (pc + 1) ls (.int (κ k i.toNatClampNeg) :: rest))) : W p l e R s m args below meth c H locs cells slots Q (F0 m pc ls (.int i :: .ref (g.2.2 k) :: rest)) :=
  va_iald hM.x hM.b hM.K hw.1 k 0 (by rw [wl_get g κ hk, hsh]) rfl hin hdg kk
theorem k_iast {n : Nat} {i x : Int32} (hM : Mc g p s m args meth c cc nL own) (hw : Ws g s κ H locs) (hk : k < 99) (hsh : ∀ r : Nat → Int32, sh g.2.1 g.2.2 k r = .inl (g.2.1 0, n, .inl r)) (hin : vp_in i n) (hdg : decode cc pc = .ok (.iastore, 1))
    (kk : ∀ (H1 : Heap) (locs1 : List Loc), Ws g s (up2 κ k i.toNatClampNeg x) H1 locs1 → W p l e R s m args below meth c H1 locs1 cells slots Q (F0 m (pc + 1) ls rest)) : W p l e R s m args below meth c H locs cells slots Q (F0 m pc ls (.int x :: .int i :: .ref (g.2.2 k) :: rest)) := by
  refine va_iast hM.x hM.b hM.K hw.1 (wl_D hM.I κ s.heap.size) hw.2 k 0 (by rw [wl_get g κ hk, hsh]) rfl hin hdg (fun H1 locs1 hP hD hS => kk H1 locs1 ⟨?_, hS⟩)
  have e1 : upd (κ k) i.toNatClampNeg x = va_up (κ k) i.toNatClampNeg x := rfl
  rw [e1, ← hsh, wl_set] at hP
  exact hP
theorem k_alen {v : Int32} (hM : Mc g p s m args meth c cc nL own) (hw : Ws g s κ H locs) (hk : k < 99) {a : vp_A} (t : Nat) {ci : ClassId} {ty : FieldType} (hsh : sh g.2.1 g.2.2 k (κ k) = .inl (ci, a)) (ht : (tyl g.2.1)[t]? = some (ci, ty)) (hn : Int32.ofNat a.1 = v) (hdg : decode cc pc = .ok (.arraylength, 1))
    (kk : W p l e R s m args below meth c H locs cells slots Q (F0 m (pc + 1) ls (.int v :: rest))) : W p l e R s m args below meth c H locs cells slots Q (F0 m pc ls (.ref (g.2.2 k) :: rest)) :=
  va_alen hM.x hM.b hM.K hw.1 k t (by rw [wl_get g κ hk, hsh]) ht hn hdg kk
-- rows of objects
theorem k_ald7 {i : Int32} (hM : Mc g p s m args meth c cc nL own) (hw : Ws g s κ H locs) (h : kd k = 1) (hin : vp_in i 3) (hdg : decode cc pc = .ok (.aaload, 1))
    (kk : W p l e R s m args below meth c H locs cells slots Q (F0 m (pc + 1) ls (.ref (g.2.2 (k + 4 + i.toNatClampNeg)) :: rest))) : W p l e R s m args below meth c H locs cells slots Q (F0 m pc ls (.int i :: .ref (g.2.2 (k + 1)) :: rest)) :=
  va_aldq hM.x hM.b hM.K hw.1 (k + 1) 2 (by rw [wl_get g κ (kd_lt (kd1_7 h) (by decide)), sh7 (kd1_7 h)]) rfl hin hdg (by
    show W p l e R s m args below meth c H locs cells slots Q (F0 m (pc + 1) ls (.ref (g.2.2 (k + 1 + 3 + i.toNatClampNeg)) :: rest))
    rw [show k + 1 + 3 + i.toNatClampNeg = k + 4 + i.toNatClampNeg by omega]; exact kk)
theorem k_ald8 {i : Int32} (hM : Mc g p s m args meth c cc nL own) (hw : Ws g s κ H locs) (h : kd k = 1) (hin : vp_in i 6) (hdg : decode cc pc = .ok (.aaload, 1))
    (kk : W p l e R s m args below meth c H locs cells slots Q (F0 m (pc + 1) ls (.ref (g.2.2 (k + 7 + i.toNatClampNeg)) :: rest))) : W p l e R s m args below meth c H locs cells slots Q (F0 m pc ls (.int i :: .ref (g.2.2 (k + 2)) :: rest)) :=
  va_aldq hM.x hM.b hM.K hw.1 (k + 2) 3 (by rw [wl_get g κ (kd_lt (kd1_8 h) (by decide)), sh8 (kd1_8 h)]) rfl hin hdg (by
    show W p l e R s m args below meth c H locs cells slots Q (F0 m (pc + 1) ls (.ref (g.2.2 (k + 2 + 5 + i.toNatClampNeg)) :: rest))
    rw [show k + 2 + 5 + i.toNatClampNeg = k + 7 + i.toNatClampNeg by omega]; exact kk)
theorem k_ald9 {i : Int32} (hM : Mc g p s m args meth c cc nL own) (hw : Ws g s κ H locs) (h : kd k = 1) (hin : vp_in i 16) (hdg : decode cc pc = .ok (.aaload, 1))
    (kk : W p l e R s m args below meth c H locs cells slots Q (F0 m (pc + 1) ls (.ref (g.2.2 (k + 13 + 2 * i.toNatClampNeg)) :: rest))) : W p l e R s m args below meth c H locs cells slots Q (F0 m pc ls (.int i :: .ref (g.2.2 (k + 3)) :: rest)) :=
  va_aldq hM.x hM.b hM.K hw.1 (k + 3) 4 (by rw [wl_get g κ (kd_lt (kd1_9 h) (by decide)), sh9 (kd1_9 h)]) rfl hin hdg (by
    show W p l e R s m args below meth c H locs cells slots Q (F0 m (pc + 1) ls (.ref (g.2.2 (k + 3 + 10 + 2 * i.toNatClampNeg)) :: rest))
    rw [show k + 3 + 10 + 2 * i.toNatClampNeg = k + 13 + 2 * i.toNatClampNeg by omega]; exact kk)
-- the law's row of one long: it holds numbers that came from ints
theorem k_lald (hM : Mc g p s m args meth c cc nL own) (hw : Ws g s κ H locs) (hdg : decode cc pc = .ok (.laload, 1))
    (kk : W p l e R s m args below meth c H locs cells slots Q (F0 m (pc + 1) ls (.long (κ 98 0).toInt64 :: rest))) : W p l e R s m args below meth c H locs cells slots Q (F0 m pc ls (.int 0 :: .ref (g.2.2 98) :: rest)) :=
  va_lald (i := 0) (n := 1) (f := fun j => (κ 98 j).toInt64) hM.x hM.b hM.K hw.1 98 1 (by rw [wl_get g κ (by decide), sh14 kd_98]) rfl (by unfold vp_in; decide) hdg kk
theorem k_last {x : Int32} (hM : Mc g p s m args meth c cc nL own) (hw : Ws g s κ H locs) (hdg : decode cc pc = .ok (.lastore, 1))
    (kk : ∀ (H1 : Heap) (locs1 : List Loc), Ws g s (up2 κ 98 0 x) H1 locs1 → W p l e R s m args below meth c H1 locs1 cells slots Q (F0 m (pc + 1) ls rest)) : W p l e R s m args below meth c H locs cells slots Q (F0 m pc ls (.long x.toInt64 :: .int 0 :: .ref (g.2.2 98) :: rest)) := by
  refine va_last (i := 0) (n := 1) (f := fun j => (κ 98 j).toInt64) hM.x hM.b hM.K hw.1 (wl_D hM.I κ s.heap.size) hw.2 98 1 (by rw [wl_get g κ (by decide), sh14 kd_98]) rfl (by unfold vp_in; decide) hdg (fun H1 locs1 hP hD hS => kk H1 locs1 ⟨?_, hS⟩)
  have e1 : (vp_updL (fun j => (κ 98 j).toInt64) (0 : Int32).toNatClampNeg x.toInt64) = fun j => (va_up (κ 98) 0 x j).toInt64 := by
    funext j
    show (if j = 0 then _ else _) = (if j = 0 then _ else _ : Int32).toInt64
    by_cases hj : j = 0 <;> simp [hj]
  rw [e1, ← sh14 (c := g.2.1) (ad := g.2.2) kd_98, wl_set] at hP
  exact hP
end KR2
section KX
variable {l : Launch}
/-- a method's entry -/
theorem k_enter {y : MethodName} {rm : Room} {g : Gt} {κ : Kp} {sz : Nat} {av : List Value} {Qc : Array Value → State → Outcome → State → Prop} {mc ms maxL : Nat} {cc : ByteArray} {ret : Option FieldType} (hy : plainName y.cls = true) (hlen : (lg_sl av).length ≤ maxL)
    (body : ∀ (p : Program) (e : Env) (s : State) (m : MethodId) (below : List Frame) (meth : Method) (c : Code) (ls : Array Slot), Mc g p s m av.toArray meth c cc maxL y.cls → meth.sig.returnType = ret → lv_has ls maxL (lv_args 0 av) → Ws g s κ s.heap [] → s.heap.size = sz →
      W p l e rm s m av.toArray below meth c s.heap [] 0 0 (MQ below Qc av.toArray s mc ms (fr g s.heap.size)) (F0 m 0 ls [])) : Met l y (Cond.code y cc maxL ret :: uW) rm (PRE g κ sz av) Qc mc ms (fr g sz) := by
  refine Met.ofW (cc := cc) (maxL := maxL) (ret := ret) hy rfl ?_
  intro p e s m args below meth c s₁ B hml hv
  obtain ⟨rfl, rfl, hP, hE⟩ := hv
  have hts := atoms_spec (ws := Cond.code y cc maxL ret :: uW) B.pre
  have hl := lv_entry av (n := maxL) hlen
  rw [lg_entry_eq]
  generalize (lg_sl av ++ List.replicate (maxL - (lg_sl av).length) Slot.unset).toArray = ls at hl ⊢
  exact body p e s m below meth c ls ⟨⟨B.exec, B.bytes, hml, findClass_of_methodNamed B.named, fun w h => hts w (List.mem_cons_of_mem _ h)⟩, hE, B.notSynchronized⟩ B.returns hl ⟨hP, va_S.rf⟩ rfl
end KX
section KE
variable {p : Program} {l : Launch} {e : Env} {R : Room} {s : State} {m : MethodId} {args : Array Value} {below : List Frame} {meth : Method} {c : Code} {H : Heap} {locs : List Loc} {cells slots mc ms : Nat}
variable {cc : ByteArray} {pc nL : Nat} {ls : Array Slot} {g : Gt} {κ : Kp} {own : String}
theorem k_iret {v : Int32} {post : Int32 → Kp → Prop} (hM : Mc g p s m args meth c cc nL own) (hr : meth.sig.returnType = some .int) (hw : Ws g s κ H locs) (hc : cells ≤ mc) (hs : slots ≤ ms) (hp : post v κ) (hdg : decode cc pc = .ok (.ireturn, 1)) :
    W p l e R s m args below meth c H locs cells slots (MQ below (va_Qi post (Wp g) (fr g s.heap.size)) args s mc ms (fr g s.heap.size)) (F0 m pc ls [.int v]) :=
  W.widen hc hs (W.iret hM.x hM.b hr (fun t ht hW => ⟨⟨v, κ, rfl, hp, by show va_P _ _ _ t.heap; rw [ht]; exact hw.1⟩, hw.2.F ht⟩) hw.2.2.2 hdg hM.2.2)
theorem k_zret {b : Bool} {post : Int32 → Kp → Prop} (hM : Mc g p s m args meth c cc nL own) (hr : meth.sig.returnType = some .boolean) (hw : Ws g s κ H locs) (hc : cells ≤ mc) (hs : slots ≤ ms) (hp : post (bi b) κ) (hdg : decode cc pc = .ok (.ireturn, 1)) :
    W p l e R s m args below meth c H locs cells slots (MQ below (va_Qi post (Wp g) (fr g s.heap.size)) args s mc ms (fr g s.heap.size)) (F0 m pc ls [.int (bi b)]) :=
  W.widen hc hs (W.zret hM.x hM.b hr (bi_narrow b) (fun t ht hW => ⟨⟨bi b, κ, rfl, hp, by show va_P _ _ _ t.heap; rw [ht]; exact hw.1⟩, hw.2.F ht⟩) hw.2.2.2 hdg hM.2.2)
theorem k_vret {post : Kp → Prop} (hM : Mc g p s m args meth c cc nL own) (hr : meth.sig.returnType = none) (hw : Ws g s κ H locs) (hc : cells ≤ mc) (hs : slots ≤ ms) (hp : post κ) (hdg : decode cc pc = .ok (.return_, 1)) :
    W p l e R s m args below meth c H locs cells slots (MQ below (va_Qv post (Wp g) (fr g s.heap.size)) args s mc ms (fr g s.heap.size)) (F0 m pc ls []) :=
  W.widen hc hs (W.vret hM.x hM.b hr (fun t ht hW => ⟨⟨κ, rfl, hp, by show va_P _ _ _ t.heap; rw [ht]; exact hw.1⟩, hw.2.F ht⟩) hw.2.2.2 hdg hM.2.2)
theorem k_lret {v : Int64} {post : Int64 → Kp → Prop} (hM : Mc g p s m args meth c cc nL own) (hr : meth.sig.returnType = some .long) (hw : Ws g s κ H locs) (hc : cells ≤ mc) (hs : slots ≤ ms) (hp : post v κ) (hdg : decode cc pc = .ok (.lreturn, 1)) :
    W p l e R s m args below meth c H locs cells slots (MQ below (va_Ql post (Wp g) (fr g s.heap.size)) args s mc ms (fr g s.heap.size)) (F0 m pc ls [.long v]) :=
  W.widen hc hs (W.lret hM.x hM.b hr (fun t ht hW => ⟨⟨v, κ, rfl, hp, by show va_P _ _ _ t.heap; rw [ht]; exact hw.1⟩, hw.2.F ht⟩) hw.2.2.2 hdg hM.2.2)
/-- an answer that is one of the cells, or null -/
theorem k_eret {v : Option Nat} {rt : String} {post : Option Nat → Kp → Prop} (hM : Mc g p s m args meth c cc nL own) (hr : meth.sig.returnType = some (.object rt)) (hw : Ws g s κ H locs) (hc : cells ≤ mc) (hs : slots ≤ ms) (hp : post v κ) (hdg : decode cc pc = .ok (.areturn, 1)) :
    W p l e R s m args below meth c H locs cells slots (MQ below (va_Qe g.2.2 post (Wp g) (fr g s.heap.size)) args s mc ms (fr g s.heap.size)) (F0 m pc ls [va_re g.2.2 v]) :=
  W.widen hc hs (W.aret hM.x hM.b hr (Or.inl ⟨_, rfl⟩) (va_re_or _ _) (fun t ht hW => ⟨⟨v, κ, rfl, hp, by show va_P _ _ _ t.heap; rw [ht]; exact hw.1⟩, hw.2.F ht⟩) hw.2.2.2 hdg hM.2.2)
end KE
