theorem vin_lit {x : Int32} {n : Nat} (h : ¬ (x < 0 ∨ n ≤ x.toNatClampNeg)) : vp_in x n := h
theorem vp_self {x : Int32} {n : Nat} (h : vp_in x n) (hn : n < 2 ^ 31) : x = nI x.toNatClampNeg := by
  obtain ⟨j, hj, rfl⟩ := vp_in_of h hn
  rw [nI_clamp (by omega)]
def cp (κ : Kp) (s d : Nat) : Kp := va_up κ d (fun j => if j < 165 then κ s j else κ d j)
section KCP
variable {p : Program} {l : Launch} {e : Env} {R : Room} {s : State} {m : MethodId} {args : Array Value} {below : List Frame} {meth : Method} {c : Code} {H : Heap} {locs : List Loc} {cells slots : Nat} {Q : State → Prop}
variable {cc : ByteArray} {pc nL : Nat} {ls : Array Slot} {rest : List Value} {g : Gt} {κ : Kp} {own : String} {idx k k2 : Nat}
theorem k_copy (hM : Mc g p s m args meth c cc nL own) (hw : Ws g s κ H locs) (h : kd k = 13) (h2 : kd k2 = 13) (hls : ls.size = nL) (hframes : 1 ≤ R.frames) (hlocals : (rest.map fun v => v.category).sum + (nativeFrameWords "java/lang/System" "arraycopy" 5 + 11) ≤ R.locals) (hlink : Cond.methodLink own idx arraycopyName ∈ uW) (hdg : decode cc pc = .ok (.invokestatic idx, 3))
    (kk : ∀ (H1 : Heap) (locs1 : List Loc), Ws g s (cp κ k k2) H1 locs1 → W p l e R s m args below meth c H1 locs1 cells slots Q (F0 m (pc + 3) ls rest)) : W p l e R s m args below meth c H locs cells slots Q (F0 m pc ls (.int 165 :: .int 0 :: .ref (g.2.2 k2) :: .int 0 :: .ref (g.2.2 k) :: rest)) := by
  refine va_copyi (f := κ k) (g := κ k2) (n0 := 165) (n1 := 165) (ty := .int) hM.x hM.b (hM.ml.trans hls.symm) hM.ow (hM.ts _ hlink) (hM.ts _ u_na_JY_arraycopy) (hM.ts _ u_st_JY_arraycopy) (hM.ts _ u_ini_JY) hM.K hw.1 (wl_D hM.I κ s.heap.size) hw.2 k k2 0 0 (by rw [wl_get g κ (kd_lt h (by decide)), sh13 h]) (by rw [wl_get g κ (kd_lt h2 (by decide)), sh13 h2]) rfl rfl rfl (by decide) (by decide) (by decide) (by decide) (by decide) (fun i _ => rfl) hframes hlocals hdg (fun H1 locs1 hP hD hS => kk H1 locs1 ⟨?_, hS⟩)
  have e1 : va_cpy (κ k) (κ k2) (0 : Int32).toNatClampNeg (0 : Int32).toNatClampNeg (165 : Int32).toNatClampNeg = fun j => if j < 165 then κ k j else κ k2 j := by
    funext j
    show (if 0 ≤ j ∧ j < 0 + 165 then κ k (0 + (j - 0)) else κ k2 j) = _
    by_cases hj : j < 165
    · rw [if_pos ⟨Nat.zero_le _, by omega⟩, if_pos hj]; simp
    · rw [if_neg (by omega), if_neg hj]
  rw [e1, ← sh13 (c := g.2.1) (ad := g.2.2) h2, wl_set] at hP
  exact hP
theorem k_get5v (j : Nat) {v : Int32} (hM : Mc g p s m args meth c cc nL own) (hw : Ws g s κ H locs) (hj : j < 5) (hlink : Cond.fieldLink own idx (TX5 j).1 (TX5 j).2.1 (TX5 j).2.2.1 ∈ uW) (hv : κ 91 j = v) (hdg : decode cc pc = .ok (.getfield idx, 3))
    (kk : W p l e R s m args below meth c H locs cells slots Q (F0 m (pc + 3) ls (.int v :: rest))) : W p l e R s m args below meth c H locs cells slots Q (F0 m pc ls (.ref (g.2.2 91) :: rest)) :=
  k_get5 j hM hw hj hlink hdg (by rw [hv]; exact kk)
end KCP
-- places in the reference's row
theorem ixn_fi {i w : Nat} : (1 + 2 * nI i + nI w : Int32) = nI (1 + 2 * i + w) := by
  show nI 1 + nI 2 * nI i + nI w = _
  rw [pk_mul, nI_add, nI_add]
theorem ixn_sp {i w : Nat} : (7 + 5 * nI i + nI w : Int32) = nI (7 + 5 * i + w) := by
  show nI 7 + nI 5 * nI i + nI w = _
  rw [pk_mul, nI_add, nI_add]
theorem ixn_ro {i w : Nat} : (37 + 8 * nI i + nI w : Int32) = nI (37 + 8 * i + w) := by
  show nI 37 + nI 8 * nI i + nI w = _
  rw [pk_mul, nI_add, nI_add]
theorem ix_fi {a b : Int32} (ha : vp_in a 3) (hb : vp_in b 2) : vp_in (1 + 2 * a + b) 165 := by
  obtain ⟨i, hi, rfl⟩ := vp_in_of ha (by decide)
  obtain ⟨w, hw, rfl⟩ := vp_in_of hb (by decide)
  rw [ixn_fi]
  exact vp_in_nI (by omega) (by decide)
theorem ix_sp {a b : Int32} (ha : vp_in a 6) (hb : vp_in b 5) : vp_in (7 + 5 * a + b) 165 := by
  obtain ⟨i, hi, rfl⟩ := vp_in_of ha (by decide)
  obtain ⟨w, hw, rfl⟩ := vp_in_of hb (by decide)
  rw [ixn_sp]
  exact vp_in_nI (by omega) (by decide)
theorem ix_ro {a b : Int32} (ha : vp_in a 16) (hb : vp_in b 8) : vp_in (37 + 8 * a + b) 165 := by
  obtain ⟨i, hi, rfl⟩ := vp_in_of ha (by decide)
  obtain ⟨w, hw, rfl⟩ := vp_in_of hb (by decide)
  rw [ixn_ro]
  exact vp_in_nI (by omega) (by decide)
theorem ix_rem4 {b : Int32} (hb : vp_in b 8) : vp_in (4 + (b - b / 4 * 4)) 8 := by
  obtain ⟨w, hw, rfl⟩ := vp_in_of hb (by decide)
  have h : (nI w - nI w / 4 * 4 : Int32) = nI (w % 4) := pk_rem (a := w) (d := 4) (by omega) (by decide) (by decide)
  rw [h]
  show vp_in (nI 4 + nI (w % 4)) 8
  rw [nI_add]
  exact vp_in_nI (by omega) (by decide)
theorem in_mono {x : Int32} {n N : Nat} (h : vp_in x n) (hn : n ≤ N) : vp_in x N := fun q => h (q.elim Or.inl (fun q => Or.inr (by omega)))
theorem in_add {x : Int32} {n N : Nat} (c : Nat) (h : vp_in x n) (hn : n + c ≤ N) (hN : N < 2 ^ 31) : vp_in (x + nI c) N := by
  obtain ⟨w, hw, rfl⟩ := vp_in_of h (by omega)
  rw [nI_add]
  exact vp_in_nI (by omega) hN
theorem in_add4 {x : Int32} (h : vp_in x 4) : vp_in (4 + x) 8 := by
  obtain ⟨w, hw, rfl⟩ := vp_in_of h (by decide)
  show vp_in (nI 4 + nI w) 8
  rw [nI_add]
  exact vp_in_nI (by omega) (by decide)
theorem in_pred {x : Int32} {n : Nat} (h : vp_in x (n + 1)) (hn : n < 2 ^ 30) (h0 : ¬ x = 0) : vp_in (x - 1) n := by
  obtain ⟨w, hw, rfl⟩ := vp_in_of h (by omega)
  cases w with
  | zero => exact absurd rfl h0
  | succ w => rw [nI_pred]; exact vp_in_nI (by omega) (by omega)
theorem in_pred2 {x : Int32} {n : Nat} (h : vp_in x (n + 1)) (hn : n < 2 ^ 30) (h0 : 0 ≤ x - 1) : vp_in (x - 1) n := in_pred h hn (by rintro rfl; exact absurd h0 (by decide))
theorem in_pred3 {x : Int32} {n : Nat} (h : vp_in x (n + 1)) (hn : n < 2 ^ 30) (h0 : ¬ x - 1 < 0) : vp_in (x - 1) n := in_pred h hn (by rintro rfl; exact h0 (by decide))
theorem in_last {x : Int32} {n : Nat} (h : vp_in x (n + 1)) (hn : n < 2 ^ 30) (h0 : ¬ x = nI n) : vp_in x n := by
  obtain ⟨w, hw, rfl⟩ := vp_in_of h (by omega)
  refine vp_in_nI ?_ (by omega)
  rcases Nat.lt_or_ge w n with q | q
  · exact q
  · exact absurd (by rw [show w = n by omega]) h0
theorem in_le {x : Int32} {n : Nat} (h : vp_in x (n + 1)) (hn : n < 2 ^ 30) : x ≤ nI n := by
  obtain ⟨w, hw, rfl⟩ := vp_in_of h (by omega)
  exact nI_le (by omega) (by omega)
/-- what the reference's rows must keep, so that its places stay inside: counts, places, feet, who hangs where, sides -/
def MIr (κ : Kp) (x : Nat → Int32) : Prop := vp_in (κ 91 1) 4 ∧ vp_in (κ 91 2) 7 ∧ vp_in (κ 91 3) 17 ∧ (∀ i, i < 6 → vp_in (κ 92 i) 3) ∧ (∀ i, i < 6 → ¬ κ 91 2 ≤ nI i → ¬ x (7 + 5 * i) = 0) ∧ (∀ i, i < 6 → vp_in (x (7 + 5 * i + 2)) 17) ∧ (∀ i, i < 16 → vp_in (x (37 + 8 * i + 1)) 4)
def MI (κ : Kp) : Prop := MIr κ (κ 96)
theorem MI_eq {κ κ' : Kp} (e : κ = κ') (h : MI κ) : MI κ' := e ▸ h
theorem MI_fe4 {κ : Kp} {v : Int32} (h : MI κ) : MI (up2 κ 91 4 v) := h
theorem MI_th {κ κ' : Kp} {v : Int32} (e : up2 κ 91 0 v = κ') (h : MI κ) : MI κ' := by rw [← e]; exact h
theorem MI_94 {κ : Kp} {j : Nat} {v : Int32} (h : MI κ) : MI (up2 κ 94 j v) := h
theorem MI_95 {κ : Kp} {j : Nat} {v : Int32} (h : MI κ) : MI (up2 κ 95 j v) := h
theorem MI_93 {κ : Kp} {j : Nat} {v : Int32} (h : MI κ) : MI (up2 κ 93 j v) := h
theorem MI_97 {κ : Kp} {r : Nat → Int32} (h : MI κ) : MI (va_up κ 97 r) := h
/-- a place of the row that is no foot, no holder, no side -/
theorem MI_96 {κ : Kp} {x : Nat} {v : Int32} (h : MI κ) (h1 : ∀ i, i < 6 → x ≠ 7 + 5 * i ∧ x ≠ 7 + 5 * i + 2) (h2 : ∀ i, i < 16 → x ≠ 37 + 8 * i + 1) : MI (up2 κ 96 x v) := by
  obtain ⟨a, b, c, d, f, o, q⟩ := h
  refine ⟨a, b, c, d, fun i hi => ?_, fun i hi => ?_, fun i hi => ?_⟩
  · intro hs
    rw [up2_ne κ v (Or.inr (Ne.symm (h1 i hi).1))]
    exact f i hi hs
  · rw [up2_ne κ v (Or.inr (Ne.symm (h1 i hi).2))]
    exact o i hi
  · rw [up2_ne κ v (Or.inr (Ne.symm (h2 i hi)))]
    exact q i hi
