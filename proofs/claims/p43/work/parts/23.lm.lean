section LMX
variable {L : List Nat} {ad : Nat → Nat} {nf ns nr : Nat} {T : List Nat} {cA : Nat → ClassId} {r : Nat → Int32} {i : Nat}
theorem Lm.m91 (h : Lm L ad nf ns nr T) : 91 ∈ L := (h.1 91).mpr (Or.inl (by decide))
theorem Lm.m92 (h : Lm L ad nf ns nr T) : 92 ∈ L := (h.1 92).mpr (Or.inl (by decide))
theorem Lm.m93 (h : Lm L ad nf ns nr T) : 93 ∈ L := (h.1 93).mpr (Or.inl (by decide))
theorem Lm.m94 (h : Lm L ad nf ns nr T) : 94 ∈ L := (h.1 94).mpr (Or.inl (by decide))
theorem Lm.F (h : Lm L ad nf ns nr T) (hi : i < nf) : 95 + i ∈ L := (h.1 _).mpr (Or.inr (Or.inl (by omega)))
theorem Lm.S (h : Lm L ad nf ns nr T) (hi : i < ns) : 98 + i ∈ L := (h.1 _).mpr (Or.inr (Or.inr (Or.inl (by omega))))
theorem Lm.R (h : Lm L ad nf ns nr T) (hi : i < nr) : 104 + 2 * i ∈ L ∧ 104 + 2 * i + 1 ∈ L := ⟨(h.1 _).mpr (Or.inr (Or.inr (Or.inr (Or.inl (by omega))))), (h.1 _).mpr (Or.inr (Or.inr (Or.inr (Or.inl (by omega)))))⟩
theorem Lm.tmp (h : Lm L ad nf ns nr T) (hi : i ∈ T) : i ∈ L := (h.1 _).mpr (Or.inr (Or.inr (Or.inr (Or.inr hi))))
theorem Lm.f3 (h : Lm L ad nf ns nr T) (hi : i < nf) : i < 3 := Nat.lt_of_lt_of_le hi h.2.2.1.1
theorem Lm.s6 (h : Lm L ad nf ns nr T) (hi : i < ns) : i < 6 := Nat.lt_of_lt_of_le hi h.2.2.1.2.1
theorem Lm.r16 (h : Lm L ad nf ns nr T) (hi : i < nr) : i < 16 := Nat.lt_of_lt_of_le hi h.2.2.1.2.2
theorem lsh92 (h : Lm L ad nf ns nr T) : sh cA ad 92 r = .inl (cA 1, nf, Qr (fun i => if i < nf then some (ad (95 + i)) else none)) := by
  rw [sh16 kd_92, show ad (1000 + 92) = nf from h.2.1.1]
theorem lsh93 (h : Lm L ad nf ns nr T) : sh cA ad 93 r = .inl (cA 1, ns, Qr (fun i => if i < ns then some (ad (98 + i)) else none)) := by
  rw [sh17 kd_93, show ad (1000 + 93) = ns from h.2.1.2.1]
theorem lsh94 (h : Lm L ad nf ns nr T) : sh cA ad 94 r = .inl (cA 5, nr, Qr (fun i => if i < nr then some (ad (104 + 2 * i)) else none)) := by
  rw [sh18 kd_94, show ad (1000 + 94) = nr from h.2.1.2.2]
end LMX
section KLN
variable {p : Program} {l : Launch} {e : Env} {R : Room} {s : State} {m : MethodId} {args : Array Value} {below : List Frame} {meth : Method} {c : Code} {H : Heap} {locs : List Loc} {cells slots : Nat} {Q : State → Prop}
variable {cc : ByteArray} {pc nL k : Nat} {ls : Array Slot} {rest : List Value} {A : Nat → Prop} {D : va_G} {cA : Nat → ClassId} {L : List Nat} {ad : Nat → Nat} {κ : Kp} {own : String}
theorem k_aldqN {C : String} {i n t x : Nat} {f : Nat → Option Nat} (hM : Ma A D cA p s m args meth c cc nL own) (hw : Wa A D cA L ad s κ H locs) (hk : k ∈ L) (hsh : sh cA ad k (κ k) = .inl (cA t, n, Qr f)) (ht : (tyl cA)[t]? = some (cA t, .object C)) (hi : i < n) (hn : n < 2 ^ 31) (hf : f i = some x) (hdg : decode cc pc = .ok (.aaload, 1))
    (kk : W p l e R s m args below meth c H locs cells slots Q (F0 m (pc + 1) ls (.ref x :: rest))) : W p l e R s m args below meth c H locs cells slots Q (F0 m pc ls (.int (nI i) :: .ref (ad k) :: rest)) :=
  k_aldq hM hw hk hsh ht (vp_in_nI hi hn) (by rw [nI_clamp (by omega)]; exact hf) hdg kk
theorem k_aldaN {ty : FieldType} {i n t x : Nat} {f : Nat → Option Nat} (hM : Ma A D cA p s m args meth c cc nL own) (hw : Wa A D cA L ad s κ H locs) (hk : k ∈ L) (hsh : sh cA ad k (κ k) = .inl (cA t, n, Qr f)) (ht : (tyl cA)[t]? = some (cA t, .array ty)) (hi : i < n) (hn : n < 2 ^ 31) (hf : f i = some x) (hdg : decode cc pc = .ok (.aaload, 1))
    (kk : W p l e R s m args below meth c H locs cells slots Q (F0 m (pc + 1) ls (.ref x :: rest))) : W p l e R s m args below meth c H locs cells slots Q (F0 m pc ls (.int (nI i) :: .ref (ad k) :: rest)) :=
  k_alda hM hw hk hsh ht (vp_in_nI hi hn) (by rw [nI_clamp (by omega)]; exact hf) hdg kk
end KLN
/-- the places that the law's kitchen keeps are in their ranges -/
def SI (nf ns nr : Nat) (κ : Kp) : Prop := (∀ i, i < ns → vp_in (κ (98 + i) 0) nf ∧ ¬ κ (98 + i) 1 = 0 ∧ (¬ κ (98 + i) 3 < 0 → vp_in (κ (98 + i) 3) nr)) ∧ (∀ j, j < nr → (¬ κ (104 + 2 * j) 1 < 0 → vp_in (κ (104 + 2 * j) 1) ns) ∧ vp_in (κ (104 + 2 * j) 2) 4)
section SIX
variable {nf ns nr : Nat} {κ κ' : Kp}
theorem SI.of (h : SI nf ns nr κ) (h1 : ∀ i, i < ns → κ' (98 + i) 0 = κ (98 + i) 0 ∧ κ' (98 + i) 1 = κ (98 + i) 1 ∧ κ' (98 + i) 3 = κ (98 + i) 3) (h2 : ∀ j, j < nr → κ' (104 + 2 * j) 1 = κ (104 + 2 * j) 1 ∧ κ' (104 + 2 * j) 2 = κ (104 + 2 * j) 2) : SI nf ns nr κ' := by
  refine ⟨fun i hi => ?_, fun j hj => ?_⟩
  · rw [(h1 i hi).1, (h1 i hi).2.1, (h1 i hi).2.2]; exact h.1 i hi
  · rw [(h2 j hj).1, (h2 j hj).2]; exact h.2 j hj
theorem SI.up (h : SI nf ns nr κ) {q f : Nat} {v : Int32} (hns : ns ≤ 6) (hq : q < 98 ∨ 136 ≤ q ∨ (98 ≤ q ∧ q < 104 ∧ (f = 2 ∨ f = 4 ∨ f = 5)) ∨ (104 ≤ q ∧ (q % 2 = 1 ∨ (f ≠ 1 ∧ f ≠ 2)))) (hnr : nr ≤ 16) : SI nf ns nr (up2 κ q f v) :=
  h.of (fun i hi => ⟨up2_ne κ v (by omega), up2_ne κ v (by omega), up2_ne κ v (by omega)⟩) (fun j hj => ⟨up2_ne κ v (by omega), up2_ne κ v (by omega)⟩)
theorem SI.side (h : SI nf ns nr κ) {j : Nat} {v : Int32} (hns : ns ≤ 6) (hnr : nr ≤ 16) (hj : j < nr) (hv : vp_in v 4) : SI nf ns nr (up2 κ (104 + 2 * j) 2 v) := by
  refine ⟨fun i hi => ?_, fun t ht => ?_⟩
  · rw [up2_ne κ v (by omega), up2_ne κ v (by omega), up2_ne κ v (by omega)]; exact h.1 i hi
  · rw [up2_ne κ v (by omega)]
    refine ⟨(h.2 t ht).1, ?_⟩
    by_cases e : t = j
    · subst e
      rw [up2_self]; exact hv
    · rw [up2_ne κ v (by omega)]; exact (h.2 t ht).2
end SIX
theorem vin_lit {x : Int32} {n : Nat} (h : ¬ (x < 0 ∨ n ≤ x.toNatClampNeg)) : vp_in x n := h
theorem vp_self {x : Int32} {n : Nat} (h : vp_in x n) (hn : n < 2 ^ 31) : x = nI x.toNatClampNeg := by
  obtain ⟨j, hj, rfl⟩ := vp_in_of h hn
  rw [nI_clamp (by omega)]
