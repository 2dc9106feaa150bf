/-- an array of ints, made in this method: at a, with the numbers f -/
def Tm (g : Gt) (s : State) (a n : Nat) (f : Nat → Int32) (H : Heap) : Prop := ∃ cA : ClassId, va_K g.1 vwCl [(cA, .int)] s ∧ va_P g.1 vwCl [(a, .inl (cA, n, .inl f))] H ∧ s.heap.size ≤ a ∧ ∀ k, k < 99 → g.2.2 k ≠ a
theorem wl_len (g : Gt) (κ : Kp) : (wl g κ).length = 99 := by simp [wl]
theorem wl_app_l {g : Gt} {κ : Kp} {x : Nat × va_E} {k : Nat} {q : Nat × va_E} (h : (wl g κ)[k]? = some q) : (wl g κ ++ [x])[k]? = some q := by
  rw [List.getElem?_append_left (List.getElem?_eq_some_iff.mp h).1]; exact h
theorem wl_app_r {g : Gt} {κ : Kp} {x : Nat × va_E} : (wl g κ ++ [x])[99]? = some x := by
  rw [List.getElem?_append_right (by rw [wl_len]; exact Nat.le_refl _), wl_len]; rfl
theorem wl_app_set {g : Gt} {κ : Kp} {x y : Nat × va_E} : (wl g κ ++ [x]).set 99 y = wl g κ ++ [y] := by
  rw [List.set_append_right _ _ (by rw [wl_len]; exact Nat.le_refl _), wl_len]; rfl
theorem wl_app_D {g : Gt} {κ : Kp} {sz a : Nat} {e : va_E} (hi : Inj g) (ha : sz ≤ a) (hn : ∀ k, k < 99 → g.2.2 k ≠ a) : va_D (fr g sz) (wl g κ ++ [(a, e)]) := by
  have h0 := wl_D hi κ sz
  have key : ∀ (i : Nat) (p : Nat × va_E), (wl g κ ++ [(a, e)])[i]? = some p → (i < 99 ∧ p.1 = g.2.2 i) ∨ (i = 99 ∧ p.1 = a) := by
    intro i p hp
    by_cases hl : i < 99
    · rw [List.getElem?_append_left (by rw [wl_len]; exact hl)] at hp
      exact Or.inl (wl_lt hp)
    · have hlt := (List.getElem?_eq_some_iff.mp hp).1
      rw [List.length_append, wl_len] at hlt
      have h99 : i = 99 := by simp at hlt; omega
      subst h99
      rw [wl_app_r] at hp
      cases hp
      exact Or.inr ⟨rfl, rfl⟩
  refine ⟨fun i j p q h1 h2 h3 => ?_, fun k q h => ?_⟩
  · rcases key i p h1 with ⟨a1, b1⟩ | ⟨a1, b1⟩
    · rcases key j q h2 with ⟨a2, b2⟩ | ⟨a2, b2⟩
      · exact hi i j a1 a2 (by rw [← b1, ← b2]; exact h3)
      · exact absurd (by rw [← b1, h3, b2]) (hn i a1)
    · rcases key j q h2 with ⟨a2, b2⟩ | ⟨a2, b2⟩
      · exact absurd (by rw [← b2, ← h3, b1]) (hn j a2)
      · omega
  · rcases key k q h with ⟨a1, b1⟩ | ⟨a1, b1⟩
    · exact Or.inl ⟨k, a1, b1⟩
    · exact Or.inr (by rw [b1]; exact ha)
section KTM
variable {p : Program} {l : Launch} {e : Env} {R : Room} {s : State} {m : MethodId} {args : Array Value} {below : List Frame} {meth : Method} {c : Code} {H : Heap} {locs : List Loc} {cells slots : Nat} {Q : State → Prop}
variable {cc : ByteArray} {pc nL mc ms n a : Nat} {ls : Array Slot} {rest st0 : List Value} {g : Gt} {κ : Kp} {own : String} {f : Nat → Int32} {arr : Array Value}
theorem k_newT {v : Int32} (hM : Mc g p s m args meth c cc nL own) (hw : Ws g s κ H locs) (hn : ¬ v < 0) (hN : v.toNatClampNeg = n) (hbytes : n * componentBytes .int ≤ 536870912) (hcells : cells + 1 ≤ R.cells) (hslots : slots + n ≤ R.slots) (hdg : decode cc pc = .ok (.newarray .int, 2))
    (kk : ∀ (a : Nat) (H1 : Heap), Ws g s κ H1 locs → Tm g s a n (fun _ => 0) H1 → W p l e R s m args below meth c H1 locs (cells + 1) (slots + n) Q (F0 m (pc + 2) ls (.ref a :: rest))) : W p l e R s m args below meth c H locs cells slots Q (F0 m pc ls (.int v :: rest)) := by
  refine va_newa (atype := .int) (ty := .int) (a0 := (n, .inl (fun _ => 0))) hM.x hM.b (hM.ts _ u_ac_int) rfl hM.K hw.1 (wl_D hM.I κ s.heap.size) hw.2 (fun q hq => Or.inr hq) (fun cA => rfl) hn hN hbytes hcells hslots hdg (fun q cA H1 hK hP hD hS => ?_)
  have hne : ∀ k, k < 99 → g.2.2 k ≠ q := by
    intro k hk h
    have := hD.1 k 99 _ _ (wl_app_l (wl_get g κ hk)) wl_app_r h
    omega
  refine kk q H1 ⟨fun k x hx => hP k x (wl_app_l hx), hS⟩ ⟨cA, ⟨hK.1, fun k x hx => ?_⟩, fun k x hx => ?_, ?_, hne⟩
  · cases k with
    | zero => exact hK.2 5 x hx
    | succ k => cases hx
  · cases k with
    | zero => exact hP 99 x (by rw [wl_app_r]; exact hx)
    | succ k => cases hx
  · rcases hD.2 99 _ wl_app_r with ⟨k, hk, h⟩ | h
    · exact absurd h.symm (hne k hk)
    · exact h
theorem k_tst {x v : Int32} (i : Nat) (hM : Mc g p s m args meth c cc nL own) (hw : Ws g s κ H locs) (ht : Tm g s a n f H) (hv : v = nI i) (hi : i < n) (hn : n < 2 ^ 31) (hdg : decode cc pc = .ok (.iastore, 1))
    (kk : ∀ (H1 : Heap) (locs1 : List Loc), Ws g s κ H1 locs1 → Tm g s a n (va_up f i x) H1 → W p l e R s m args below meth c H1 locs1 cells slots Q (F0 m (pc + 1) ls rest)) : W p l e R s m args below meth c H locs cells slots Q (F0 m pc ls (.int x :: .int v :: .ref a :: rest)) := by
  subst hv
  obtain ⟨cA, hK, hP, ha, hne⟩ := ht
  refine va_iast hM.x hM.b (hM.K.app hK) (hw.1.app hP) (wl_app_D hM.I ha hne) hw.2 99 5 wl_app_r rfl (vp_in_nI hi hn) hdg (fun H1 locs1 hP1 hD1 hS1 => ?_)
  rw [nI_clamp (by omega), wl_app_set] at hP1
  exact kk H1 locs1 ⟨fun k y hy => hP1 k y (wl_app_l hy), hS1⟩ ⟨cA, hK, (fun k y hy => by
    cases k with
    | zero => exact hP1 99 y (by rw [wl_app_r]; exact hy)
    | succ k => cases hy), ha, hne⟩
theorem k_tld {i : Nat} (hM : Mc g p s m args meth c cc nL own) (ht : Tm g s a n f H) (hi : i < n) (hn : n < 2 ^ 31) (hdg : decode cc pc = .ok (.iaload, 1))
    (kk : W p l e R s m args below meth c H locs cells slots Q (F0 m (pc + 1) ls (.int (f i) :: rest))) : W p l e R s m args below meth c H locs cells slots Q (F0 m pc ls (.int (nI i) :: .ref a :: rest)) := by
  obtain ⟨cA, hK, hP, ha, hne⟩ := ht
  exact va_iald hM.x hM.b hK hP 0 0 rfl rfl (vp_in_nI hi hn) hdg (by rw [nI_clamp (by omega)]; exact kk)
theorem k_tlen {v : Int32} (hM : Mc g p s m args meth c cc nL own) (ht : Tm g s a n f H) (hv : Int32.ofNat n = v) (hdg : decode cc pc = .ok (.arraylength, 1))
    (kk : W p l e R s m args below meth c H locs cells slots Q (F0 m (pc + 1) ls (.int v :: rest))) : W p l e R s m args below meth c H locs cells slots Q (F0 m pc ls (.ref a :: rest)) := by
  obtain ⟨cA, hK, hP, ha, hne⟩ := ht
  exact va_alen hM.x hM.b hK hP 0 0 rfl rfl hv hdg kk
theorem k_cipT {v : Int32} (hw : Ws g s κ H locs) (ht : Tm g s a n f H) (hr : va_Run p l e R s m args below meth c H locs cells slots mc ms (F0 m pc ls st0) rest (va_Qi (fun r κ' => r = v ∧ κ' = κ) (Wp g) (fr g H.size) arr) (fr g H.size))
    (kk : ∀ (H1 : Heap) (locs1 : List Loc), Ws g s κ H1 locs1 → Tm g s a n f H1 → W p l e R s m args below meth c H1 locs1 (cells + mc) (slots + ms) Q (F0 m (pc + 3) ls (.int v :: rest))) : W p l e R s m args below meth c H locs cells slots Q (F0 m pc ls st0) := by
  refine va_calli hr hw.2 (fun q _ h => fr_lt hw q h) (fr_lt hw) (fun r u t H1 locs1 h1 hvm hp hB hz hk hS => ?_)
  obtain ⟨rfl, rfl⟩ := hp
  refine kk H1 locs1 ⟨by rw [← h1]; exact hB, hS⟩ ?_
  obtain ⟨cA, hK, hP, ha, hne⟩ := ht
  refine ⟨cA, hK, hP.kept (fun k q hq => ?_), ha, hne⟩
  cases k with
  | zero =>
    cases hq
    have hlt : a < H.size := (hP 0 _ rfl).lt
    refine hk a hlt ?_
    rintro (⟨k, hk2, h⟩ | h)
    · exact hne k hk2 h.symm
    · exact absurd hlt (Nat.not_lt.mpr h)
  | succ k => cases hq
end KTM
