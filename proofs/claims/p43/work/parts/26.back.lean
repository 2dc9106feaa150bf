section BACK
variable {s : State} {H : Heap} {locs : List Loc} {A : Nat → Prop} {D : va_G} {cA : Nat → ClassId} {L L' T : List Nat} {ad ad' : Nat → Nat} {κ : Kp} {k n nf ns nr : Nat}
theorem Lm.add (h : Lm L ad nf ns nr T) (hX : AdX ad ad' k n) (hk : 136 ≤ k) (h164 : k < 164) : Lm (L ++ [k]) ad' nf ns nr (T ++ [k]) := by
  obtain ⟨h1, ⟨e1, e2, e3⟩, h3, h4⟩ := h
  refine ⟨fun j => ?_, ⟨?_, ?_, ?_⟩, h3, fun j hj => ?_⟩
  · rw [List.mem_append, List.mem_append, List.mem_singleton, h1 j]
    constructor
    · rintro ((q | q | q | q | q) | q)
      · exact Or.inl q
      · exact Or.inr (Or.inl q)
      · exact Or.inr (Or.inr (Or.inl q))
      · exact Or.inr (Or.inr (Or.inr (Or.inl q)))
      · exact Or.inr (Or.inr (Or.inr (Or.inr (Or.inl q))))
      · exact Or.inr (Or.inr (Or.inr (Or.inr (Or.inr q))))
    · rintro (q | q | q | q | q | q)
      · exact Or.inl (Or.inl q)
      · exact Or.inl (Or.inr (Or.inl q))
      · exact Or.inl (Or.inr (Or.inr (Or.inl q)))
      · exact Or.inl (Or.inr (Or.inr (Or.inr (Or.inl q))))
      · exact Or.inl (Or.inr (Or.inr (Or.inr (Or.inr q))))
      · exact Or.inr q
  · rw [hX.1 1092 (by omega) (by omega)]; exact e1
  · rw [hX.1 1093 (by omega) (by omega)]; exact e2
  · rw [hX.1 1094 (by omega) (by omega)]; exact e3
  · rcases List.mem_append.mp hj with q | q
    · exact h4 j q
    · rw [List.mem_singleton] at q
      omega
/-- the cells besides: below 160, and they look up nothing but their own lengths and one another -/
def TD (T : List Nat) (ad : Nat → Nat) : Prop := ∀ j ∈ T, j < 160 ∧ ∀ r x, dep ad j r x → x < 160 ∨ x = 1000 + j
theorem TD.nil : TD [] ad := fun j hj => by cases hj
theorem Lm.no (h : Lm L ad nf ns nr T) (hk : 136 ≤ k) (hT : k ∉ T) : k ∉ L := by
  intro q
  have hb := h.2.2.1
  rcases (h.1 k).mp q with z | z | z | z | z
  · omega
  · omega
  · omega
  · omega
  · exact hT z
theorem TD.no (h : TD T ad) (hk : 160 ≤ k) : k ∉ T := fun q => by
  have := (h k q).1
  omega
theorem Lm.lt (h : Lm L ad nf ns nr T) (hT : ∀ j ∈ T, j < 164) {j : Nat} (hj : j ∈ L) : j < 164 := by
  have hb := h.2.2.1
  rcases (h.1 j).mp hj with z | z | z | z | z
  · omega
  · omega
  · omega
  · omega
  · exact hT j z
/-- nobody looks up a cell from 160 on -/
theorem Lm.depn (h : Lm L ad nf ns nr T) (hT : TD T ad) (hk : 160 ≤ k) (h164 : k < 164) (hkL : k ∉ L) : ∀ j ∈ L, ∀ r x, dep ad j r x → x ≠ k ∧ x ≠ 1000 + k := by
  intro j hj r x hx
  have hjk : j ≠ k := fun z => hkL (z ▸ hj)
  have hb := h.2.2.1
  rcases dep_lm h hj hx with z | z | z | z | z | z
  · omega
  · have := h.lt (fun i hi => by have := (hT i hi).1; omega) hj
    omega
  · omega
  · omega
  · omega
  · have := (hT j z).1
    rcases (hT j z).2 r x hx with y | y
    · omega
    · omega
/-- nor does one of them, but for its length -/
theorem TD.next (h : TD T ad) (hX : AdX ad ad' k n) (hk : 160 ≤ k) (hk164 : k < 164) : TD T ad' := by
  intro j hj
  refine ⟨(h j hj).1, fun r x hx => ?_⟩
  have hj1 := (h j hj).1
  have e : ad' (1000 + j) = ad (1000 + j) := hX.1 _ (by omega) (by omega)
  refine (h j hj).2 r x ?_
  unfold dep at hx ⊢
  rw [e] at hx
  exact hx
theorem Wa.back (hw : Wa A D cA L' ad' s κ H locs) (hsub : ∀ j ∈ L, j ∈ L') (had : ∀ j ∈ L, ad' j = ad j ∧ sh cA ad' j (κ j) = sh cA ad j (κ j)) : va_P D vwCl (wl cA ad L κ) H :=
  wl_at.mpr (fun j hj => by
    have h1 := wl_at.mp hw.1 j (hsub j hj)
    rw [(had j hj).1, (had j hj).2] at h1
    exact h1)
end BACK
section ARET
variable {p : Program} {l : Launch} {e : Env} {R : Room} {s : State} {m : MethodId} {args : Array Value} {below : List Frame} {meth : Method} {c : Code} {H : Heap} {locs : List Loc} {cells slots mc ms : Nat}
variable {cc : ByteArray} {pc nL : Nat} {ls : Array Slot} {A : Nat → Prop} {D : va_G} {cA : Nat → ClassId} {own : String} {S : Type} {B : S → State → Prop} {u : S}
theorem a_iret {v : Int32} {post : Int32 → S → Prop} (hM : Ma A D cA p s m args meth c cc nL own) (hr : meth.sig.returnType = some .int) (hS : va_S A s.heap H locs) (hc : cells ≤ mc) (hs : slots ≤ ms) (hp : post v u) (hB : ∀ t : State, t.heap = H → B u t) (hdg : decode cc pc = .ok (.ireturn, 1)) :
    W p l e R s m args below meth c H locs cells slots (MQ below (va_Qi post B A) args s mc ms A) (F0 m pc ls [.int v]) :=
  W.widen hc hs (W.iret hM.x hM.b hr (fun t ht hW => ⟨⟨v, u, rfl, hp, hB t ht⟩, hS.F ht⟩) hS.2.2 hdg hM.2.2.2)
theorem a_zret {b : Bool} {post : Int32 → S → Prop} (hM : Ma A D cA p s m args meth c cc nL own) (hr : meth.sig.returnType = some .boolean) (hS : va_S A s.heap H locs) (hc : cells ≤ mc) (hs : slots ≤ ms) (hp : post (bi b) u) (hB : ∀ t : State, t.heap = H → B u t) (hdg : decode cc pc = .ok (.ireturn, 1)) :
    W p l e R s m args below meth c H locs cells slots (MQ below (va_Qi post B A) args s mc ms A) (F0 m pc ls [.int (bi b)]) :=
  W.widen hc hs (W.zret hM.x hM.b hr (bi_narrow b) (fun t ht hW => ⟨⟨bi b, u, rfl, hp, hB t ht⟩, hS.F ht⟩) hS.2.2 hdg hM.2.2.2)
theorem a_aret {a : Nat} {rt : FieldType} {post : S → Prop} {B : S → Nat → State → Prop} (hM : Ma A D cA p s m args meth c cc nL own) (hr : meth.sig.returnType = some rt) (hrt : (∃ C, rt = .object C) ∨ ∃ t, rt = .array t) (hS : va_S A s.heap H locs) (hc : cells ≤ mc) (hs : slots ≤ ms) (hp : post u) (hB : ∀ t : State, t.heap = H → B u a t) (hdg : decode cc pc = .ok (.areturn, 1)) :
    W p l e R s m args below meth c H locs cells slots (MQ below (va_Qr post B A) args s mc ms A) (F0 m pc ls [.ref a]) :=
  W.widen hc hs (W.aret hM.x hM.b hr hrt (Or.inr ⟨a, rfl⟩) (fun t ht hW => ⟨⟨u, a, rfl, hp, hB t ht⟩, hS.F ht⟩) hS.2.2 hdg hM.2.2.2)
end ARET
