/-! THE WORLD: 99 cells, all made once: the class's object (0), its two kitchens (1..45, 46..90), the reference (91..97), the law's own row (98). References between them never change; what changes is a number by cell and place: Kp. -/
abbrev Kp : Type := Nat → Nat → Int32
abbrev Gt : Type := va_G × (Nat → ClassId) × (Nat → Nat)
def up2 (κ : Kp) (k j : Nat) (v : Int32) : Kp := va_up κ k (va_up (κ k) j v)
theorem up2_at (κ : Kp) (k j : Nat) (v : Int32) (q i : Nat) : up2 κ k j v q i = if q = k ∧ i = j then v else κ q i := by
  unfold up2 va_up
  by_cases h1 : q = k
  · subst h1
    by_cases h2 : i = j
    · simp [h2]
    · simp [h2]
  · simp [h1]
theorem up2_self (κ : Kp) (k j : Nat) (v : Int32) : up2 κ k j v k j = v := by rw [up2_at]; simp
theorem up2_ne (κ : Kp) {k j : Nat} (v : Int32) {q i : Nat} (h : q ≠ k ∨ i ≠ j) : up2 κ k j v q i = κ q i := by
  rw [up2_at, if_neg]
  rintro ⟨a, b⟩
  rcases h with h | h
  · exact h a
  · exact h b
/-- the kind of a cell: 0 Fire, 1 Kitchen, 2 Roast, 3 Spit, 4 KitchenSpits, 5 the reference, 6.. rows -/
def kdL : List Nat := [4] ++ [1, 7, 8, 9, 0, 0, 0, 3, 3, 3, 3, 3, 3, 2, 6, 2, 6, 2, 6, 2, 6, 2, 6, 2, 6, 2, 6, 2, 6, 2, 6, 2, 6, 2, 6, 2, 6, 2, 6, 2, 6, 2, 6, 2, 6] ++ [1, 7, 8, 9, 0, 0, 0, 3, 3, 3, 3, 3, 3, 2, 6, 2, 6, 2, 6, 2, 6, 2, 6, 2, 6, 2, 6, 2, 6, 2, 6, 2, 6, 2, 6, 2, 6, 2, 6, 2, 6, 2, 6, 2, 6] ++ [5, 10, 11, 11, 12, 13, 13, 14]
def kd (k : Nat) : Nat := kdL.getD k 99
theorem kd_lt {k n : Nat} (h : kd k = n) (hn : n < 15) : k < 99 := by
  rcases Nat.lt_or_ge k 99 with q | q
  · exact q
  · have : kd k = 99 := by
      unfold kd
      rw [List.getD_eq_getElem?_getD, List.getElem?_eq_none (by simpa [kdL] using q)]
      rfl
    omega
/-- what a cell holds, by its kind: its numbers r, and the other cells by their addresses -/
def sh (c : Nat → ClassId) (ad : Nat → Nat) (k : Nat) (r : Nat → Int32) : va_E := match kd k with
  | 0 => .inr (0, [.int (r 0), .int (r 1), .int (r 2)])
  | 1 => .inr (1, [.ref (ad (k + 1)), .ref (ad (k + 2)), .ref (ad (k + 3)), .int (r 3), .int (r 4), .int (r 5), .int (r 6), .int (r 7)])
  | 2 => .inr (2, [.ref (ad (k + 1)), .int (r 1), .int (r 2), .int (r 3), .int (r 4), .int (r 5)])
  | 3 => .inr (3, [.int (r 0), .int (r 1), .int (r 2), .int (r 3), .int (r 4), .int (r 5)])
  | 4 => .inr (4, [.ref (ad (k + 1)), .ref (ad (k + 46))])
  | 5 => .inr (5, [.int (r 0), .int (r 1), .int (r 2), .int (r 3), .int (r 4), .ref (ad (k + 1)), .ref (ad (k + 2)), .ref (ad (k + 3)), .ref (ad (k + 4)), .ref (ad (k + 5)), .ref (ad (k + 6))])
  | 6 => .inl (c 0, 4, .inl r)
  | 7 => .inl (c 2, 3, .inr (.inr (.inr (.inr (fun i => some (ad (k + 3 + i)))))))
  | 8 => .inl (c 3, 6, .inr (.inr (.inr (.inr (fun i => some (ad (k + 5 + i)))))))
  | 9 => .inl (c 4, 16, .inr (.inr (.inr (.inr (fun i => some (ad (k + 10 + 2 * i)))))))
  | 10 => .inl (c 0, 6, .inl r)
  | 11 => .inl (c 0, 16, .inl r)
  | 12 => .inl (c 0, 3, .inl r)
  | 13 => .inl (c 0, 165, .inl r)
  | _ => .inl (c 1, 1, .inr (.inl (fun j => (r j).toInt64)))
section SH
variable {c : Nat → ClassId} {ad : Nat → Nat} {k : Nat} {r : Nat → Int32}
theorem sh0 (h : kd k = 0) : sh c ad k r = .inr (0, [.int (r 0), .int (r 1), .int (r 2)]) := by unfold sh; rw [h]; rfl
theorem sh1 (h : kd k = 1) : sh c ad k r = .inr (1, [.ref (ad (k + 1)), .ref (ad (k + 2)), .ref (ad (k + 3)), .int (r 3), .int (r 4), .int (r 5), .int (r 6), .int (r 7)]) := by unfold sh; rw [h]; rfl
theorem sh2 (h : kd k = 2) : sh c ad k r = .inr (2, [.ref (ad (k + 1)), .int (r 1), .int (r 2), .int (r 3), .int (r 4), .int (r 5)]) := by unfold sh; rw [h]; rfl
theorem sh3 (h : kd k = 3) : sh c ad k r = .inr (3, [.int (r 0), .int (r 1), .int (r 2), .int (r 3), .int (r 4), .int (r 5)]) := by unfold sh; rw [h]; rfl
theorem sh4 (h : kd k = 4) : sh c ad k r = .inr (4, [.ref (ad (k + 1)), .ref (ad (k + 46))]) := by unfold sh; rw [h]; rfl
theorem sh5 (h : kd k = 5) : sh c ad k r = .inr (5, [.int (r 0), .int (r 1), .int (r 2), .int (r 3), .int (r 4), .ref (ad (k + 1)), .ref (ad (k + 2)), .ref (ad (k + 3)), .ref (ad (k + 4)), .ref (ad (k + 5)), .ref (ad (k + 6))]) := by unfold sh; rw [h]; rfl
theorem sh6 (h : kd k = 6) : sh c ad k r = .inl (c 0, 4, .inl r) := by unfold sh; rw [h]; rfl
theorem sh7 (h : kd k = 7) : sh c ad k r = .inl (c 2, 3, .inr (.inr (.inr (.inr (fun i => some (ad (k + 3 + i))))))) := by unfold sh; rw [h]; rfl
theorem sh8 (h : kd k = 8) : sh c ad k r = .inl (c 3, 6, .inr (.inr (.inr (.inr (fun i => some (ad (k + 5 + i))))))) := by unfold sh; rw [h]; rfl
theorem sh9 (h : kd k = 9) : sh c ad k r = .inl (c 4, 16, .inr (.inr (.inr (.inr (fun i => some (ad (k + 10 + 2 * i))))))) := by unfold sh; rw [h]; rfl
theorem sh10 (h : kd k = 10) : sh c ad k r = .inl (c 0, 6, .inl r) := by unfold sh; rw [h]; rfl
theorem sh11 (h : kd k = 11) : sh c ad k r = .inl (c 0, 16, .inl r) := by unfold sh; rw [h]; rfl
theorem sh12 (h : kd k = 12) : sh c ad k r = .inl (c 0, 3, .inl r) := by unfold sh; rw [h]; rfl
theorem sh13 (h : kd k = 13) : sh c ad k r = .inl (c 0, 165, .inl r) := by unfold sh; rw [h]; rfl
theorem sh14 (h : kd k = 14) : sh c ad k r = .inl (c 1, 1, .inr (.inl (fun j => (r j).toInt64))) := by unfold sh; rw [h]; rfl
end SH
/-- the kinds of a kitchen's parts -/
theorem kd_kit : ∀ k, k < 99 → kd k = 1 → kd (k + 1) = 7 ∧ kd (k + 2) = 8 ∧ kd (k + 3) = 9 ∧ (∀ i, i < 3 → kd (k + 4 + i) = 0) ∧ (∀ i, i < 6 → kd (k + 7 + i) = 3) ∧ (∀ i, i < 16 → kd (k + 13 + 2 * i) = 2) ∧ (k = 1 ∨ k = 46) := by decide +kernel
theorem kd_roast : ∀ k, k < 99 → kd k = 2 → kd (k + 1) = 6 := by decide +kernel
section KD
variable {k i : Nat}
theorem kd1_7 (h : kd k = 1) : kd (k + 1) = 7 := (kd_kit k (kd_lt h (by decide)) h).1
theorem kd1_8 (h : kd k = 1) : kd (k + 2) = 8 := (kd_kit k (kd_lt h (by decide)) h).2.1
theorem kd1_9 (h : kd k = 1) : kd (k + 3) = 9 := (kd_kit k (kd_lt h (by decide)) h).2.2.1
theorem kd1_0 (h : kd k = 1) (hi : i < 3) : kd (k + 4 + i) = 0 := (kd_kit k (kd_lt h (by decide)) h).2.2.2.1 i hi
theorem kd1_3 (h : kd k = 1) (hi : i < 6) : kd (k + 7 + i) = 3 := (kd_kit k (kd_lt h (by decide)) h).2.2.2.2.1 i hi
theorem kd1_2 (h : kd k = 1) (hi : i < 16) : kd (k + 13 + 2 * i) = 2 := (kd_kit k (kd_lt h (by decide)) h).2.2.2.2.2.1 i hi
theorem kd1_or (h : kd k = 1) : k = 1 ∨ k = 46 := (kd_kit k (kd_lt h (by decide)) h).2.2.2.2.2.2
theorem kd2_6 (h : kd k = 2) : kd (k + 1) = 6 := kd_roast k (kd_lt h (by decide)) h
end KD
theorem kd_0 : kd 0 = 4 := by decide
theorem kd_1 : kd 1 = 1 := by decide
theorem kd_46 : kd 46 = 1 := by decide
theorem kd_91 : kd 91 = 5 := by decide
theorem kd_92 : kd 92 = 10 := by decide
theorem kd_93 : kd 93 = 11 := by decide
theorem kd_94 : kd 94 = 11 := by decide
theorem kd_95 : kd 95 = 12 := by decide
theorem kd_96 : kd 96 = 13 := by decide
theorem kd_97 : kd 97 = 13 := by decide
theorem kd_98 : kd 98 = 14 := by decide
def wl (g : Gt) (κ : Kp) : va_W := (List.range 99).map fun k => (g.2.2 k, sh g.2.1 g.2.2 k (κ k))
theorem wl_get (g : Gt) (κ : Kp) {k : Nat} (h : k < 99) : (wl g κ)[k]? = some (g.2.2 k, sh g.2.1 g.2.2 k (κ k)) := by
  simp only [wl, List.getElem?_map, List.getElem?_range h]; rfl
theorem wl_set (g : Gt) (κ : Kp) (k : Nat) (r : Nat → Int32) : (wl g κ).set k (g.2.2 k, sh g.2.1 g.2.2 k r) = wl g (va_up κ k r) := by
  apply List.ext_getElem?
  intro j
  by_cases hj : j = k
  · subst hj
    by_cases hl : j < 99
    · rw [List.getElem?_set_self (by simpa [wl] using hl), wl_get g _ hl, va_up_self]
    · rw [List.getElem?_eq_none (by simp [wl]; omega), List.getElem?_eq_none (by simp [wl]; omega)]
  · rw [List.getElem?_set_ne (Ne.symm hj)]
    by_cases hl : j < 99
    · rw [wl_get g _ hl, wl_get g _ hl, va_up_ne _ _ hj]
    · rw [List.getElem?_eq_none (by simp [wl]; omega), List.getElem?_eq_none (by simp [wl]; omega)]
def Inj (g : Gt) : Prop := ∀ i j, i < 99 → j < 99 → g.2.2 i = g.2.2 j → i = j
def fr (g : Gt) (sz : Nat) : Nat → Prop := fun q => (∃ k, k < 99 ∧ q = g.2.2 k) ∨ sz ≤ q
theorem wl_lt {g : Gt} {κ : Kp} {k : Nat} {q : Nat × va_E} (h : (wl g κ)[k]? = some q) : k < 99 ∧ q.1 = g.2.2 k := by
  have h1 := (List.getElem?_eq_some_iff.mp h).1
  have h2 : k < 99 := by simpa [wl] using h1
  rw [wl_get g κ h2] at h
  exact ⟨h2, by rw [← Option.some.inj h]⟩
theorem wl_D {g : Gt} (hi : Inj g) (κ : Kp) (sz : Nat) : va_D (fr g sz) (wl g κ) := by
  refine ⟨fun i j p q h1 h2 e => ?_, fun k q h => ?_⟩
  · obtain ⟨a1, b1⟩ := wl_lt h1
    obtain ⟨a2, b2⟩ := wl_lt h2
    exact hi i j a1 a2 (by rw [← b1, ← b2]; exact e)
  · obtain ⟨a1, b1⟩ := wl_lt h
    exact Or.inl ⟨k, a1, b1⟩
def tyl (c : Nat → ClassId) : List (ClassId × FieldType) := [(c 0, .int), (c 1, .long), (c 2, .object "KitchenSpits$Fire"), (c 3, .object "KitchenSpits$Spit"), (c 4, .object "KitchenSpits$Roast")]
def nISE : String := "java/lang/IllegalStateException"
def nIAE : String := "java/lang/IllegalArgumentException"
def nIOE : String := "java/lang/IndexOutOfBoundsException"
/-- words of the tables that aren't good ones, but hold through calls all the same -/
def nwl : List Cond := [.castable nISE nISE, .castable nIAE nIAE, .castable nIOE nIOE, .declares ⟨"java/lang/RuntimeException", "<init>", "(Ljava/lang/String;)V"⟩, .declares ⟨"java/lang/Exception", "<init>", "(Ljava/lang/String;)V"⟩, .declares ⟨"java/lang/Throwable", "<init>", "(Ljava/lang/String;)V"⟩]
theorem nwl_warm {w : Cond} (h : w ∈ nwl) {s U : State} (hW : s.WarmedH U.vm) (hz : va_Nw w s) : va_Nw w U := by
  simp only [nwl, List.mem_cons, List.not_mem_nil, or_false] at h
  rcases h with rfl | rfl | rfl | rfl | rfl | rfl
  · exact va_Nw.warmC hW hz
  · exact va_Nw.warmC hW hz
  · exact va_Nw.warmC hW hz
  · exact va_Nw.warmD hW hz
  · exact va_Nw.warmD hW hz
  · exact va_Nw.warmD hW hz
theorem nwl_tab {w : Cond} (h : w ∈ nwl) : w.onTables = true := by
  simp only [nwl, List.mem_cons, List.not_mem_nil, or_false] at h
  rcases h with rfl | rfl | rfl | rfl | rfl | rfl <;> rfl
def strl : List (Nat × String) := [(25, "there are 3 fires"), (213, "there is no such fire"), (36, "logs is not 1 to 40"), (227, "feet is not 1 to 3"), (58, "there are 6 spits"), (218, "there is no such spit"), (69, "minutes is not 0 to 9"), (77, "minute is not 0 to 5000"), (229, "pounds is not 1 to 12"), (88, "the spit has a roast, or 16 roasts were hung already"), (225, "the spit has no roast"), (105, "the pan has less than 2 drippings"), (116, "minutes is not 1 to 200"), (223, "there is no such roast"), (157, "side is not 0 to 3"), (186, "16 roasts were hung already")]
/-- what holds besides the cells: the tables' classes, the addresses apart, what a throw needs -/
def Env0 (U : State) : Prop := (∀ w ∈ nwl, va_Nw w U) ∧ (∀ q ∈ strl, ∃ a, vk_R RX4 q.1 q.2 a U) ∧ va_Nc nIAE nIOE U ∧ va_Nc nISE nIOE U ∧ va_Nc nISE nIAE U
def Zs (A : Nat → Prop) (U : State) (H : Heap) : Prop := vx_Zq Bundle.tN "UNASSIGNED_STACK" Bundle.steD A U H ∧ vx_Zq Bundle.tN "SUPPRESSED_SENTINEL" Bundle.listD A U H
def Env1 (g : Gt) (U : State) : Prop := va_K g.1 vwCl (tyl g.2.1) U ∧ Inj g ∧ Env0 U ∧ Zs (fr g U.heap.size) U U.heap
def Wp (g : Gt) (κ : Kp) (U : State) : Prop := va_P g.1 vwCl (wl g κ) U.heap
def Wd (g : Gt) (κ : Kp) (U : State) : Prop := Wp g κ U ∧ Env1 g U
theorem Env0.warm {s U : State} (hW : s.WarmedH U.vm) (h : Env0 s) : Env0 U :=
  ⟨fun w hw => nwl_warm hw hW (h.1 w hw), fun q hq => by obtain ⟨a, ha⟩ := h.2.1 q hq; exact ⟨a, vk_R.warm hW ha⟩, va_Nc.moved hW.alike h.2.2.1, va_Nc.moved hW.alike h.2.2.2.1, va_Nc.moved hW.alike h.2.2.2.2⟩
theorem Env0.same {s U : State} (e : s.vm = U.vm) (h : Env0 s) : Env0 U :=
  ⟨fun w hw => va_Nw.same (nwl_tab hw) e (h.1 w hw), fun q hq => by obtain ⟨a, ha⟩ := h.2.1 q hq; exact ⟨a, vk_R.same e.symm ha⟩, va_Nc.moved (by rw [e]; exact Vm.Alike.refl _) h.2.2.1, va_Nc.moved (by rw [e]; exact Vm.Alike.refl _) h.2.2.2.1, va_Nc.moved (by rw [e]; exact Vm.Alike.refl _) h.2.2.2.2⟩
theorem Wd.blind {g : Gt} {κ : Kp} {U : State} (a : Array Value) (f : JFrame) (mk : MethodId) (h : Wd g κ U) : Wd g κ (U.calling f mk a) := by
  obtain ⟨h1, hK, hi, h0, hz⟩ := h
  have hal : U.vm.Alike (U.calling f mk a).vm := Vm.Alike.refl U.vm
  refine ⟨h1, va_K.moved hal hK, hi, Env0.same (s := U) (U := U.calling f mk a) rfl h0, vx_Zq.moved hal hz.1, vx_Zq.moved hal hz.2⟩
/-- in a method: the cells now, and what has been written since its start -/
def Ws (g : Gt) (s : State) (κ : Kp) (H : Heap) (locs : List Loc) : Prop := va_P g.1 vwCl (wl g κ) H ∧ va_S (fr g s.heap.size) s.heap H locs
theorem Wd.warm {g : Gt} {κ : Kp} {s U : State} {H : Heap} {locs : List Loc} (hE : Env1 g s) (hw : Ws g s κ H locs) (hU : U.heap = H) (hW : s.WarmedH U.vm) : Wd g κ U := by
  obtain ⟨hK, hi, h0, hz⟩ := hE
  have hA : ∀ q, fr g U.heap.size q → fr g s.heap.size q := by
    intro q h
    rcases h with h | h
    · exact Or.inl h
    · exact Or.inr (Nat.le_trans hw.2.1 (by rw [← hU]; exact h))
  refine ⟨by show va_P _ _ _ U.heap; rw [hU]; exact hw.1, va_K.moved hW.alike hK, hi, h0.warm hW, ?_, ?_⟩
  · rw [hU] at hA ⊢
    exact (vx_Zq.moved hW.alike (hz.1.kept hw.2.2.1)).narrow hA
  · rw [hU] at hA ⊢
    exact (vx_Zq.moved hW.alike (hz.2.kept hw.2.2.1)).narrow hA
def PRE (g : Gt) (κ : Kp) (sz : Nat) (av : List Value) : Array Value → State → Prop := va_Pc av (fun U => U.heap.size = sz ∧ Wd g κ U)
theorem PRE.blind {g : Gt} {κ : Kp} {sz : Nat} {av : List Value} : FrameBlind (PRE g κ sz av) := fun a U f mk h => ⟨h.1, h.2.1, h.2.2.blind a f mk⟩
def Mc (g : Gt) (p : Program) (s : State) (m : MethodId) (args : Array Value) (meth : Method) (c : Code) (cc : ByteArray) (nL : Nat) (own : String) : Prop :=
  CallFix p m c cc nL s args uW own ∧ Env1 g s ∧ meth.locks = false
