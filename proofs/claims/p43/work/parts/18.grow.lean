/-! THE WORLD AS IT IS MADE: its first n cells, at a0, a0 + 1, .. (a heap's new cell is the next one). -/
def gw (a0 n : Nat) (X : Nat → va_E) : va_W := (List.range n).map fun k => (a0 + k, X k)
section GW
variable {a0 n k : Nat} {X Y : Nat → va_E} {e : va_E} {q : Nat × va_E}
theorem gw_len : (gw a0 n X).length = n := by simp [gw]
theorem gw_get (X : Nat → va_E) (h : k < n) : (gw a0 n X)[k]? = some (a0 + k, X k) := by
  simp only [gw, List.getElem?_map, List.getElem?_range h]; rfl
theorem gw_lt (h : (gw a0 n X)[k]? = some q) : k < n ∧ q = (a0 + k, X k) := by
  have h1 := (List.getElem?_eq_some_iff.mp h).1
  rw [gw_len] at h1
  rw [gw_get X h1] at h
  exact ⟨h1, (Option.some.inj h).symm⟩
theorem gw_congr (h : ∀ k, k < n → X k = Y k) : gw a0 n X = gw a0 n Y := by
  apply List.ext_getElem?
  intro j
  by_cases hl : j < n
  · rw [gw_get X hl, gw_get Y hl, h j hl]
  · rw [List.getElem?_eq_none (by rw [gw_len]; omega), List.getElem?_eq_none (by rw [gw_len]; omega)]
theorem gw_set : (gw a0 n X).set k (a0 + k, e) = gw a0 n (va_up X k e) := by
  apply List.ext_getElem?
  intro j
  by_cases hj : j = k
  · subst hj
    by_cases hl : j < n
    · rw [List.getElem?_set_self (by rw [gw_len]; exact hl), gw_get _ hl, va_up_self]
    · rw [List.getElem?_eq_none (by rw [List.length_set, gw_len]; omega), List.getElem?_eq_none (by rw [gw_len]; omega)]
  · rw [List.getElem?_set_ne (Ne.symm hj)]
    by_cases hl : j < n
    · rw [gw_get _ hl, gw_get _ hl, va_up_ne _ _ hj]
    · rw [List.getElem?_eq_none (by rw [gw_len]; omega), List.getElem?_eq_none (by rw [gw_len]; omega)]
theorem gw_push : gw a0 n X ++ [(a0 + n, e)] = gw a0 (n + 1) (va_up X n e) := by
  apply List.ext_getElem?
  intro j
  by_cases hl : j < n
  · rw [List.getElem?_append_left (by rw [gw_len]; exact hl), gw_get _ hl, gw_get _ (by omega), va_up_ne _ _ (by omega)]
  · rw [List.getElem?_append_right (by rw [gw_len]; omega), gw_len]
    by_cases hj : j = n
    · subst hj
      rw [gw_get _ (by omega), va_up_self, Nat.sub_self]
      rfl
    · rw [List.getElem?_eq_none (by simp; omega), List.getElem?_eq_none (by rw [gw_len]; omega)]
theorem gw_D : va_D (fun q => a0 ≤ q) (gw a0 n X) := by
  refine ⟨fun i j p q h1 h2 h3 => ?_, fun k q h => ?_⟩
  · obtain ⟨-, rfl⟩ := gw_lt h1
    obtain ⟨-, rfl⟩ := gw_lt h2
    dsimp only at h3
    omega
  · obtain ⟨-, rfl⟩ := gw_lt h
    exact Nat.le_add_right _ _
/-- where a new cell lies -/
theorem gw_at {D : va_G} {H1 : Heap} {q : Nat} (hP : va_P D vwCl (gw a0 n X ++ [(q, e)]) H1) (hD : va_D (fun q => a0 ≤ q) (gw a0 n X ++ [(q, e)])) (hz : H1.size ≤ a0 + n + 1) : q = a0 + n := by
  have hr : (gw a0 n X ++ [(q, e)])[n]? = some (q, e) := by
    rw [List.getElem?_append_right (by rw [gw_len]; exact Nat.le_refl _), gw_len, Nat.sub_self]; rfl
  have hlt := (hP n _ hr).lt
  have hge := hD.2 n _ hr
  dsimp only at hlt hge
  rcases Nat.lt_or_ge q (a0 + n) with h | h
  · have hl : (gw a0 n X ++ [(q, e)])[q - a0]? = some (a0 + (q - a0), X (q - a0)) := by
      rw [List.getElem?_append_left (by rw [gw_len]; omega), gw_get X (by omega)]
    have := hD.1 _ _ _ _ hl hr (by dsimp only; omega)
    omega
  · omega
end GW
/-- what the constructors stand on -/
def EnvC (D : va_G) (cA : Nat → ClassId) (U : State) : Prop := va_K D vwCl (tyl cA) U ∧ (va_AO "KitchenSpits$Fire" U ∧ va_AO "KitchenSpits$Spit" U ∧ va_AO "KitchenSpits$Roast" U) ∧ (va_Nw (.methodLinkNest RX1 33 yX0_init "KitchenSpits") U ∧ va_Nw (.methodLinkNest RX1 34 yX3_init "KitchenSpits") U ∧ va_Nw (.methodLinkNest RX1 35 yX2_init "KitchenSpits") U)
theorem EnvC.warm {D : va_G} {cA : Nat → ClassId} {s U : State} (hW : s.WarmedH U.vm) (h : EnvC D cA s) : EnvC D cA U :=
  ⟨va_K.moved hW.alike h.1, ⟨va_AO.moved hW.alike h.2.1.1, va_AO.moved hW.alike h.2.1.2.1, va_AO.moved hW.alike h.2.1.2.2⟩, ⟨va_Nw.warmM hW h.2.2.1, va_Nw.warmM hW h.2.2.2.1, va_Nw.warmM hW h.2.2.2.2⟩⟩
theorem EnvC.same {D : va_G} {cA : Nat → ClassId} {s U : State} (e : s.vm = U.vm) (h : EnvC D cA s) : EnvC D cA U := by
  have hal : s.vm.Alike U.vm := by rw [e]; exact Vm.Alike.refl _
  exact ⟨va_K.moved hal h.1, ⟨va_AO.moved hal h.2.1.1, va_AO.moved hal h.2.1.2.1, va_AO.moved hal h.2.1.2.2⟩, ⟨va_Nw.same rfl e h.2.2.1, va_Nw.same rfl e h.2.2.2.1, va_Nw.same rfl e h.2.2.2.2⟩⟩
/-- a constructor's start -/
def PC (D : va_G) (cA : Nat → ClassId) (a0 n : Nat) (X : Nat → va_E) (av : List Value) : Array Value → State → Prop := va_Pc av (fun U => U.heap.size = a0 + n ∧ va_P D vwCl (gw a0 n X) U.heap ∧ EnvC D cA U)
theorem PC.blind {D : va_G} {cA : Nat → ClassId} {a0 n : Nat} {X : Nat → va_E} {av : List Value} : FrameBlind (PC D cA a0 n X av) := fun a U f mk h => ⟨h.1, h.2.1, h.2.2.1, EnvC.same (s := U) (U := U.calling f mk a) rfl h.2.2.2⟩
/-- its end -/
abbrev PQ (D : va_G) (a0 n : Nat) (X : Nat → va_E) : Array Value → State → Outcome → State → Prop := va_Qv (fun _ : Unit => True) (fun _ t => va_P D vwCl (gw a0 n X) t.heap) (fun q => a0 ≤ q)
def Gv (D : va_G) (a0 n : Nat) (X : Nat → va_E) (s : State) (H : Heap) (locs : List Loc) : Prop := va_P D vwCl (gw a0 n X) H ∧ va_S (fun q => a0 ≤ q) s.heap H locs
def Mk (D : va_G) (cA : Nat → ClassId) (a0 : Nat) (p : Program) (s : State) (m : MethodId) (args : Array Value) (meth : Method) (c : Code) (cc : ByteArray) (nL : Nat) (own : String) : Prop := CallFix p m c cc nL s args uW own ∧ EnvC D cA s ∧ (meth.locks = false ∧ (own = RL ∨ meth.name = "<init>")) ∧ a0 ≤ s.heap.size
section GC
variable {p : Program} {l : Launch} {e : Env} {R : Room} {s : State} {m : MethodId} {args : Array Value} {below : List Frame} {meth : Method} {c : Code} {H : Heap} {locs : List Loc} {cells slots : Nat} {Q : State → Prop}
variable {cc : ByteArray} {pc nL idx a0 n k : Nat} {ls : Array Slot} {rest : List Value} {D : va_G} {cA : Nat → ClassId} {own : String} {X Y : Nat → va_E}
theorem Gv.congr (h : Gv D a0 n X s H locs) (e : ∀ k, k < n → X k = Y k) : Gv D a0 n Y s H locs := ⟨by rw [← gw_congr e]; exact h.1, h.2⟩
/-- a heap is no larger than what was made -/
theorem g_size (kk : H.size ≤ s.heap.size + cells → W p l e R s m args below meth c H locs cells slots Q (F0 m pc ls rest)) : W p l e R s m args below meth c H locs cells slots Q (F0 m pc ls rest) := by
  intro T hT S
  refine kk ?_ T hT S
  have h := S.same.2.2.1
  rw [← hT]; exact h
theorem g_enter {y : MethodName} {rm : Room} {av : List Value} {Qc : Array Value → State → Outcome → State → Prop} {mc ms maxL : Nat} (hy : plainName y.cls = true) (hin : y.name = "<init>") (hlen : (lg_sl av).length ≤ maxL)
    (body : ∀ (p : Program) (e : Env) (s : State) (m : MethodId) (below : List Frame) (meth : Method) (c : Code) (ls : Array Slot), Mk D cA a0 p s m av.toArray meth c cc maxL y.cls → meth.sig.returnType = none → lv_has ls maxL (lv_args 0 av) → Gv D a0 n X s s.heap [] → s.heap.size = a0 + n →
      W p l e rm s m av.toArray below meth c s.heap [] 0 0 (MQ below Qc av.toArray s mc ms (fun q => a0 ≤ q)) (F0 m 0 ls [])) : Met l y (Cond.code y cc maxL none :: uW) rm (PC D cA a0 n X av) Qc mc ms (fun q => a0 ≤ q) := by
  refine Met.ofW (cc := cc) (maxL := maxL) (ret := none) hy rfl ?_
  intro p e s m args below meth c s₁ B hml hv
  obtain ⟨rfl, hsz, hP, hE⟩ := hv
  have hts := atoms_spec (ws := Cond.code y cc maxL none :: uW) B.pre
  have hl := lv_entry av (n := maxL) hlen
  rw [lg_entry_eq]
  generalize (lg_sl av ++ List.replicate (maxL - (lg_sl av).length) Slot.unset).toArray = ls at hl ⊢
  exact body p e s m below meth c ls ⟨⟨B.exec, B.bytes, hml, findClass_of_methodNamed B.named, fun w h => hts w (List.mem_cons_of_mem _ h)⟩, hE, ⟨B.notSynchronized, Or.inr ((name_of_methodNamed B.named B.method).1.trans hin)⟩, by omega⟩ B.returns hl ⟨hP, va_S.rf⟩ hsz
theorem g_obj (hM : Mk D cA a0 p s m args meth c cc nL own) (hlink : Cond.methodLink own idx Lib.objectInit ∈ uW) (hls : ls.size = nL) {a : Nat} (hdg : decode cc pc = .ok (.invokespecial idx, 3)) (hfr : 1 ≤ R.frames) (hlo : 20 ≤ R.locals)
    (kk : W p l e R s m args below meth c H locs cells slots Q (F0 m (pc + 3) ls [])) : W p l e R s m args below meth c H locs cells slots Q (F0 m pc ls [.ref a]) := by
  refine W.objInit hM.1.1 hM.1.2.1 hM.1.2.2.2.1 (hM.1.2.2.2.2 _ hlink) (hM.1.2.2.2.2 _ u_im_JO_init) (hM.1.2.2.2.2 _ u_co_JO_init) rfl (hls.trans hM.1.2.2.1.symm) rfl hdg hfr ?_ ?_
  · show 2 * 0 + 0 + 12 ≤ R.locals
    omega
  · exact W.eq (g2 := F0 m (pc + 3) ls []) rfl kk
theorem g_new {C : String} {T : u_T} {N ci : Nat} {fs : List Value} (hM : Mk D cA a0 p s m args meth c cc nL own) (hG : Gv D a0 n X s H locs) (hsz : s.heap.size + cells = a0 + n) (hin : ∀ w ∈ u_ws C T N, w ∈ uW) (ty : Nat → FieldType) (hty : ∀ k, k < N → parseFieldDescriptor (T k).2.2.1 = some (ty k)) (hcl : Cond.classLink own idx C ∈ uW) (hins : Cond.instantiable C N ∈ uW) (hini : Cond.initialized C ∈ uW) (hc : vwCl[ci]? = some (C, T, N)) (hfs : ∀ j, j < N → defaultValue (ty j) = vp_V fs j) (hcells : cells + 1 ≤ R.cells) (hslots : slots + N ≤ R.slots) (hdg : decode cc pc = .ok (.new idx, 3))
    (kk : ∀ H1 : Heap, Gv D a0 (n + 1) (va_up X n (.inr (ci, fs))) s H1 locs → W p l e R s m args below meth c H1 locs (cells + 1) (slots + N) Q (F0 m (pc + 3) ls (.ref (a0 + n) :: rest))) : W p l e R s m args below meth c H locs cells slots Q (F0 m pc ls rest) := by
  obtain ⟨⟨hx, hb, hml, hown, hts⟩, hE, hme, hle⟩ := hM
  refine va_new hx hb hts hin ty hty hown (hts _ hcl) (hts _ hins) (hts _ hini) hE.1 hG.1 gw_D hG.2 (fun q hq => Nat.le_trans hle hq) hc hfs hcells hslots hdg (fun q H1 hP hD hS => g_size (fun hz => ?_))
  have hq := gw_at hP hD (by omega)
  subst hq
  rw [gw_push] at hP
  exact kk H1 ⟨hP, hS⟩
theorem g_newI {v : Int32} {N : Nat} (hM : Mk D cA a0 p s m args meth c cc nL own) (hG : Gv D a0 n X s H locs) (hsz : s.heap.size + cells = a0 + n) (hv : v = nI N) (hN : N ≤ 1000) (hcells : cells + 1 ≤ R.cells) (hslots : slots + N ≤ R.slots) (hdg : decode cc pc = .ok (.newarray .int, 2))
    (kk : ∀ H1 : Heap, Gv D a0 (n + 1) (va_up X n (.inl (cA 0, N, .inl (fun _ => 0)))) s H1 locs → W p l e R s m args below meth c H1 locs (cells + 1) (slots + N) Q (F0 m (pc + 2) ls (.ref (a0 + n) :: rest))) : W p l e R s m args below meth c H locs cells slots Q (F0 m pc ls (.int v :: rest)) := by
  subst hv
  obtain ⟨⟨hx, hb, hml, hown, hts⟩, hE, hme, hle⟩ := hM
  refine va_newa (atype := .int) (ty := .int) (a0 := (N, .inl (fun _ => 0))) hx hb (hts _ u_ac_int) rfl hE.1 hG.1 gw_D hG.2 (fun q hq => Nat.le_trans hle hq) (fun cA => rfl) (nI0 (by omega)) (nI_clamp (by omega)) (by show N * 4 ≤ 536870912; omega) hcells hslots hdg (fun q cB H1 hK hP hD hS => g_size (fun hz => ?_))
  have hq := gw_at hP hD (by omega)
  subst hq
  have hcB : cB = cA 0 := Option.some.inj ((hK.2 7 (cB, .int) rfl).2.symm.trans (hE.1.2 0 (cA 0, .int) rfl).2)
  subst hcB
  rw [gw_push] at hP
  exact kk H1 ⟨hP, hS⟩
theorem g_newq {C : String} {v : Int32} {N j : Nat} (hM : Mk D cA a0 p s m args meth c cc nL own) (hG : Gv D a0 n X s H locs) (hsz : s.heap.size + cells = a0 + n) (hv : v = nI N) (hN : N ≤ 1000) (hcl : Cond.classLink own idx C ∈ uW) (hao : va_AO C s) (hj : (tyl cA)[j]? = some (cA j, .object C)) (hcells : cells + 1 ≤ R.cells) (hslots : slots + N ≤ R.slots) (hdg : decode cc pc = .ok (.anewarray idx, 3))
    (kk : ∀ H1 : Heap, Gv D a0 (n + 1) (va_up X n (.inl (cA j, N, Qr (fun _ => none)))) s H1 locs → W p l e R s m args below meth c H1 locs (cells + 1) (slots + N) Q (F0 m (pc + 3) ls (.ref (a0 + n) :: rest))) : W p l e R s m args below meth c H locs cells slots Q (F0 m pc ls (.int v :: rest)) := by
  subst hv
  obtain ⟨⟨hx, hb, hml, hown, hts⟩, hE, hme, hle⟩ := hM
  refine va_newq hx hb hown (hts _ hcl) hao hE.1 hG.1 gw_D hG.2 (fun q hq => Nat.le_trans hle hq) (nI0 (by omega)) (nI_clamp (by omega)) (by omega) hcells hslots hdg (fun q cB H1 hK hP hD hS => g_size (fun hz => ?_))
  have hq := gw_at hP hD (by omega)
  subst hq
  obtain ⟨-, -, -, -, -, f1⟩ := (hK.2 7 (cB, .object C) rfl).2
  obtain ⟨-, -, -, -, -, f2⟩ := (hE.1.2 j _ hj).2
  have hcB : cB = cA j := Option.some.inj (f1.symm.trans f2)
  subst hcB
  rw [gw_push] at hP
  exact kk H1 ⟨hP, hS⟩
theorem g_put {C : String} {T : u_T} {N ci : Nat} {fs : List Value} {v : Value} {ty : FieldType} (hM : Mk D cA a0 p s m args meth c cc nL own) (hG : Gv D a0 n X s H locs) (hk : k < n) (hX : X k = .inr (ci, fs)) (hc : vwCl[ci]? = some (C, T, N)) (hin : ∀ w ∈ u_ws C T N, w ∈ uW) (ty0 : Nat → FieldType) (hty : ∀ k, k < N → parseFieldDescriptor (T k).2.2.1 = some (ty0 k)) (hnm : ∀ a, a < N → ∀ b, b < N → a ≠ b → (T a).2.1 ≠ (T b).2.1) (j : Nat) (hj : j < N) (hlink : Cond.fieldLink own idx (T j).1 (T j).2.1 (T j).2.2.1 ∈ uW) (hfin : (T j).2.2.2 = false) (hd : parseFieldDescriptor (T j).2.2.1 = some ty) (hnw : narrow ty v = v) (hft : fits ty v = true) (hl : j < fs.length) (hdg : decode cc pc = .ok (.putfield idx, 3))
    (kk : ∀ (H1 : Heap) (locs1 : List Loc), Gv D a0 n (va_up X k (.inr (ci, fs.set j v))) s H1 locs1 → W p l e R s m args below meth c H1 locs1 cells slots Q (F0 m (pc + 3) ls rest)) : W p l e R s m args below meth c H locs cells slots Q (F0 m pc ls (v :: .ref (a0 + k) :: rest)) := by
  obtain ⟨⟨hx, hb, hml, hown, hts⟩, hE, hme, hle⟩ := hM
  refine va_put hx hb hts hin ty0 hty hnm hown hE.1 hG.1 gw_D hG.2 k (by rw [gw_get X hk, hX]) hc j hj (hts _ hlink) (fun _ h => h) hfin hd hnw hft hl hdg (fun H1 locs1 hP hD hS => kk H1 locs1 ⟨?_, hS⟩)
  rw [gw_set] at hP
  exact hP
theorem g_putF {C : String} {T : u_T} {N ci : Nat} {fs : List Value} {v : Value} {ty : FieldType} (hM : Mk D cA a0 p s m args meth c cc nL own) (hne : ¬ own = RL) (hG : Gv D a0 n X s H locs) (hk : k < n) (hX : X k = .inr (ci, fs)) (hc : vwCl[ci]? = some (C, T, N)) (hin : ∀ w ∈ u_ws C T N, w ∈ uW) (ty0 : Nat → FieldType) (hty : ∀ k, k < N → parseFieldDescriptor (T k).2.2.1 = some (ty0 k)) (hnm : ∀ a, a < N → ∀ b, b < N → a ≠ b → (T a).2.1 ≠ (T b).2.1) (j : Nat) (hj : j < N) (hlink : Cond.fieldLink own idx (T j).1 (T j).2.1 (T j).2.2.1 ∈ uW) (hfin : (T j).2.2.2 = true) (hdecl : (T j).1 = own) (hd : parseFieldDescriptor (T j).2.2.1 = some ty) (hnw : narrow ty v = v) (hft : fits ty v = true) (hl : j < fs.length) (hdg : decode cc pc = .ok (.putfield idx, 3))
    (kk : ∀ (H1 : Heap) (locs1 : List Loc), Gv D a0 n (va_up X k (.inr (ci, fs.set j v))) s H1 locs1 → W p l e R s m args below meth c H1 locs1 cells slots Q (F0 m (pc + 3) ls rest)) : W p l e R s m args below meth c H locs cells slots Q (F0 m pc ls (v :: .ref (a0 + k) :: rest)) := by
  obtain ⟨⟨hx, hb, hml, hown, hts⟩, hE, hme, hle⟩ := hM
  refine va_putF hx hb hts hin ty0 hty hnm hown hE.1 hG.1 gw_D hG.2 k (by rw [gw_get X hk, hX]) hc j hj (hts _ hlink) (fun _ h => h) hfin (hme.2.resolve_left hne) hdecl hd hnw hft hl hdg (fun H1 locs1 hP hD hS => kk H1 locs1 ⟨?_, hS⟩)
  rw [gw_set] at hP
  exact hP
theorem g_get {C : String} {T : u_T} {N ci : Nat} {fs : List Value} {v : Value} (hM : Mk D cA a0 p s m args meth c cc nL own) (hG : Gv D a0 n X s H locs) (hk : k < n) (hX : X k = .inr (ci, fs)) (hc : vwCl[ci]? = some (C, T, N)) (hin : ∀ w ∈ u_ws C T N, w ∈ uW) (j : Nat) (hj : j < N) (hlink : Cond.fieldLink own idx (T j).1 (T j).2.1 (T j).2.2.1 ∈ uW) (hv : fs[j]? = some v) (hdg : decode cc pc = .ok (.getfield idx, 3))
    (kk : W p l e R s m args below meth c H locs cells slots Q (F0 m (pc + 3) ls (v :: rest))) : W p l e R s m args below meth c H locs cells slots Q (F0 m pc ls (.ref (a0 + k) :: rest)) := by
  obtain ⟨⟨hx, hb, hml, hown, hts⟩, hE, hme, hle⟩ := hM
  exact va_get hx hb hts hin hown hE.1 hG.1 k (by rw [gw_get X hk, hX]) hc j hj (hts _ hlink) (fun _ h => h) hv hdg kk
theorem g_astq {r : vw_C} {N i j ci kv : Nat} {vs : List Value} {f : Nat → Option Nat} (hM : Mk D cA a0 p s m args meth c cc nL own) (hG : Gv D a0 n X s H locs) (hk : k < n) (hX : X k = .inl (cA j, N, Qr f)) (hj : (tyl cA)[j]? = some (cA j, .object r.1)) (hkv : kv < n) (hXv : X kv = .inr (ci, vs)) (hc : vwCl[ci]? = some r) (hi : i < N) (hN : N ≤ 1000) (hdg : decode cc pc = .ok (.aastore, 1))
    (kk : ∀ (H1 : Heap) (locs1 : List Loc), Gv D a0 n (va_up X k (.inl (cA j, N, Qr (va_up f i (some (a0 + kv)))))) s H1 locs1 → W p l e R s m args below meth c H1 locs1 cells slots Q (F0 m (pc + 1) ls rest)) : W p l e R s m args below meth c H locs cells slots Q (F0 m pc ls (.ref (a0 + kv) :: .int (nI i) :: .ref (a0 + k) :: rest)) := by
  obtain ⟨⟨hx, hb, hml, hown, hts⟩, hE, hme, hle⟩ := hM
  refine va_astq hx hb hE.1 hG.1 gw_D hG.2 k j kv ci (by rw [gw_get X hk, hX]) hj (by rw [gw_get X hkv, hXv]) hc (vp_in_nI hi (by omega)) hdg (fun H1 locs1 hP hD hS => kk H1 locs1 ⟨?_, hS⟩)
  rw [gw_set, nI_clamp (by omega)] at hP
  exact hP
theorem g_alen {N j : Nat} {f : Nat → Option Nat} {C : String} {v : Int32} (hM : Mk D cA a0 p s m args meth c cc nL own) (hG : Gv D a0 n X s H locs) (hk : k < n) (hX : X k = .inl (cA j, N, Qr f)) (hj : (tyl cA)[j]? = some (cA j, .object C)) (hv : Int32.ofNat N = v) (hdg : decode cc pc = .ok (.arraylength, 1))
    (kk : W p l e R s m args below meth c H locs cells slots Q (F0 m (pc + 1) ls (.int v :: rest))) : W p l e R s m args below meth c H locs cells slots Q (F0 m pc ls (.ref (a0 + k) :: rest)) := by
  obtain ⟨⟨hx, hb, hml, hown, hts⟩, hE, hme, hle⟩ := hM
  exact va_alen hx hb hE.1 hG.1 k j (by rw [gw_get X hk, hX]) hj hv hdg kk
/-- a row of references is what its places hold -/
theorem Gv.row {N : Nat} {cB : ClassId} {f f' : Nat → Option Nat} (h : Gv D a0 n X s H locs) (hX : X k = .inl (cB, N, Qr f)) (hf : ∀ t, t < N → f t = f' t) : Gv D a0 n (va_up X k (.inl (cB, N, Qr f'))) s H locs := by
  refine ⟨fun i q hq => ?_, h.2⟩
  obtain ⟨hi, rfl⟩ := gw_lt hq
  by_cases e : i = k
  · subst e
    have h1 := h.1 i _ (gw_get X hi)
    rw [hX] at h1
    rw [va_up_self]
    have h2 : H[a0 + i]? = some (vp_cell cB (N, Qr f)) := h1
    show H[a0 + i]? = some (vp_cell cB (N, Qr f'))
    rw [h2]
    have h3 : (Array.ofFn (n := N) fun j => va_rf (f j.val)) = Array.ofFn (n := N) fun j => va_rf (f' j.val) := by
      congr 1
      funext j
      rw [hf j.val j.isLt]
    show some ({ cls := cB, slots := Array.ofFn (n := N) fun j => va_rf (f j.val), vm := .none } : Cell) = some { cls := cB, slots := Array.ofFn (n := N) fun j => va_rf (f' j.val), vm := .none }
    rw [h3]
  · rw [va_up_ne _ _ e]
    exact h.1 i _ (gw_get X hi)
theorem g_vret (hM : Mk D cA a0 p s m args meth c cc nL own) (hr : meth.sig.returnType = none) (hG : Gv D a0 n X s H locs) {mc ms : Nat} (hc : cells ≤ mc) (hs : slots ≤ ms) (hdg : decode cc pc = .ok (.return_, 1)) : W p l e R s m args below meth c H locs cells slots (MQ below (PQ D a0 n X) args s mc ms (fun q => a0 ≤ q)) (F0 m pc ls []) :=
  W.widen hc hs (W.vret hM.1.1 hM.1.2.1 hr (fun t ht hW => ⟨⟨(), rfl, trivial, by show va_P D vwCl (gw a0 n X) t.heap; rw [ht]; exact hG.1⟩, hG.2.F ht⟩) hG.2.2.2 hdg hM.2.2.1.1)
/-- a constructor called: of a class that may be named -/
theorem g_runI {y : MethodName} {bytes : ByteArray} {maxL mc ms n' : Nat} {X' : Nat → va_E} {rm : Room} (hM : Mk D cA a0 p s m args meth c cc nL own) (hG : Gv D a0 n X s H locs) (hsz : s.heap.size + cells = a0 + n) (ct : Met l y (.code y bytes maxL none :: uW) rm (PC D cA a0 n X [.ref (a0 + k)]) (PQ D a0 n' X') mc ms (fun q => a0 ≤ q)) (hk : k < n)
    (h1 : Cond.methodLink own idx y ∈ uW) (h2 : Cond.instanceMethod y ∈ uW) (h3 : Cond.initialized y.cls ∈ uW) (h4 : Cond.code y bytes maxL none ∈ uW) (hy : y.name = "<init>") (hd : y.cls ≠ "java/lang/invoke/MethodHandle" ∧ y.cls ≠ "java/lang/invoke/VarHandle" ∧ (parseMethodDescriptor y.desc).map (fun d => d.parameters.length) = some 0) (hrc : rm.cells = mc) (hrs : rm.slots = ms) (hR : rm.frames + 1 ≤ R.frames ∧ 8 + (maxL + 11) + rm.locals ≤ R.locals) (hls : ls.size = nL) (hsum : (rest.map fun v => v.category).sum ≤ 8) (hdg : decode cc pc = .ok (.invokespecial idx, 3)) (hf : cells + mc ≤ R.cells ∧ slots + ms ≤ R.slots)
    (kk : ∀ (H1 : Heap) (locs1 : List Loc), Gv D a0 n' X' s H1 locs1 → W p l e R s m args below meth c H1 locs1 (cells + mc) (slots + ms) Q (F0 m (pc + 3) ls rest)) : W p l e R s m args below meth c H locs cells slots Q (F0 m pc ls (.ref (a0 + k) :: rest)) := by
  refine g_size (fun hz => ?_)
  have hlt := (hG.1 (n - 1) _ (gw_get X (by omega))).lt
  dsimp only at hlt
  obtain ⟨⟨hx, hb, hml, hown, hts⟩, hE, hme, hle⟩ := hM
  have hg := uW_good (ws := [.code y bytes maxL none]) (fun w hw => by
    rw [List.mem_singleton] at hw
    subst hw; exact h4)
  refine va_callv (va_runI (As := []) (rest := rest) ⟨hx, hb, hml, hown, hts⟩ ct (cwI 0 hts hg rfl hrc hrs (hts _ h3) (hts _ h1) (hts _ h2) hy hd hR) ⟨PC.blind, fun U hU hW => ⟨rfl, by rw [hU]; omega, by rw [hU]; exact hG.1, hE.warm hW⟩⟩ rfl rfl hls rfl (lv_room hsum) hdg hf) hG.2 (fun q _ h => h) (fun q h => h) (fun u t H1 locs1 ht hvm hp hB hz1 hk1 hS => kk H1 locs1 ⟨by rw [← ht]; exact hB, hS⟩)
/-- .. of a nest mate -/
theorem g_runIN {y : MethodName} {host : String} {bytes : ByteArray} {maxL mc ms n' : Nat} {X' : Nat → va_E} {rm : Room} (hM : Mk D cA a0 p s m args meth c cc nL own) (hG : Gv D a0 n X s H locs) (hsz : s.heap.size + cells = a0 + n) (ct : Met l y (.code y bytes maxL none :: uW) rm (PC D cA a0 n X [.ref (a0 + k)]) (PQ D a0 n' X') mc ms (fun q => a0 ≤ q)) (hk : k < n)
    (h1 : va_Nw (.methodLinkNest own idx y host) s) (h2 : Cond.instanceMethod y ∈ uW) (h3 : Cond.initialized y.cls ∈ uW) (h4 : Cond.code y bytes maxL none ∈ uW) (hy : y.name = "<init>") (hd : y.cls ≠ "java/lang/invoke/MethodHandle" ∧ y.cls ≠ "java/lang/invoke/VarHandle" ∧ (parseMethodDescriptor y.desc).map (fun d => d.parameters.length) = some 0) (hrc : rm.cells = mc) (hrs : rm.slots = ms) (hR : rm.frames + 1 ≤ R.frames ∧ 8 + (maxL + 11) + rm.locals ≤ R.locals) (hls : ls.size = nL) (hsum : (rest.map fun v => v.category).sum ≤ 8) (hdg : decode cc pc = .ok (.invokespecial idx, 3)) (hf : cells + mc ≤ R.cells ∧ slots + ms ≤ R.slots)
    (kk : ∀ (H1 : Heap) (locs1 : List Loc), Gv D a0 n' X' s H1 locs1 → W p l e R s m args below meth c H1 locs1 (cells + mc) (slots + ms) Q (F0 m (pc + 3) ls rest)) : W p l e R s m args below meth c H locs cells slots Q (F0 m pc ls (.ref (a0 + k) :: rest)) := by
  refine g_size (fun hz => ?_)
  have hlt := (hG.1 (n - 1) _ (gw_get X (by omega))).lt
  dsimp only at hlt
  obtain ⟨⟨hx, hb, hml, hown, hts⟩, hE, hme, hle⟩ := hM
  have hg := uW_good (ws := [.code y bytes maxL none]) (fun w hw => by
    rw [List.mem_singleton] at hw
    subst hw; exact h4)
  refine va_callv (va_runIN (As := []) (rest := rest) ⟨hx, hb, hml, hown, hts⟩ ct ⟨va_cnB 0 hts hg rfl hrc hrs h1 (hts _ h3) hd hR, hy, hts _ h2⟩ ⟨PC.blind, fun U hU hW => ⟨rfl, by rw [hU]; omega, by rw [hU]; exact hG.1, hE.warm hW⟩⟩ rfl rfl hls rfl (lv_room hsum) hdg hf) hG.2 (fun q _ h => h) (fun q h => h) (fun u t H1 locs1 ht hvm hp hB hz1 hk1 hS => kk H1 locs1 ⟨by rw [← ht]; exact hB, hS⟩)
end GC
