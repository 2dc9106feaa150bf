theorem asg_self (vm : Vm) (c : ClassId) : vm.assignable c c = true := by
  show Vm.assignableAux vm (255 + 1) c c = true
  rw [Vm.assignableAux, show (c == c) = true from beq_self_eq_true c, Bool.true_or]
section RAW
variable {p : Program} {l : Launch} {e : Env} {R : Room} {s : State} {m : MethodId} {args : Array Value} {below : List Frame} {meth : Method} {c : Code} {H : Heap} {locs : List Loc} {cells slots : Nat} {Q : State → Prop}
variable {cc : ByteArray} {pc : Nat} {ls : Array Slot} {rest : List Value} {D : va_G} {cl : List vw_C} {A : Nat → Prop} {a : Nat} {tys : List (ClassId × FieldType)} {ws : va_W} {H0 : Heap}
/-- new ty[n][], its places null -/
theorem va_newA2 (hexec : p.tables.exec = Jvm.exec) (hb : c.code = cc) {own : String} {ty : FieldType} {index : Nat} (hown : s.vm.findClass own = some m.cls) (hclink : (Cond.classLink own index (FieldType.array ty).toString).before args s = true) (hover : va_AOA ty s) (hK : va_K D cl tys s) (hP : va_P D cl ws H) (hD : va_D A ws) (hS : va_S A H0 H locs) (hA : ∀ q, H0.size ≤ q → A q)
    {n : Int32} {N' : Nat} (hn : ¬ n < 0) (hN : n.toNatClampNeg = N') (hbytes : N' * 4 ≤ 536870912) (hcells : cells + 1 ≤ R.cells) (hslots : slots + N' ≤ R.slots) (hdg : decode cc pc = .ok (.anewarray index, 3))
    (kk : ∀ (q : Nat) (cA : ClassId) (H1 : Heap), s.vm.findClass ("[" ++ (FieldType.array ty).toString) = some cA → va_P D cl (ws ++ [(q, .inl (cA, N', .inr (.inr (.inr (.inr (fun _ => none))))))]) H1 → va_D A (ws ++ [(q, .inl (cA, N', .inr (.inr (.inr (.inr (fun _ => none))))))]) → va_S A H0 H1 locs →
      W p l e R s m args below meth c H1 locs (cells + 1) (slots + N') Q (F0 m (pc + 3) ls (.ref q :: rest))) : W p l e R s m args below meth c H locs cells slots Q (F0 m pc ls (.int n :: rest)) := by
  subst hN
  refine W.anewA hexec hb hown hclink (va_AOA.use hover) rfl hdg rfl hn hbytes hcells hslots fun cA kA comp f1 f2 f3 f4 => ?_
  generalize hH1 : H.push ({ cls := cA, slots := Array.replicate n.toNatClampNeg .null, vm := .none } : Cell) = H1
  have z1 : H1.size = H.size + 1 := by rw [← hH1, Array.size_push]
  have e1 : H1[H.size]? = some (arrV cA n.toNatClampNeg (fun _ => .null)) := by rw [← hH1, Array.getElem?_push_size, ← arrV_new]
  have o1 : ∀ q : Nat, q < H.size → H1[q]? = H[q]? := fun q hq => by rw [← hH1, Array.getElem?_push, if_neg (Nat.ne_of_lt hq)]
  have hk : ∀ (k : Nat) (x : Nat × va_E), ws[k]? = some x → H1[x.1]? = H[x.1]? := fun k x hx => o1 x.1 ((hP k x hx).lt)
  refine kk H.size cA H1 f1 ((hP.kept hk).app (fun k x hx => ?_)) (hD.push hP rfl (hA _ hS.1)) ⟨Nat.le_trans hS.1 (by omega), fun x h1 h2 => (o1 x (Nat.lt_of_lt_of_le h1 hS.1)).trans (hS.2.1 x h1 h2), hS.2.2⟩
  have hz : k < 1 := (List.getElem?_eq_some_iff.mp hx).1
  rw [show k = 0 by omega] at hx
  cases hx
  show H1[H.size]? = some (vp_cell _ _)
  rw [vp_cell_q]
  exact e1
/-- a row into a row of rows -/
theorem va_astA (hexec : p.tables.exec = Jvm.exec) (hb : c.code = cc) (hover : va_AOA .int s) (hK : va_K D cl tys s) (hP : va_P D cl ws H) (hD : va_D A ws) (hS : va_S A H0 H locs) (q0 t0 qk tk : Nat) {cA cB : ClassId} {n v n2 : Nat} {f : Nat → Option Nat} {f2 : Nat → Int32} (ha : ws[q0]? = some (a, .inl (cA, n, .inr (.inr (.inr (.inr f)))))) (ht : tys[t0]? = some (cA, .array .int)) (hv : ws[qk]? = some (v, .inl (cB, n2, .inl f2))) (htk : tys[tk]? = some (cB, .int)) {i : Int32} (hin : vp_in i n) (hdg : decode cc pc = .ok (.aastore, 1))
    (kk : ∀ (H1 : Heap) (locs1 : List Loc), va_P D cl (ws.set q0 (a, .inl (cA, n, .inr (.inr (.inr (.inr (va_up f i.toNatClampNeg (some v)))))))) H1 → va_D A (ws.set q0 (a, .inl (cA, n, .inr (.inr (.inr (.inr (va_up f i.toNatClampNeg (some v)))))))) → va_S A H0 H1 locs1 → W p l e R s m args below meth c H1 locs1 cells slots Q (F0 m (pc + 1) ls rest)) : W p l e R s m args below meth c H locs cells slots Q (F0 m pc ls (.ref v :: .int i :: .ref a :: rest)) := by
  have hlt : i.toNatClampNeg < n := Nat.not_le.mp fun q => hin (Or.inr q)
  have h0 : ¬ i < 0 := fun q => hin (Or.inl q)
  have hvc : H[v]? = some (vp_cell cB (n2, .inl f2)) := hP qk _ hv
  obtain ⟨comp, c0, k0, f1, -, g2, g3, g4⟩ := arrayOverA_spec (va_AOA.use (A := #[]) hover)
  have hcA : cA = c0 := Option.some.inj (((hK.2 t0 _ ht).2 : s.vm.findClass ("[" ++ (FieldType.array .int).toString) = some cA).symm.trans g4)
  subst hcA
  have hcB : cB = comp := Option.some.inj (((hK.2 tk _ htk).2 : s.vm.findClass ("[" ++ FieldType.int.toString) = some cB).symm.trans f1)
  subst hcB
  obtain ⟨-, kB, kB1, -⟩ := (hK.2 tk _ htk).1 n2 (fun j => .int (f2 j))
  refine W.aast (t := .array .int) hexec hb (hP q0 _ ha) (fun q h => by cases h) (fun h => by cases h) g2 g3 rfl kB1 ⟨h0, by show _ < (arrV _ _ _).slots.size; rw [arrV_size]; exact hlt⟩ hvc (fun q h => by cases h) kB1 (asg_self _ _) rfl rfl hdg fun H1 e z oq => ?_
  refine kk H1 _ (hP.set hD ha ?_ oq) (hD.set ha) (hS.put z oq (hD.2 q0 _ ha))
  show H1[a]? = some (vp_cell _ _)
  rw [e]
  rw [vp_cell_q, vp_cell_q, arrV_store]
  congr 2
  funext q
  by_cases hq : q = i.toNatClampNeg
  · subst hq
    simp [updV, va_up, va_rf]
  · simp [updV, va_up, hq]
end RAW
/-- a constructor's start: the object alone -/
def PR (D : va_G) (cA : Nat → ClassId) (sz a : Nat) (x : va_E) : Array Value → State → Prop := va_Pc [.ref a] (fun U => U.heap.size = sz ∧ va_P D vwCl [(a, x)] U.heap ∧ Ec D cA U)
theorem Ec.same {D : va_G} {cA : Nat → ClassId} {s U : State} (e : s.vm = U.vm) (h : Ec D cA s) : Ec D cA U := ⟨va_K.moved (by rw [e]; exact Vm.Alike.refl _) h.1, h.2.same e⟩
theorem PR.blind {D : va_G} {cA : Nat → ClassId} {sz a : Nat} {x : va_E} : FrameBlind (PR D cA sz a x) := fun b U f mk h => ⟨h.1, h.2.1, h.2.2.1, Ec.same (s := U) (U := U.calling f mk b) rfl h.2.2.2⟩
def frO (a sz : Nat) : Nat → Prop := fun x => x = a ∨ sz ≤ x
theorem one_D {a sz : Nat} {x : va_E} : va_D (frO a sz) [(a, x)] := by
  refine ⟨fun i j p q h1 h2 _ => ?_, fun k q h => ?_⟩
  · have := (List.getElem?_eq_some_iff.mp h1).1
    have := (List.getElem?_eq_some_iff.mp h2).1
    simp at *
    omega
  · have := (List.getElem?_eq_some_iff.mp h).1
    have hk : k = 0 := by simp at this; omega
    subst hk
    cases h
    exact Or.inl rfl
/-- a cell behind the object: new, and elsewhere -/
theorem two_new {a sz q : Nat} {x y : va_E} {ws : va_W} (i : Nat) (hi : 0 < i) (h0 : ws[0]? = some (a, x)) (h1 : ws[i]? = some (q, y)) (hD : va_D (frO a sz) ws) : sz ≤ q ∧ q ≠ a := by
  have hne : q ≠ a := fun z => by
    have := hD.1 0 i _ _ h0 h1 z.symm
    omega
  exact ⟨(hD.2 i _ h1).resolve_left hne, hne⟩
set_option maxRecDepth 100000 in
set_option maxHeartbeats 4000000 in
theorem m_X5_init (l : Launch) (D : va_G) (cA : Nat → ClassId) (sz a : Nat) : Met l yX5_init (.code yX5_init cX5_init 1 none :: uW) { frames := 1, cells := 1, slots := 4, locals := 20 } (PR D cA sz a (.inr (5, [.int 0, .int 0, .int 0, .int 0, .int 0, .int 0, .null]))) (va_Qv (fun q : Nat => sz ≤ q ∧ q ≠ a) (fun q t => va_P D vwCl [(a, .inr (5, [.int 0, .int 0, .int 0, .int 0, .int 0, .int 0, .ref q])), (q, .inl (cA 0, 4, .inl (fun _ => 0)))] t.heap) (frO a sz)) 1 4 (frO a sz) := by
  refine Met.ofW (cc := cX5_init) (maxL := 1) (ret := none) (by decide +kernel) rfl ?_
  intro p e s m args below meth c s₁ B hml hv
  obtain ⟨rfl, hsz, hP, hE⟩ := hv
  have hts : ∀ w ∈ uW, w.before _ s = true := fun w h => atoms_spec (ws := Cond.code yX5_init cX5_init 1 none :: uW) B.pre w (List.mem_cons_of_mem _ h)
  have hown := findClass_of_methodNamed B.named
  have hl := lv_entry ([.ref a]) (n := 1) (Nat.le_of_ble_eq_true rfl)
  rw [lg_entry_eq]
  generalize (lg_sl ([.ref a]) ++ List.replicate (1 - (lg_sl ([.ref a])).length) Slot.unset).toArray = ls at hl ⊢
  have hl : lv_has ls 1 [(0, .ref a)] := hl
  have hA : ∀ q, s.heap.size ≤ q → frO a sz q := fun q hq => Or.inr (by omega)
  refine lv_aload_n B.exec B.bytes dX5_init_0 rfl (lv_at hl 0 rfl) ?_
  refine W.objInit B.exec B.bytes hown (hts _ u_ml_X5_1) (hts _ u_im_JO_init) (hts _ u_co_JO_init) rfl (hl.1.trans hml.symm) rfl dX5_init_1 (Nat.le_of_ble_eq_true rfl) (Nat.le_of_ble_eq_true rfl) ?_
  refine W.eq (g2 := F0 m (1 + 3) ls []) rfl ?_
  refine lv_aload_n B.exec B.bytes dX5_init_4 rfl (lv_at hl 0 rfl) ?_
  refine lv_iconst (v := 4) B.exec B.bytes dX5_init_5 (by decide) ?_
  refine va_newa (atype := .int) (ty := .int) (a0 := (4, .inl (fun _ => 0))) B.exec B.bytes (hts _ u_ac_int) rfl hE.1 hP one_D va_S.rf hA (fun cA => rfl) (by decide) (by decide) (by decide) (Nat.le_of_ble_eq_true rfl) (Nat.le_of_ble_eq_true rfl) dX5_init_6 (fun q cB H1 hK hP hD hS => ?_)
  have hcB : cB = cA 0 := Option.some.inj ((hK.2 7 (cB, .int) rfl).2.symm.trans (hE.1.2 0 (cA 0, .int) rfl).2)
  subst hcB
  obtain ⟨n1, n2⟩ := two_new 1 (by decide) rfl rfl hD
  refine va_putF (C := RX5) (T := TX5) (N := 7) (ci := 5) B.exec B.bytes hts inW5 tyX5 tyX5_ok nmX5 hown hE.1 hP hD hS 0 rfl rfl 6 (by decide) (hts _ u_fl_X5_7) (fun _ h => h) rfl ((name_of_methodNamed B.named B.method).1.trans rfl) rfl (tyX5_ok 6 (by decide)) rfl rfl (by decide) dX5_init_8 (fun H1 locs1 hP hD hS => ?_)
  exact W.widen (Nat.le_refl _) (Nat.le_refl _) (W.vret B.exec B.bytes B.returns (fun t ht hW => ⟨⟨q, rfl, ⟨n1, n2⟩, by show va_P _ _ _ t.heap; rw [ht]; exact hP⟩, hS.F ht⟩) hS.2.2 dX5_init_11 B.notSynchronized)
theorem nil_Qr {f : Nat → Option Nat} : (fun i => if i < 0 then f i else none) = (fun _ => none : Nat → Option Nat) := by
  funext i
  rw [if_neg (by omega)]
/-- the law's kitchen as it is made -/
def sim0 (cA : Nat → ClassId) (a q1 q2 q3 : Nat) : va_W := [(a, .inr (6, [.int 0, .int 120, .ref q1, .ref q2, .ref q3])), (q1, .inl (cA 1, 0, Qr (fun _ => none))), (q2, .inl (cA 1, 0, Qr (fun _ => none))), (q3, .inl (cA 5, 0, Qr (fun _ => none)))]
set_option maxRecDepth 100000 in
set_option maxHeartbeats 4000000 in
theorem m_X6_init (l : Launch) (D : va_G) (cA : Nat → ClassId) (sz a : Nat) : Met l yX6_init (.code yX6_init cX6_init 1 none :: uW) { frames := 1, cells := 3, slots := 0, locals := 20 } (PR D cA sz a (.inr (6, [.int 0, .int 0, .null, .null, .null]))) (va_Qv (fun q : Nat × Nat × Nat => va_D (frO a sz) (sim0 cA a q.1 q.2.1 q.2.2)) (fun q t => va_P D vwCl (sim0 cA a q.1 q.2.1 q.2.2) t.heap) (frO a sz)) 3 0 (frO a sz) := by
  refine Met.ofW (cc := cX6_init) (maxL := 1) (ret := none) (by decide +kernel) rfl ?_
  intro p e s m args below meth c s₁ B hml hv
  obtain ⟨rfl, hsz, hP, hE⟩ := hv
  have hts : ∀ w ∈ uW, w.before _ s = true := fun w h => atoms_spec (ws := Cond.code yX6_init cX6_init 1 none :: uW) B.pre w (List.mem_cons_of_mem _ h)
  have hown := findClass_of_methodNamed B.named
  have hl := lv_entry ([.ref a]) (n := 1) (Nat.le_of_ble_eq_true rfl)
  rw [lg_entry_eq]
  generalize (lg_sl ([.ref a]) ++ List.replicate (1 - (lg_sl ([.ref a])).length) Slot.unset).toArray = ls at hl ⊢
  have hl : lv_has ls 1 [(0, .ref a)] := hl
  have hA : ∀ q, s.heap.size ≤ q → frO a sz q := fun q hq => Or.inr (by omega)
  have hEL := hE.2.2.2.2.2.2
  have hc1 : ∀ cB : ClassId, s.vm.findClass ("[" ++ (FieldType.array .int).toString) = some cB → cB = cA 1 := fun cB h => Option.some.inj (h.symm.trans (hE.1.2 1 (cA 1, .array .int) rfl).2)
  refine lv_aload_n B.exec B.bytes dX6_init_0 rfl (lv_at hl 0 rfl) ?_
  refine W.objInit B.exec B.bytes hown (hts _ u_ml_X6_1) (hts _ u_im_JO_init) (hts _ u_co_JO_init) rfl (hl.1.trans hml.symm) rfl dX6_init_1 (Nat.le_of_ble_eq_true rfl) (Nat.le_of_ble_eq_true rfl) ?_
  refine W.eq (g2 := F0 m (1 + 3) ls []) rfl ?_
  refine lv_aload_n B.exec B.bytes dX6_init_4 rfl (lv_at hl 0 rfl) ?_
  refine lv_bipush (v := 120) B.exec B.bytes dX6_init_5 (by decide) ?_
  refine va_put (A := frO a sz) (C := RX6) (T := TX6) (N := 5) (ci := 6) B.exec B.bytes hts inW6 tyX6 tyX6_ok nmX6 hown hE.1 hP one_D va_S.rf 0 rfl rfl 1 (by decide) (hts _ u_fl_X6_7) (fun _ h => h) rfl (tyX6_ok 1 (by decide)) rfl rfl (by decide) dX6_init_7 (fun H1 locs1 hP hD hS => ?_)
  refine lv_aload_n B.exec B.bytes dX6_init_10 rfl (lv_at hl 0 rfl) ?_
  refine lv_iconst (v := 0) B.exec B.bytes dX6_init_11 (by decide) ?_
  refine va_newA2 (ty := .int) (N' := 0) B.exec B.bytes hown (hts _ u_cl_X6_13) hEL.1 hE.1 hP hD hS hA (by decide) (by decide) (by decide) (Nat.le_of_ble_eq_true rfl) (Nat.le_of_ble_eq_true rfl) dX6_init_12 (fun q1 cB H1 hcB hP hD hS => ?_)
  obtain rfl := hc1 cB hcB
  refine va_put (A := frO a sz) (C := RX6) (T := TX6) (N := 5) (ci := 6) B.exec B.bytes hts inW6 tyX6 tyX6_ok nmX6 hown hE.1 hP hD hS 0 rfl rfl 2 (by decide) (hts _ u_fl_X6_15) (fun _ h => h) rfl (tyX6_ok 2 (by decide)) rfl rfl (show 2 < 5 by decide) dX6_init_15 (fun H1 locs1 hP hD hS => ?_)
  refine lv_aload_n B.exec B.bytes dX6_init_18 rfl (lv_at hl 0 rfl) ?_
  refine lv_iconst (v := 0) B.exec B.bytes dX6_init_19 (by decide) ?_
  refine va_newA2 (ty := .int) (N' := 0) B.exec B.bytes hown (hts _ u_cl_X6_13) hEL.1 hE.1 hP hD hS hA (by decide) (by decide) (by decide) (Nat.le_of_ble_eq_true rfl) (Nat.le_of_ble_eq_true rfl) dX6_init_20 (fun q2 cB H1 hcB hP hD hS => ?_)
  obtain rfl := hc1 cB hcB
  refine va_put (A := frO a sz) (C := RX6) (T := TX6) (N := 5) (ci := 6) B.exec B.bytes hts inW6 tyX6 tyX6_ok nmX6 hown hE.1 hP hD hS 0 rfl rfl 3 (by decide) (hts _ u_fl_X6_19) (fun _ h => h) rfl (tyX6_ok 3 (by decide)) rfl rfl (show 3 < 5 by decide) dX6_init_23 (fun H1 locs1 hP hD hS => ?_)
  refine lv_aload_n B.exec B.bytes dX6_init_26 rfl (lv_at hl 0 rfl) ?_
  refine lv_iconst (v := 0) B.exec B.bytes dX6_init_27 (by decide) ?_
  refine va_newq (C := "KitchenSpitsLaw$Roast") (N' := 0) B.exec B.bytes hown (hts _ u_cl_X6_22) hEL.2.1 hE.1 hP hD hS hA (by decide) (by decide) (by decide) (Nat.le_of_ble_eq_true rfl) (Nat.le_of_ble_eq_true rfl) dX6_init_28 (fun q3 cB H1 hK hP hD hS => ?_)
  have hcB : cB = cA 5 := by
    obtain ⟨-, -, -, -, -, f1⟩ := (hK.2 7 (cB, .object "KitchenSpitsLaw$Roast") rfl).2
    obtain ⟨-, -, -, -, -, f2⟩ := (hE.1.2 5 (cA 5, .object "KitchenSpitsLaw$Roast") rfl).2
    exact Option.some.inj (f1.symm.trans f2)
  subst hcB
  refine va_put (A := frO a sz) (C := RX6) (T := TX6) (N := 5) (ci := 6) B.exec B.bytes hts inW6 tyX6 tyX6_ok nmX6 hown hE.1 hP hD hS 0 rfl rfl 4 (by decide) (hts _ u_fl_X6_24) (fun _ h => h) rfl (tyX6_ok 4 (by decide)) rfl rfl (show 4 < 5 by decide) dX6_init_31 (fun H1 locs1 hP hD hS => ?_)
  exact W.widen (Nat.le_refl _) (Nat.le_refl _) (W.vret B.exec B.bytes B.returns (fun t ht hW => ⟨⟨(q1, q2, q3), rfl, hD, by show va_P _ _ _ t.heap; rw [ht]; exact hP⟩, hS.F ht⟩) hS.2.2 dX6_init_34 B.notSynchronized)
