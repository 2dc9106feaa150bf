section
-- ===== PART A: goes FIRST, ahead of the names: the tables' words, and 'selects' of the private methods out of them =====
/-- a private method of a class that the tables say can be made, by its rows of tables_1 -/
def lw_okq (q : MethodName × Nat) : Prop := (q.1.cls ≠ "java/lang/invoke/MethodHandle" ∧ q.1.cls ≠ "java/lang/invoke/VarHandle") ∧ Cond.instantiable q.1.cls q.2 ∈ tables_1 ∧ Cond.privateMethod q.1 ∈ tables_1 ∧ Cond.instanceMethod q.1 ∈ tables_1
theorem lw_p0 : lw_okq (⟨"java/lang/Throwable", "fillInStackTrace", "(I)Ljava/lang/Throwable;"⟩, 6) := ⟨⟨by decide +kernel, by decide +kernel⟩, List.mem_of_getElem? (i := 200) (by decide +kernel), List.mem_of_getElem? (i := 198) (by decide +kernel), List.mem_of_getElem? (i := 199) (by decide +kernel)⟩
theorem lw_p1 : lw_okq (⟨"KitchenSpits", "needFire", "(I)LKitchenSpits$Fire;"⟩, 2) := ⟨⟨by decide +kernel, by decide +kernel⟩, List.mem_of_getElem? (i := 16) (by decide +kernel), List.mem_of_getElem? (i := 307) (by decide +kernel), List.mem_of_getElem? (i := 308) (by decide +kernel)⟩
theorem lw_p2 : lw_okq (⟨"KitchenSpits", "needSpit", "(I)LKitchenSpits$Spit;"⟩, 2) := ⟨⟨by decide +kernel, by decide +kernel⟩, List.mem_of_getElem? (i := 16) (by decide +kernel), List.mem_of_getElem? (i := 340) (by decide +kernel), List.mem_of_getElem? (i := 341) (by decide +kernel)⟩
theorem lw_p3 : lw_okq (⟨"KitchenSpits", "needRoast", "(I)LKitchenSpits$Roast;"⟩, 2) := ⟨⟨by decide +kernel, by decide +kernel⟩, List.mem_of_getElem? (i := 16) (by decide +kernel), List.mem_of_getElem? (i := 374) (by decide +kernel), List.mem_of_getElem? (i := 375) (by decide +kernel)⟩
theorem lw_p4 : lw_okq (⟨"KitchenSpits", "needRoastOf", "(LKitchenSpits$Spit;)LKitchenSpits$Roast;"⟩, 2) := ⟨⟨by decide +kernel, by decide +kernel⟩, List.mem_of_getElem? (i := 16) (by decide +kernel), List.mem_of_getElem? (i := 618) (by decide +kernel), List.mem_of_getElem? (i := 619) (by decide +kernel)⟩
def lw_privs_1 : List (MethodName × Nat) := [(⟨"java/lang/Throwable", "fillInStackTrace", "(I)Ljava/lang/Throwable;"⟩, 6), (⟨"KitchenSpits", "needFire", "(I)LKitchenSpits$Fire;"⟩, 2), (⟨"KitchenSpits", "needSpit", "(I)LKitchenSpits$Spit;"⟩, 2), (⟨"KitchenSpits", "needRoast", "(I)LKitchenSpits$Roast;"⟩, 2), (⟨"KitchenSpits", "needRoastOf", "(LKitchenSpits$Spit;)LKitchenSpits$Roast;"⟩, 2)]
theorem lw_r1 : ∀ q ∈ lw_privs_1, lw_okq q := List.forall_mem_cons.mpr ⟨lw_p0, List.forall_mem_cons.mpr ⟨lw_p1, List.forall_mem_cons.mpr ⟨lw_p2, List.forall_mem_cons.mpr ⟨lw_p3, List.forall_mem_cons.mpr ⟨lw_p4, fun _ h => absurd h List.not_mem_nil⟩⟩⟩⟩⟩
def lw_privs : List (MethodName × Nat) := lw_privs_1
def lw_tbl : List Cond := k2_sels lw_privs ++ tables_1
theorem lw_privs_ok : ∀ q ∈ lw_privs, lw_okq q := lw_r1
/-- the streams that the claim lets the run draw from -/
abbrev lw_cs : List Choice := [Jvm.Choice.named "NaN.bits"]
theorem lw_bits : nanBits ∈ lw_cs := by first | decide | exact List.mem_cons_self | simp [lw_cs, nanBits]
-- ===== end of PART A; then your names; then what follows =====
end
section
/-- the tables' word of arrays whose elements are arrays of ty, at a state -/
def va_AOA (ty : FieldType) (U : State) : Prop := (Cond.arrayOver (.array ty)).before #[] U = true
theorem va_AOA.of {ty : FieldType} {A : Array Value} {U : State} (h : (Cond.arrayOver (.array ty)).before A U = true) : va_AOA ty U := h
theorem va_AOA.use {ty : FieldType} {A : Array Value} {U : State} (h : va_AOA ty U) : (Cond.arrayOver (.array ty)).before A U = true := h
theorem va_AOA.moved {ty : FieldType} {u U : State} (hvm : u.vm.Alike U.vm) (h : va_AOA ty u) : va_AOA ty U := by
  obtain ⟨comp, c, k, h1, h2, h3, h4, h5⟩ := arrayOverA_spec h
  obtain ⟨k', hk', he⟩ := hvm.2.2 _ _ h3
  have hi : (U.vm.classes.findIdx? fun (x : Class) => match x.kind with | .array component _ => component == comp | _ => false) = some c := by
    rw [hvm.findIdx?_eq _ (fun _ => rfl)]; exact h2
  have hkind : k'.kind = .array comp (.array ty) := by rw [he]; exact h4
  have f1 : U.vm.findClass (FieldType.array ty).toString = some comp := by rw [hvm.findClass]; exact h1
  have f2 : U.vm.findClass ("[" ++ (FieldType.array ty).toString) = some c := by rw [hvm.findClass]; exact h5
  unfold va_AOA Cond.before Cond.holds
  simp only [Cond.value]
  rw [f1, Option.bind_some]
  refine (congrArg (fun o : Option Nat => (o.bind (fun c => (U.vm.classes[c]?).map fun (k : Class) => match k.kind with | .array _ ty' => decide (ty' = FieldType.array ty) && decide (U.vm.findClass ("[" ++ (FieldType.array ty).toString) = some c) | _ => false) == some true)) hi).trans ?_
  simp [hk', hkind, f2]
end
section
/-! ===== BEGIN words of one list among another's, by their places ===== -/
theorem goodIn_r {big : List Cond} (ws : List Cond) (ps : List Nat) (hp : ws = ps.filterMap (fun i => big[i]?)) (h : ws.all goodWord = true) : GoodIn big ws := by
  intro w hw
  have h1 := List.all_eq_true.mp h w hw
  rw [hp] at hw
  obtain ⟨i, -, hi⟩ := List.mem_filterMap.mp hw
  have hm : w ∈ big := by first | exact List.mem_of_getElem? hi | exact List.getElem?_mem hi
  exact ⟨hm, good_of_word h1⟩
theorem goodIn_app {big a b : List Cond} (ha : GoodIn big a) (hb : GoodIn big b) : GoodIn big (a ++ b) := fun w h => (List.mem_append.mp h).elim (ha w) (hb w)
theorem goodIn_ca {big a b : List Cond} {c : Cond} (ha : GoodIn big (c :: a)) (hb : GoodIn big b) : GoodIn big (c :: (a ++ b)) := fun w h => (List.mem_cons.mp h).elim (fun e => ha w (List.mem_cons.mpr (Or.inl e))) (fun h => (List.mem_append.mp h).elim (fun h => ha w (List.mem_cons.mpr (Or.inr h))) (hb w))
theorem goodIn_sub {big ws : List Cond} (hm : ∀ w ∈ ws, w ∈ big) (h : ws.all goodWord = true) : GoodIn big ws := fun w hw => ⟨hm w hw, good_of_word (List.all_eq_true.mp h w hw)⟩
/-! ===== END ===== -/

/-! ===== BEGIN new T[n][m]: the outer array a place, the inner ones among the pooled ===== -/
/-- f, but v at every address of l -/
def vr_up {α : Type} (f : Nat → α) (l : List Nat) (v : α) : Nat → α := fun a => if a ∈ l then v else f a
theorem vr_up_in {α : Type} {f : Nat → α} {l : List Nat} {v : α} {a : Nat} (h : a ∈ l) : vr_up f l v a = v := if_pos h
theorem vr_up_ne {α : Type} {f : Nat → α} {l : List Nat} {v : α} {a : Nat} (h : a ∉ l) : vr_up f l v a = f a := if_neg h
theorem vr_rows {L l : List Nat} {f : Nat → va_E} {e : va_E} (h : ∀ a, a ∈ l → a ∉ L) : va_pl L f ++ l.map (fun a => (a, e)) = va_pl (L ++ l) (vr_up f l e) := by
  unfold va_pl
  rw [List.map_append]
  congr 1
  · apply List.map_congr_left
    intro a ha
    rw [vr_up_ne (fun q => h a q ha)]
  · apply List.map_congr_left
    intro a ha
    rw [vr_up_in ha]
theorem vr_lay {X rows : va_W} {x : Nat × va_E} {pl : va_W} {D : va_G} {cl : List vw_C} {H : Heap} (hP : va_P D cl (((X ++ pl) ++ [x]) ++ rows) H) : va_P D cl ((X ++ [x]) ++ (pl ++ rows)) H := by
  rw [List.append_assoc (X ++ pl)] at hP
  have h := va_P.swap hP
  rw [← List.append_assoc X] at h
  have h2 := va_P.swap h
  rw [List.append_assoc (X ++ [x])] at h2
  exact h2
theorem vr_layD {X rows : va_W} {x : Nat × va_E} {pl : va_W} {A : Nat → Prop} (hD : va_D A (((X ++ pl) ++ [x]) ++ rows)) : va_D A ((X ++ [x]) ++ (pl ++ rows)) := by
  rw [List.append_assoc (X ++ pl)] at hD
  have h := va_D.swap hD
  rw [← List.append_assoc X] at h
  have h2 := va_D.swap h
  rw [List.append_assoc (X ++ [x])] at h2
  exact h2
theorem vr_outer (c : ClassId) (N h0 : Nat) : ∀ i : Nat, Jvm.Free.Multi.outerC c N h0 i = arrV c N (fun j => va_rf (if j < i then some (h0 + 1 + j) else none))
  | 0 => by
    show ({ cls := c, slots := Array.replicate N .null, vm := .none } : Cell) = _
    rw [arrV_new]
    refine congrArg (arrV c N) (funext fun j => ?_)
    simp [va_rf]
  | i + 1 => by
    show (Jvm.Free.Multi.outerC c N h0 i).setSlot i (.ref (h0 + 1 + i)) = _
    rw [vr_outer c N h0 i, arrV_store]
    refine congrArg (arrV c N) (funext fun j => ?_)
    by_cases e : j = i
    · subst e
      simp [updV, va_rf]
    · by_cases h : j < i
      · simp [updV, e, h, Nat.lt_succ_of_lt h]
      · simp [updV, e, h, show ¬ j < i + 1 by omega]
section VGM
variable {p : Program} {l : Launch} {e : Env} {R : Room} {s : State} {m : MethodId} {args : Array Value} {below : List Frame} {meth : Method} {c : Code} {H : Heap} {locs : List Loc} {cells slots : Nat} {Q : State → Prop}
variable {cc : ByteArray} {pc : Nat} {ls : Array Slot} {rest : List Value} {D : va_G} {cl : List vw_C} {A : Nat → Prop} {a : Nat} {tys : List (ClassId × FieldType)} {ws : va_W} {H0 : Heap}
theorem va_mna {X : va_W} {L : List Nat} {f : Nat → va_E} {cc : ByteArray} (hexec : p.tables.exec = Jvm.exec) (hb : c.code = cc) {own : String} {index : Nat} {ty : FieldType} {cy : ClassId} (hown : s.vm.findClass own = some m.cls) (hclink : (Cond.classLink own index ("[" ++ (FieldType.array ty).toString)).before args s = true) (hover : va_AOA ty s) (harr : (Cond.arrayClass ty).before args s = true) (hcy : s.vm.findClass (FieldType.array ty).toString = some cy)
    (hK : va_K D cl tys s) (hP : va_P D cl (X ++ va_pl L f) H) (hD : va_D A (X ++ va_pl L f)) (hS : va_S A H0 H locs) (hA : ∀ q, H0.size ≤ q → A q) {n k : Int32} {N' K' : Nat} {z : vp_A} (hn : ¬ n < 0) (hk : ¬ k < 0) (hN : n.toNatClampNeg = N') (hM : k.toNatClampNeg = K')
    (hb1 : N' * 4 ≤ 536870912) (hb2 : K' * componentBytes ty ≤ 536870912) (hb3 : K' ≤ 536870912) (hdf : fits ty (defaultValue ty) = true) (hdd : (defaultValue ty).isDefault = true) (hcells : cells + (1 + N') ≤ R.cells) (hslots : slots + (N' + N' * K') ≤ R.slots) (hz : ∀ c : ClassId, Jvm.Free.Multi.innerC c K' (defaultValue ty) = vp_cell c z) (hdg : decode cc pc = .ok (.multianewarray index 2, 4))
    (kk : ∀ (q : Nat) (r : Nat → Nat) (cA : ClassId) (H1 : Heap), (∀ i j : Nat, i < N' → j < N' → r i = r j → i = j) → (∀ i : Nat, i < N' → r i ∉ L) → va_K D cl (tys ++ [(cA, .array ty)]) s →
      va_P D cl ((X ++ [(q, .inl (cA, N', .inr (.inr (.inr (.inr (fun i => if i < N' then some (r i) else none))))))]) ++ va_pl (L ++ (List.range N').map r) (vr_up f ((List.range N').map r) (.inl (cy, z)))) H1 → va_D A ((X ++ [(q, .inl (cA, N', .inr (.inr (.inr (.inr (fun i => if i < N' then some (r i) else none))))))]) ++ va_pl (L ++ (List.range N').map r) (vr_up f ((List.range N').map r) (.inl (cy, z)))) → va_S A H0 H1 locs →
      W p l e R s m args below meth c H1 locs (cells + 1 + N') (slots + N' + N' * K') Q (F0 m (pc + 4) ls (.ref q :: rest))) : W p l e R s m args below meth c H locs cells slots Q (F0 m pc ls (.int k :: .int n :: rest)) := by
  subst hN
  subst hM
  intro T hT Xs
  obtain ⟨vm₁, cA, comp, -, fA, fC, hO, -, X', step⟩ := Xs.multianewarray2F hexec hown hclink (va_AOA.use hover) harr (g := F0 m pc ls (.int k :: .int n :: rest)) rfl (by rw [hb]; exact hdg) rfl hn hk hb1 hb2 hb3 hdf hdd hcells hslots
  have ec : some cy = some comp := hcy.symm.trans fC
  cases ec
  generalize hF : Jvm.Free.Multi.fill (T.setVm vm₁) cA cy n.toNatClampNeg k.toNatClampNeg (defaultValue ty) n.toNatClampNeg = F at X' step
  have hTh : (T.setVm vm₁).heap = H := hT
  obtain ⟨f1, f2, -, -⟩ := Jvm.Free.Multi.fill_facts (T.setVm vm₁) cA cy n.toNatClampNeg k.toNatClampNeg (defaultValue ty) n.toNatClampNeg
  rw [hF, hTh] at f1 f2
  have hold : ∀ x : Nat, x < H.size → F.heap[x]? = H[x]? := fun x hx => by
    have := Jvm.Free.Multi.fill_old (T.setVm vm₁) cA cy n.toNatClampNeg k.toNatClampNeg (defaultValue ty) (a := x) (by rw [hTh]; exact hx) n.toNatClampNeg
    rw [hF, hTh] at this
    exact this
  have hrow : ∀ j : Nat, j < n.toNatClampNeg → F.heap[H.size + 1 + j]? = some (vp_cell cy z) := fun j hj => by
    have := Jvm.Free.Multi.fill_inner (T.setVm vm₁) cA cy n.toNatClampNeg k.toNatClampNeg (defaultValue ty) n.toNatClampNeg j hj
    rw [hF, hTh, hz] at this
    exact this
  have hout : Jvm.Free.Multi.outerC cA n.toNatClampNeg H.size n.toNatClampNeg = vp_cell cA (n.toNatClampNeg, .inr (.inr (.inr (.inr (fun i => if i < n.toNatClampNeg then some (H.size + 1 + i) else none))))) := by
    rw [vp_cell_q]
    exact vr_outer cA n.toNatClampNeg H.size n.toNatClampNeg
  rw [hout] at f2
  have hlt : ∀ a, a ∈ L → a < H.size := fun a ha => by
    obtain ⟨k9, hk9⟩ := va_pl_get (X := X) (f := f) ha
    exact (hP k9 _ hk9).lt
  have hnl : ∀ i : Nat, i < n.toNatClampNeg → H.size + 1 + i ∉ L := fun i _ h => by
    have := hlt _ h
    omega
  have hnm : ∀ a, a ∈ (List.range n.toNatClampNeg).map (fun i => H.size + 1 + i) → a ∉ L := fun a ha h => by
    obtain ⟨i, -, rfl⟩ := List.mem_map.mp ha
    have := hlt _ h
    omega
  have hP0 : va_P D cl (X ++ va_pl L f) F.heap := hP.kept (fun k9 x hx => hold x.1 ((hP k9 x hx).lt))
  have hP1 : va_P D cl ((X ++ va_pl L f) ++ [(H.size, .inl (cA, n.toNatClampNeg, .inr (.inr (.inr (.inr (fun i => if i < n.toNatClampNeg then some (H.size + 1 + i) else none))))))]) F.heap := hP0.app (fun k9 x hx => by
    have h0 : k9 < 1 := (List.getElem?_eq_some_iff.mp hx).1
    rw [show k9 = 0 by omega] at hx
    cases hx
    exact f2)
  have hP2 : va_P D cl (((X ++ va_pl L f) ++ [(H.size, .inl (cA, n.toNatClampNeg, .inr (.inr (.inr (.inr (fun i => if i < n.toNatClampNeg then some (H.size + 1 + i) else none))))))]) ++ ((List.range n.toNatClampNeg).map (fun i => H.size + 1 + i)).map (fun a => (a, .inl (cy, z)))) F.heap := hP1.app (fun k9 x hx => by
    obtain ⟨a, ha, rfl⟩ := List.mem_map.mp (List.mem_of_getElem? hx)
    obtain ⟨i, hi, rfl⟩ := List.mem_map.mp ha
    exact hrow i (List.mem_range.mp hi))
  have hD2 : va_D A (((X ++ va_pl L f) ++ [(H.size, .inl (cA, n.toNatClampNeg, .inr (.inr (.inr (.inr (fun i => if i < n.toNatClampNeg then some (H.size + 1 + i) else none))))))]) ++ ((List.range n.toNatClampNeg).map (fun i => H.size + 1 + i)).map (fun a => (a, .inl (cy, z)))) := by
    have hD1 := hD.push (e := .inl (cA, n.toNatClampNeg, .inr (.inr (.inr (.inr (fun i => if i < n.toNatClampNeg then some (H.size + 1 + i) else none)))))) hP rfl (hA _ hS.1)
    generalize hW1 : (X ++ va_pl L f) ++ [(H.size, .inl (cA, n.toNatClampNeg, .inr (.inr (.inr (.inr (fun i => if i < n.toNatClampNeg then some (H.size + 1 + i) else none))))))] = W1 at hD1 hP1 ⊢
    have hle : ∀ (k9 : Nat) (x : Nat × va_E), W1[k9]? = some x → x.1 ≤ H.size := fun k9 x hx => by
      rw [← hW1] at hx
      by_cases hl : k9 < (X ++ va_pl L f).length
      · rw [List.getElem?_append_left hl] at hx
        exact Nat.le_of_lt ((hP k9 x hx).lt)
      · rw [List.getElem?_append_right (by omega)] at hx
        have h0 : k9 - (X ++ va_pl L f).length < 1 := (List.getElem?_eq_some_iff.mp hx).1
        rw [show k9 - (X ++ va_pl L f).length = 0 by omega] at hx
        cases hx
        exact Nat.le_refl _
    have hr : ∀ (k9 : Nat) (x : Nat × va_E), (((List.range n.toNatClampNeg).map (fun i => H.size + 1 + i)).map (fun a => ((a, .inl (cy, z)) : Nat × va_E)))[k9]? = some x → x.1 = H.size + 1 + k9 := fun k9 x hx => by
      rw [List.getElem?_map, List.getElem?_map] at hx
      by_cases h9 : k9 < n.toNatClampNeg
      · rw [List.getElem?_range h9] at hx
        cases hx
        rfl
      · have hn0 : (List.range n.toNatClampNeg)[k9]? = none := List.getElem?_eq_none (by rw [List.length_range]; omega)
        rw [hn0] at hx
        cases hx
    refine ⟨fun i j x y hi hj hxy => ?_, fun k9 x hx => ?_⟩
    · by_cases h1 : i < W1.length <;> by_cases h2 : j < W1.length
      · rw [List.getElem?_append_left h1] at hi
        rw [List.getElem?_append_left h2] at hj
        exact hD1.1 i j x y hi hj hxy
      · rw [List.getElem?_append_left h1] at hi
        rw [List.getElem?_append_right (by omega)] at hj
        have := hle _ _ hi
        have := hr _ _ hj
        omega
      · rw [List.getElem?_append_right (by omega)] at hi
        rw [List.getElem?_append_left h2] at hj
        have := hle _ _ hj
        have := hr _ _ hi
        omega
      · rw [List.getElem?_append_right (by omega)] at hi hj
        have := hr _ _ hi
        have := hr _ _ hj
        omega
    · by_cases h1 : k9 < W1.length
      · rw [List.getElem?_append_left h1] at hx
        exact hD1.2 k9 x hx
      · rw [List.getElem?_append_right (by omega)] at hx
        have := hr _ _ hx
        exact hA _ (by have := hS.1; omega)
  have hAr : ArrOfT s cA (.array ty) := fun N9 z9 => by
    obtain ⟨-, k9, hk9, cm9, hkk9⟩ := (hO 0 0 0).1
    exact ⟨(fun q hq => by cases hq), k9, hk9, cm9, hkk9⟩
  have hK2 : va_K D cl (tys ++ [(cA, .array ty)]) s := ⟨hK.1, fun k9 x hx => by
    by_cases hl : k9 < tys.length
    · rw [List.getElem?_append_left hl] at hx
      exact hK.2 k9 x hx
    · rw [List.getElem?_append_right (by omega)] at hx
      have h0 : k9 - tys.length < 1 := (List.getElem?_eq_some_iff.mp hx).1
      rw [show k9 - tys.length = 0 by omega] at hx
      cases hx
      exact ⟨hAr, fA⟩⟩
  obtain ⟨t, a1, b1⟩ := kk H.size (fun i => H.size + 1 + i) cA F.heap (fun i j _ _ h => by have h9 : H.size + 1 + i = H.size + 1 + j := h; omega) hnl hK2 (by rw [← vr_rows hnm]; exact vr_lay hP2) (by rw [← vr_rows hnm]; exact vr_layD hD2) ⟨by rw [f1]; have := hS.1; omega, fun x h1 h2 => (hold x (Nat.lt_of_lt_of_le h1 hS.1)).trans (hS.2.1 x h1 h2), hS.2.2⟩ F rfl X'
  refine ⟨t, step t ?_, b1⟩
  have e : T.heap.size = H.size := by rw [hT]
  rw [e]
  exact a1
end VGM
/-! ===== END ===== -/

/-! ===== BEGIN exceptions that leave a method, and their catching by the caller (launches without stack traces) ===== -/
section VXA
/-! The laws vx_back, vx_callV, vx_callS, vx_callSW, vx_throw0, vx_throwS follow proofs of the library, with one case more: JvmDerived/Free/Laws.lean (Back.of_free), Shelf42/LK1.lean (callV, callS), Shelf/KitTraced.lean (throwNew0V, throwNewS). -/
/-- where a method has thrown q: the class by its name, the cell, what was written, the world -/
def vx_T (XC : String → State → State → Prop) (st : State) (q : Addr) (t : State) (mc ms : Nat) (free : Addr → Prop) : Prop :=
  ∃ (E : String) (ce : Cell) (L : List Loc), XC E st t ∧ t.heap[q]? = some ce ∧ ce.vm = .none ∧ st.vm.findClass E = some ce.cls ∧ st.WarmedH t.vm ∧ st.sameButNew ({ t with vm := st.vm } : State) L mc ms ∧ ∀ z ∈ L, free z.base
def vx_Q (Qc : Array Value → State → Outcome → State → Prop) (XC : String → State → State → Prop) (mc ms : Nat) (free : Addr → Prop) : Array Value → State → Outcome → State → Prop := fun a st o t =>
  (Qc a st o t ∧ ∃ L, FrameEnd st o t L mc ms ∧ ∀ q ∈ L, free q.base) ∨ ∃ q, o = .threw q ∧ vx_T XC st q t mc ms free
/-- a callee that returns or throws -/
def vx_Met (l : Launch) (y : MethodName) (ws : List Cond) (rm : Room) (Pc : Array Value → State → Prop) (Qc : Array Value → State → Outcome → State → Prop) (XC : String → State → State → Prop) (mc ms : Nat) (free : Addr → Prop) : Prop :=
  MetFree l y (headSpec ws rm) Pc (fun _ _ _ _ _ => True) (vx_Q Qc XC mc ms free)
def vx_Post (XC : String → State → State → Prop) (mc ms : Nat) (free : Addr → Prop) : Pt → Array Value → Addr → Pt → Prop := fun A a q B =>
  ∃ (g : JFrame) (mk : MethodId) (t : State) (L : List Loc) (E : String) (ce : Cell), B.U.heap = t.heap ∧ B.U.vm = t.vm ∧ XC E (A.U.calling g mk a) t ∧ t.heap[q]? = some ce ∧ ce.vm = .none ∧ A.U.vm.findClass E = some ce.cls ∧ B.locs = A.locs ++ L ∧ (∀ z ∈ L, free z.base) ∧ B.cells = A.cells + mc ∧ B.slots = A.slots + ms
def vx_Back (l : Launch) (R : Room) (p : Program) (e : Env) (below : List Frame) (s : State) (sargs : Array Value) (y : MethodName) (len W9 : Nat)
    (Pre : Pt → Array Value → Prop) (Post : Pt → Array Value → Option Value → Pt → Prop) (PostX : Pt → Array Value → Addr → Pt → Prop) : Prop :=
  ∀ (m : MethodId) (meth : Method) (c : Code) (A : Pt) (g : JFrame) (ig : Instr) (mk : MethodId) (a : Array Value),
    Stand p l e R s m sargs below meth c A.U A.locs A.cells A.slots → g.method = m → g.locals.size = c.maxLocals → decode c.code g.pc = .ok (ig, len) →
    2 * g.monitorRoom + (g.stack.map fun v => v.category).sum ≤ W9 → A.U.methodNamed? y = some mk → Pre A a →
    (∃ (v : Option Value) (B : Pt), Stand p l e R s m sargs below meth c B.U B.locs B.cells B.slots ∧ Post A a v B ∧
      Steps p.tables e below (doInvoke e (A.U.setTop g) [] mk a).1 (B.U.setTop { g with pc := g.pc + len, stack := v.toList ++ g.stack })) ∨
    (∃ (q : Addr) (B : Pt), Stand p l e R s m sargs below meth c B.U B.locs B.cells B.slots ∧ PostX A a q B ∧
      Steps p.tables e below (doInvoke e (A.U.setTop g) [] mk a).1 ((B.U.setTop g).pushFrame (.throwing q)))
section Payer
variable {l : Launch} {R : Room} {p : Program} {e : Env} {below : List Frame} {s : State} {sargs : Array Value} {y : MethodName} {len W9 : Nat}
theorem vx_back {ws : List Cond} {rm : Room} {Pc : Array Value → State → Prop} {Qc : Array Value → State → Outcome → State → Prop} {XC : String → State → State → Prop} {mc ms : Nat} {free : Addr → Prop} {bytes : ByteArray} {maxL : Nat} {ret : Option FieldType}
    (hM : vx_Met l y ws rm Pc Qc XC mc ms free) (hblind : FrameBlind Pc) (hrc : rm.cells = mc) (hrs : rm.slots = ms)
    (hframes : rm.frames + 1 ≤ R.frames) (hlocals : W9 + (maxL + 11) + rm.locals ≤ R.locals)
    (hws : ∀ w ∈ ws, ∀ a' U, s.WarmedH U.vm → w.before a' U = true) (hcode : Cond.code y bytes maxL ret ∈ ws) (hinit : ∀ a' U, s.WarmedH U.vm → (Cond.initialized y.cls).before a' U = true) :
    vx_Back l R p e below s sargs y len W9 (PreOf R mc ms Pc) (PostOf Qc mc ms free) (vx_Post XC mc ms free) := by
  intro m meth c A g ig mk a X hg hsize hdg hW hn hp
  have h1 : (headSpec ws rm).pre.before a A.U = true := atoms_intro fun w hw => hws w hw _ _ X.warmed
  have h2 : (Cond.code y bytes maxL ret).before a A.U = true := hws _ hcode _ _ X.warmed
  have h3 : (Cond.initialized y.cls).before a A.U = true := hinit _ _ X.warmed
  have h4 : A.cells + (headSpec ws rm).room.cells ≤ R.cells := by rw [show (headSpec ws rm).room.cells = mc from hrc]; exact hp.1
  have h5 : A.slots + (headSpec ws rm).room.slots ≤ R.slots := by rw [show (headSpec ws rm).room.slots = ms from hrs]; exact hp.2.1
  have hPc : Pc a (A.U.calling g mk a) := hblind _ _ _ _ hp.2.2
  obtain ⟨U, Ls, c0, s0⟩ := A
  dsimp only [Pt.U, Pt.locs, Pt.cells, Pt.slots] at h1 h2 h3 h4 h5 X hn hPc ⊢
  obtain ⟨methY, cY, hmY, hcY, -, hlY, -, -, -, -⟩ := Cond.code_spec hn h2
  obtain ⟨kY, hkY, -⟩ := className_of_methodNamed hn
  have hinitY : kY.init = .initialized := Cond.initialized_spec (findClass_of_methodNamed hn) hkY h3
  have h : At U g.method c below := by rw [hg]; exact X.here
  have hlocals9 : W9 + (maxL + 11) + (headSpec ws rm).room.locals ≤ R.locals := hlocals
  have happ : (headSpec ws rm).appliesLoose y e.platform (U.calling g mk a) = true :=
    Spec.appliesLoose_calling (g := g) h hdg hn hkY hinitY
      (X.room_calling (g := g) (R' := (headSpec ws rm).room) hsize hmY hcY hframes (by rw [hlY]; omega) h4 h5) h1
  obtain ⟨mid, hmid⟩ := h.above
  have hfr : (U.setTop g).frames = (.java g :: mid) ++ below := by rw [State.frames_setTop' g h.top, hmid]; rfl
  obtain ⟨o, s₂, hsteps, -, hend, hq⟩ := Steps.callFree hM p X.admits X.cas X.clock (acts := []) hfr happ hPc trivial
  have hq' : vx_Q Qc XC mc ms free a (U.calling g mk a) o s₂ := hq
  rw [State.frames_setTop' g h.top] at hend
  obtain ⟨g₀, hg0⟩ := Option.isSome_iff_exists.mp h.top
  obtain ⟨r, hr⟩ := State.topJava?_eq_some.mp hg0
  have hr' : (({ U with heap := s₂.heap, slotsUsed := s₂.slotsUsed } : State).setVm s₂.vm).frames = .java g₀ :: r := hr
  rcases hq' with ⟨hqc, L, hfe, hL⟩ | ⟨q, rfl, E, ce, L, hx, hce, hcv, hcl, hW₂, hsm, hL⟩
  · obtain ⟨⟨v, rfl⟩, hW₂, e2, q2, q3, q4, q5, q6⟩ := id hfe
    have e3 : s₂ = ({ (U.calling g mk a).setFrames s₂.frames with heap := s₂.heap, slotsUsed := s₂.slotsUsed } : State).setVm s₂.vm := by
      have : s₂ = ({ s₂ with vm := (U.calling g mk a).vm } : State).setVm s₂.vm := rfl
      rw [e2] at this
      exact this
    obtain ⟨c₂, i₂, len₂, hc₂, hd₂, hf₂⟩ := hend
    have hW' : U.WarmedH s₂.vm := hW₂
    have hcc : c₂ = c := by
      have h1 : s₂.code? g.method = U.code? g.method := by
        rw [State.code?_eq, State.code?_eq, hW'.alike.method?]
      exact Option.some.inj (hc₂.symm.trans (h1.trans h.code))
    subst hcc
    have hlen : len₂ = len := by rw [hdg] at hd₂; cases hd₂; rfl
    subst hlen
    have hs₂ : s₂ = (({ U with heap := s₂.heap, slotsUsed := s₂.slotsUsed } : State).setVm s₂.vm).setTop { g with pc := g.pc + len₂, stack := v.toList ++ g.stack } := by
      refine e3.trans ?_
      rw [hf₂, State.calling_eq h.top, State.setFrames_setFrames, State.setTop_of_frames _ hr', hr]
      rfl
    have hsame : U.sameButNew ({ U with heap := s₂.heap, slotsUsed := s₂.slotsUsed } : State) L mc ms := by
      refine ⟨?_, q2, q3, q4, q5, q6⟩
      obtain ⟨t, ht, -⟩ := State.frames_cons hr
      show ({ U with heap := s₂.heap, slotsUsed := s₂.slotsUsed } : State) = { U.setFrames U.frames with heap := s₂.heap, slotsUsed := s₂.slotsUsed }
      rw [State.setFrames_self ht]
    subst hg
    refine Or.inl ⟨v, ⟨(({ U with heap := s₂.heap, slotsUsed := s₂.slotsUsed } : State).setVm s₂.vm), Ls ++ L, c0 + mc, s0 + ms⟩,
      ⟨X.admits, X.cas, X.clock, X.frames, X.room, X.hears, X.method, X.code, (X.here.setHeapUsed s₂.heap s₂.slotsUsed).setVm hW'.alike, X.tail, State.WarmedH.trans X.warmed hW', X.limits, X.bytes, X.same.trans (hsame.setVm s.vm)⟩,
      ⟨g, mk, s₂, L, rfl, rfl, hqc, rfl, hL, rfl, rfl⟩, ?_⟩
    show Steps p.tables e below _ ((({ U with heap := s₂.heap, slotsUsed := s₂.slotsUsed } : State).setVm s₂.vm).setTop { g with pc := g.pc + len₂, stack := v.toList ++ g.stack })
    rw [← hs₂]
    exact hsteps
  · obtain ⟨e2, q2, q3, q4, q5, q6⟩ := id hsm
    have e3 : s₂ = ({ (U.calling g mk a).setFrames s₂.frames with heap := s₂.heap, slotsUsed := s₂.slotsUsed } : State).setVm s₂.vm := by
      have : s₂ = ({ s₂ with vm := (U.calling g mk a).vm } : State).setVm s₂.vm := rfl
      rw [e2] at this
      exact this
    have hf₂ : s₂.frames = .throwing q :: .java g :: U.frames.tail := hend
    have hW' : U.WarmedH s₂.vm := hW₂
    have hs₂ : s₂ = ((({ U with heap := s₂.heap, slotsUsed := s₂.slotsUsed } : State).setVm s₂.vm).setTop g).pushFrame (.throwing q) := by
      refine e3.trans ?_
      rw [hf₂, State.calling_eq h.top, State.setFrames_setFrames, State.pushFrame, State.frames_setTop _ hr', State.setTop_of_frames _ hr', State.setFrames_setFrames, hr]
      rfl
    have hsame : U.sameButNew ({ U with heap := s₂.heap, slotsUsed := s₂.slotsUsed } : State) L mc ms := by
      refine ⟨?_, q2, q3, q4, q5, q6⟩
      obtain ⟨t, ht, -⟩ := State.frames_cons hr
      show ({ U with heap := s₂.heap, slotsUsed := s₂.slotsUsed } : State) = { U.setFrames U.frames with heap := s₂.heap, slotsUsed := s₂.slotsUsed }
      rw [State.setFrames_self ht]
    subst hg
    refine Or.inr ⟨q, ⟨(({ U with heap := s₂.heap, slotsUsed := s₂.slotsUsed } : State).setVm s₂.vm), Ls ++ L, c0 + mc, s0 + ms⟩,
      ⟨X.admits, X.cas, X.clock, X.frames, X.room, X.hears, X.method, X.code, (X.here.setHeapUsed s₂.heap s₂.slotsUsed).setVm hW'.alike, X.tail, State.WarmedH.trans X.warmed hW', X.limits, X.bytes, X.same.trans (hsame.setVm s.vm)⟩,
      ⟨g, mk, s₂, L, E, ce, rfl, rfl, hx, hce, hcv, hcl, rfl, hL, rfl, rfl⟩, ?_⟩
    show Steps p.tables e below _ (((({ U with heap := s₂.heap, slotsUsed := s₂.slotsUsed } : State).setVm s₂.vm).setTop g).pushFrame (.throwing q))
    rw [← hs₂]
    exact hsteps
end Payer
section Calls
variable {p : Program} {l : Launch} {e : Env} {R : Room} {s : State} {m : MethodId} {args : Array Value} {below : List Frame} {meth : Method} {c : Code} {T : State} {locs : List Loc} {cells slots : Nat}
theorem vx_callV (X : Stand p l e R s m args below meth c T locs cells slots) (hexec : p.tables.exec = Jvm.exec) {own C : String} {index : Nat} {y : MethodName} {bytes : ByteArray} {maxL : Nat} {ret : Option FieldType}
    (hown : s.vm.findClass own = some m.cls) (hlink : (Cond.methodLink own index y).before args s = true) (hinst : (Cond.instanceMethod y).before args s = true) (hsel : (Cond.selects C y y).before args s = true)
    (hcode : (Cond.code y bytes maxL ret).before args s = true) (hy : y.cls ≠ "java/lang/invoke/MethodHandle" ∧ y.cls ≠ "java/lang/invoke/VarHandle")
    {W9 : Nat} {Pre : Pt → Array Value → Prop} {Post : Pt → Array Value → Option Value → Pt → Prop} {PostX : Pt → Array Value → Addr → Pt → Prop} (hK : vx_Back l R p e below s args y 3 W9 Pre Post PostX)
    {b : Addr} {cellB : Cell} (hcell : T.heap[b]? = some cellB) (hobj : cellB.vm.isStatics = false) (hcls : s.vm.findClass C = some cellB.cls)
    {g : JFrame} (hg : g.method = m) (hsize : g.locals.size = c.maxLocals) {argsL rest : List Value} (hlen : ∀ sig, parseMethodDescriptor y.desc = some sig → argsL.length = sig.parameters.length)
    (hstack : g.stack = argsL.reverse ++ .ref b :: rest) (hW : 2 * g.monitorRoom + (rest.map fun v => v.category).sum ≤ W9) (hdg : decode c.code g.pc = .ok (.invokevirtual index, 3))
    (hpre : ∀ vm₁, s.WarmedH vm₁ → Pre ⟨T.setVm vm₁, locs, cells, slots⟩ (Value.ref b :: argsL).toArray) :
    (∃ (v : Option Value) (vm₁ : Vm) (B : Pt), s.WarmedH vm₁ ∧ Stand p l e R s m args below meth c B.U B.locs B.cells B.slots ∧ Post ⟨T.setVm vm₁, locs, cells, slots⟩ (Value.ref b :: argsL).toArray v B ∧
      ∀ target, Steps p.tables e below (B.U.setTop { g with pc := g.pc + 3, stack := v.toList ++ rest }) target → Steps p.tables e below (T.setTop g) target) ∨
    (∃ (q : Addr) (vm₁ : Vm) (B : Pt), s.WarmedH vm₁ ∧ Stand p l e R s m args below meth c B.U B.locs B.cells B.slots ∧ PostX ⟨T.setVm vm₁, locs, cells, slots⟩ (Value.ref b :: argsL).toArray q B ∧
      Steps p.tables e below (T.setTop g) ((B.U.setTop { g with stack := rest }).pushFrame (.throwing q))) := by
  obtain ⟨mk, methM, hnamed, hmethM, hstM, habM⟩ := Cond.instanceMethod_spec hinst
  obtain ⟨methM', cM, hmethM', -, -, -, -, -, -, hsigM⟩ := Cond.code_spec hnamed hcode
  cases hmethM.symm.trans hmethM'
  obtain ⟨c2, r2, m2, q1, q2, q3, q4, kP, hkP, hkPi⟩ := Cond.selects_spec hsel
  cases hcls.symm.trans q1
  cases (State.methodFound?_of_named hnamed hy).symm.trans q2
  cases hnamed.symm.trans q3
  have hselP : selectMethod e.platform s.vm cellB.cls mk = .method mk := by rw [Launch.admits_selectMethod X.admits]; exact q4
  obtain ⟨vm₁, X₁, hstep₁⟩ := X.invokevirtual hexec hown hlink hnamed hmethM hstM hkP hkPi hy (a := b) (cell := cellB) hcell
    (fun z h => by rw [h] at hobj; cases hobj) hselP hmethM habM hkP hkPi (g := g) hg (argsL := argsL) (rest := rest) (hlen _ hsigM) hstack hdg
  rcases hK m meth c ⟨T.setVm vm₁, locs, cells, slots⟩ { g with stack := rest } (.invokevirtual index) mk (Value.ref b :: argsL).toArray X₁ hg hsize hdg hW (X₁.named hnamed) (hpre vm₁ X₁.warmed) with ⟨v, B, X', hpost, hsteps⟩ | ⟨q, B, X', hpost, hsteps⟩
  · exact Or.inl ⟨v, vm₁, B, X₁.warmed, X', hpost, fun target h => hstep₁ _ fun acts => by rw [doInvoke_state]; exact hsteps.trans h⟩
  · exact Or.inr ⟨q, vm₁, B, X₁.warmed, X', hpost, hstep₁ _ fun acts => by rw [doInvoke_state]; exact hsteps⟩
theorem vx_callS (X : Stand p l e R s m args below meth c T locs cells slots) (hexec : p.tables.exec = Jvm.exec) {own : String} {index : Nat} {y : MethodName} {bytes : ByteArray} {maxL : Nat} {ret : Option FieldType}
    (hown : s.vm.findClass own = some m.cls) (hlink : (Cond.methodLink own index y).before args s = true) (hstat : (Cond.static y).before args s = true) (hinit : (Cond.initialized y.cls).before args s = true)
    (hcode : (Cond.code y bytes maxL ret).before args s = true) (hy : y.cls ≠ "java/lang/invoke/MethodHandle" ∧ y.cls ≠ "java/lang/invoke/VarHandle")
    {W9 : Nat} {Pre : Pt → Array Value → Prop} {Post : Pt → Array Value → Option Value → Pt → Prop} {PostX : Pt → Array Value → Addr → Pt → Prop} (hK : vx_Back l R p e below s args y 3 W9 Pre Post PostX)
    {g : JFrame} (hg : g.method = m) (hsize : g.locals.size = c.maxLocals) {argsL rest : List Value} (hlen : ∀ sig, parseMethodDescriptor y.desc = some sig → argsL.length = sig.parameters.length)
    (hstack : g.stack = argsL.reverse ++ rest) (hW : 2 * g.monitorRoom + (rest.map fun v => v.category).sum ≤ W9) (hdg : decode c.code g.pc = .ok (.invokestatic index, 3))
    (hpre : ∀ vm₁, s.WarmedH vm₁ → Pre ⟨T.setVm vm₁, locs, cells, slots⟩ argsL.toArray) :
    (∃ (v : Option Value) (vm₁ : Vm) (B : Pt), s.WarmedH vm₁ ∧ Stand p l e R s m args below meth c B.U B.locs B.cells B.slots ∧ Post ⟨T.setVm vm₁, locs, cells, slots⟩ argsL.toArray v B ∧
      ∀ target, Steps p.tables e below (B.U.setTop { g with pc := g.pc + 3, stack := v.toList ++ rest }) target → Steps p.tables e below (T.setTop g) target) ∨
    (∃ (q : Addr) (vm₁ : Vm) (B : Pt), s.WarmedH vm₁ ∧ Stand p l e R s m args below meth c B.U B.locs B.cells B.slots ∧ PostX ⟨T.setVm vm₁, locs, cells, slots⟩ argsL.toArray q B ∧
      Steps p.tables e below (T.setTop g) ((B.U.setTop { g with stack := rest }).pushFrame (.throwing q))) := by
  obtain ⟨mk, hnamed⟩ := Cond.code_named hcode
  obtain ⟨methM, cM, hmethM, -, -, -, -, -, -, hsigM⟩ := Cond.code_spec hnamed hcode
  have hstatic : methM.isStatic = true := Cond.static_spec hnamed hmethM hstat
  obtain ⟨kP, hkP, -⟩ := className_of_methodNamed hnamed
  have hinitP : kP.init = .initialized := Cond.initialized_spec (findClass_of_methodNamed hnamed) hkP hinit
  obtain ⟨vm₁, X₁, hstep₁⟩ := X.invokestatic hexec hown hlink hnamed hmethM hstatic hkP hinitP hy (g := g) hg (argsL := argsL) (rest := rest) (hlen _ hsigM) hstack hdg
  rcases hK m meth c ⟨T.setVm vm₁, locs, cells, slots⟩ { g with stack := rest } (.invokestatic index) mk argsL.toArray X₁ hg hsize hdg hW (X₁.named hnamed) (hpre vm₁ X₁.warmed) with ⟨v, B, X', hpost, hsteps⟩ | ⟨q, B, X', hpost, hsteps⟩
  · exact Or.inl ⟨v, vm₁, B, X₁.warmed, X', hpost, fun target h => hstep₁ _ fun acts => by rw [doInvoke_state]; exact hsteps.trans h⟩
  · exact Or.inr ⟨q, vm₁, B, X₁.warmed, X', hpost, hstep₁ _ fun acts => by rw [doInvoke_state]; exact hsteps⟩
end Calls
theorem vx_cls {s : State} {T : State} {vm₁ : Vm} {E : String} {k : ClassId} (hW : s.WarmedH vm₁) (h : (T.setVm vm₁).vm.findClass E = some k) : s.vm.findClass E = some k := by
  have h1 : vm₁.findClass E = some k := h
  rw [hW.alike.findClass] at h1
  exact h1
/-- the method's frame g, with q thrown over it -/
def vx_W (p : Program) (l : Launch) (e : Env) (R : Room) (s : State) (m : MethodId) (args : Array Value) (below : List Frame) (meth : Method) (c : Code) (H : Heap) (locs : List Loc) (cells slots : Nat) (Q : State → Prop) (g : JFrame) (q : Addr) : Prop :=
  ∀ T : State, T.heap = H → Stand p l e R s m args below meth c T locs cells slots → ∃ t, Steps p.tables e below ((T.setTop g).pushFrame (.throwing q)) t ∧ Q t
def vx_Run (p : Program) (l : Launch) (e : Env) (R : Room) (s : State) (m : MethodId) (args : Array Value) (below : List Frame) (meth : Method) (c : Code) (H : Heap) (locs : List Loc) (cells slots mc ms : Nat) (g : JFrame) (rest : List Value) (Qa : State → Outcome → State → Prop) (XC : String → State → State → Prop) (free : Addr → Prop) : Prop :=
  ∀ T : State, T.heap = H → Stand p l e R s m args below meth c T locs cells slots →
    (∃ (v : Option Value) (st₀ t T' : State) (L : List Loc), st₀.heap = H ∧ Stand p l e R s m args below meth c T' (locs ++ L) (cells + mc) (slots + ms) ∧ (∀ q ∈ L, free q.base) ∧ T'.heap = t.heap ∧ T'.vm = t.vm ∧ Qa st₀ (.returned v) t ∧
      Goes p e below T g T' { g with pc := g.pc + 3, stack := v.toList ++ rest }) ∨
    (∃ (q : Addr) (st₀ t T' : State) (L : List Loc) (E : String) (ce : Cell), st₀.heap = H ∧ Stand p l e R s m args below meth c T' (locs ++ L) (cells + mc) (slots + ms) ∧ (∀ z ∈ L, free z.base) ∧ T'.heap = t.heap ∧ T'.vm = t.vm ∧ XC E st₀ t ∧ t.heap[q]? = some ce ∧ ce.vm = .none ∧ s.vm.findClass E = some ce.cls ∧
      Steps p.tables e below (T.setTop g) ((T'.setTop { g with stack := rest }).pushFrame (.throwing q)))
def vx_X {S : Type} (px : S → Prop) (B : String → S → State → Prop) (A : Nat → Prop) : String → State → State → Prop := fun E st t => ∃ u : S, px u ∧ B E u t ∧ va_F A st t
section Runs
variable {p : Program} {l : Launch} {e : Env} {R : Room} {s : State} {m : MethodId} {args : Array Value} {below : List Frame} {meth : Method} {c : Code} {H : Heap} {locs : List Loc} {cells slots : Nat}
variable {y : MethodName} {bytes cc : ByteArray} {maxL nL mc ms n index : Nat} {ret : Option FieldType} {ws : List Cond} {rm : Room} {Pc : Array Value → State → Prop} {Qc : Array Value → State → Outcome → State → Prop} {XC : String → State → State → Prop} {free : Addr → Prop} {Ts : List Cond} {own C : String} {b : Addr} {As rest : List Value} {g : JFrame}
theorem vx_callBack (cb : CallB R s args own index y bytes maxL ret ws rm mc ms n) (hM : vx_Met l y ws rm Pc Qc XC mc ms free) (hbl : FrameBlind Pc) : vx_Back l R p e below s args y 3 8 (PreOf R mc ms Pc) (PostOf Qc mc ms free) (vx_Post XC mc ms free) := by
  obtain ⟨hrc, hrs, hfr, hlo, hws, hcw, -, hini, -⟩ := cb
  exact vx_back (bytes := bytes) (maxL := maxL) (ret := ret) hM hbl hrc hrs hfr hlo hws hcw (fun a' U hW => word_at hW (Or.inl (by first | rfl | simp [Cond.onTables, Cond.keeps, Cond.steady])) hini)
theorem vx_runV (S : CallFix p m c cc nL s args Ts own) (hM : vx_Met l y ws rm Pc Qc XC mc ms free) (cw : CallW R s args own C index y bytes maxL ret ws rm mc ms n) (hp : PreV s H C b Pc As)
    (hg : g.method = m) (hn : As.length = n) (hsize : g.locals.size = nL) (hstack : g.stack = As.reverse ++ .ref b :: rest) (hW : 2 * g.monitorRoom + (rest.map fun v => v.category).sum ≤ 8) (hdg : decode cc g.pc = .ok (.invokevirtual index, 3)) (hf : cells + mc ≤ R.cells ∧ slots + ms ≤ R.slots) :
    vx_Run p l e R s m args below meth c H locs cells slots mc ms g rest (Qc (Value.ref b :: As).toArray) XC free := by
  have hK : vx_Back l R p e below s args y 3 8 (PreOf R mc ms Pc) (PostOf Qc mc ms free) (vx_Post XC mc ms free) := vx_callBack cw.1 hM hp.1
  obtain ⟨⟨-, -, -, -, -, -, hcode, -, hy, hlen, hl⟩, hin, hse⟩ := cw
  obtain ⟨hx, hb, hml, ho, -⟩ := S
  obtain ⟨-, ⟨cellB, hcB, hoB, hclB⟩, hPc⟩ := hp
  intro T hT X
  rcases vx_callV X hx (C := C) (bytes := bytes) (maxL := maxL) (ret := ret) ho hl hin hse hcode hy hK (by rw [hT]; exact hcB) hoB hclB hg (hsize.trans hml.symm) (argsL := As) (rest := rest) (fun sig h => hn.trans (hlen sig h)) hstack hW (by rw [hb]; exact hdg)
    (fun vm₁ hW₁ => ⟨hf.1, hf.2, hPc (T.setVm vm₁) hT hW₁⟩) with ⟨v, vm₁, ⟨U', l2, c2, s2⟩, hW₁, X', ⟨g', mk, t, L, e1, e2, hq, h1, hL, h2, h3⟩, st⟩ | ⟨q, vm₁, ⟨U', l2, c2, s2⟩, hW₁, X', ⟨g', mk, t, L, E, ce, e1, e2, hq, hce, hcv, hcl, h1, hL, h2, h3⟩, st⟩
  · dsimp only [Pt.U, Pt.locs, Pt.cells, Pt.slots] at X' e1 e2 h1 h2 h3 st
    subst h1; subst h2; subst h3
    exact Or.inl ⟨v, (T.setVm vm₁).calling g' mk (Value.ref b :: As).toArray, t, U', L, hT, X', hL, e1, e2, hq, st⟩
  · dsimp only [Pt.U, Pt.locs, Pt.cells, Pt.slots] at X' e1 e2 h1 h2 h3 st hcl
    subst h1; subst h2; subst h3
    exact Or.inr ⟨q, (T.setVm vm₁).calling g' mk (Value.ref b :: As).toArray, t, U', L, E, ce, hT, X', hL, e1, e2, hq, hce, hcv, vx_cls hW₁ hcl, st⟩
theorem vx_runS (S : CallFix p m c cc nL s args Ts own) (hM : vx_Met l y ws rm Pc Qc XC mc ms free) (cw : CallB R s args own index y bytes maxL ret ws rm mc ms n ∧ (Cond.static y).before args s = true) (hp : PreS s H Pc As)
    (hg : g.method = m) (hn : As.length = n) (hsize : g.locals.size = nL) (hstack : g.stack = As.reverse ++ rest) (hW : 2 * g.monitorRoom + (rest.map fun v => v.category).sum ≤ 8) (hdg : decode cc g.pc = .ok (.invokestatic index, 3)) (hf : cells + mc ≤ R.cells ∧ slots + ms ≤ R.slots) :
    vx_Run p l e R s m args below meth c H locs cells slots mc ms g rest (Qc As.toArray) XC free := by
  have hK : vx_Back l R p e below s args y 3 8 (PreOf R mc ms Pc) (PostOf Qc mc ms free) (vx_Post XC mc ms free) := vx_callBack cw.1 hM hp.1
  obtain ⟨⟨-, -, -, -, -, -, hcode, hini, hy, hlen, hl⟩, hstt⟩ := cw
  obtain ⟨hx, hb, hml, ho, -⟩ := S
  intro T hT X
  rcases vx_callS X hx (bytes := bytes) (maxL := maxL) (ret := ret) ho hl hstt hini hcode hy hK hg (hsize.trans hml.symm) (argsL := As) (rest := rest) (fun sig h => hn.trans (hlen sig h)) hstack hW (by rw [hb]; exact hdg)
    (fun vm₁ hW₁ => ⟨hf.1, hf.2, hp.2 (T.setVm vm₁) hT hW₁⟩) with ⟨v, vm₁, ⟨U', l2, c2, s2⟩, hW₁, X', ⟨g', mk, t, L, e1, e2, hq, h1, hL, h2, h3⟩, st⟩ | ⟨q, vm₁, ⟨U', l2, c2, s2⟩, hW₁, X', ⟨g', mk, t, L, E, ce, e1, e2, hq, hce, hcv, hcl, h1, hL, h2, h3⟩, st⟩
  · dsimp only [Pt.U, Pt.locs, Pt.cells, Pt.slots] at X' e1 e2 h1 h2 h3 st
    subst h1; subst h2; subst h3
    exact Or.inl ⟨v, (T.setVm vm₁).calling g' mk As.toArray, t, U', L, hT, X', hL, e1, e2, hq, st⟩
  · dsimp only [Pt.U, Pt.locs, Pt.cells, Pt.slots] at X' e1 e2 h1 h2 h3 st hcl
    subst h1; subst h2; subst h3
    exact Or.inr ⟨q, (T.setVm vm₁).calling g' mk As.toArray, t, U', L, E, ce, hT, X', hL, e1, e2, hq, hce, hcv, vx_cls hW₁ hcl, st⟩
end Runs
section Rows
variable {p : Program} {l : Launch} {e : Env} {R : Room} {s : State} {m : MethodId} {args : Array Value} {below : List Frame} {meth : Method} {c : Code} {H : Heap} {locs : List Loc} {cells slots : Nat} {Q : State → Prop}
variable {mc ms : Nat} {free : Addr → Prop} {A0 A1 : Nat → Prop} {H0 : Heap} {a : Array Value} {pc : Nat} {ls : Array Slot} {st0 rest : List Value}
theorem vx_keep {st₀ t T' : State} {L : List Loc} (h0 : st₀.heap = H) (e1 : T'.heap = t.heap) (hS : va_S A0 H0 H locs) (hA : ∀ q, q < H.size → A1 q → A0 q) (hf : ∀ q, free q → A0 q) (hL : ∀ q ∈ L, free q.base) (hF : va_F A1 st₀ t) :
    H.size ≤ T'.heap.size ∧ (∀ q : Nat, q < H.size → ¬ A1 q → T'.heap[q]? = H[q]?) ∧ va_S A0 H0 T'.heap (locs ++ L) := by
  obtain ⟨hz, hk⟩ := hF
  rw [h0] at hz hk
  exact ⟨by rw [e1]; exact hz, fun q h1 h2 => by rw [e1]; exact hk q h1 h2,
    ⟨Nat.le_trans hS.1 (by rw [e1]; exact hz), fun q h1 h2 => by rw [e1, hk q (Nat.lt_of_lt_of_le h1 hS.1) (fun z => h2 (hA q (Nat.lt_of_lt_of_le h1 hS.1) z))]; exact hS.2.1 q h1 h2, fun q hq => by
      rcases List.mem_append.mp hq with h | h
      · exact hS.2.2 q h
      · exact hf _ (hL q h)⟩⟩
theorem vx_calli {S SX : Type} {post : Int32 → S → Prop} {px : SX → Prop} {B : S → State → Prop} {BX : String → SX → State → Prop} {AX : Nat → Prop} (hr : vx_Run p l e R s m args below meth c H locs cells slots mc ms (F0 m pc ls st0) rest (va_Qi post B A1 a) (vx_X px BX AX) free) (hS : va_S A0 H0 H locs) (hA : ∀ q, q < H.size → A1 q → A0 q) (hf : ∀ q, free q → A0 q) (hAX : ∀ q, q < H.size → AX q → A0 q)
    (kx : ∀ (E : String) (ce : Cell) (q9 : Addr) (u : SX) (t : State) (H1 : Heap) (locs1 : List Loc), t.heap = H1 → s.vm.Alike t.vm → px u → BX E u t → H.size ≤ H1.size → (∀ q : Nat, q < H.size → ¬ AX q → H1[q]? = H[q]?) → va_S A0 H0 H1 locs1 → H1[q9]? = some ce → ce.vm = .none → s.vm.findClass E = some ce.cls → vx_W p l e R s m args below meth c H1 locs1 (cells + mc) (slots + ms) Q (F0 m pc ls rest) q9)
    (kk : ∀ (r : Int32) (u : S) (t : State) (H1 : Heap) (locs1 : List Loc), t.heap = H1 → s.vm.Alike t.vm → post r u → B u t → H.size ≤ H1.size → (∀ q : Nat, q < H.size → ¬ A1 q → H1[q]? = H[q]?) → va_S A0 H0 H1 locs1 → W p l e R s m args below meth c H1 locs1 (cells + mc) (slots + ms) Q (F0 m (pc + 3) ls (.int r :: rest))) : W p l e R s m args below meth c H locs cells slots Q (F0 m pc ls st0) := by
  intro T hT X
  rcases hr T hT X with ⟨v, st₀, t, T', L, h0, X', hL, e1, e2, ⟨⟨r, u, hv, hp, hb⟩, hF⟩, st⟩ | ⟨q, st₀, t, T', L, E, ce, h0, X', hL, e1, e2, ⟨u, hp, hb, hF⟩, hce, hcv, hcl, st⟩
  · cases hv
    obtain ⟨k1, k2, k3⟩ := vx_keep h0 e1 hS hA hf hL hF
    obtain ⟨t2, a1, b1⟩ := kk r u t T'.heap (locs ++ L) e1.symm (by rw [← e2]; exact X'.warmed.alike) hp hb k1 k2 k3 T' rfl X'
    exact ⟨t2, st t2 a1, b1⟩
  · obtain ⟨k1, k2, k3⟩ := vx_keep h0 e1 hS hAX hf hL hF
    obtain ⟨t2, a1, b1⟩ := kx E ce q u t T'.heap (locs ++ L) e1.symm (by rw [← e2]; exact X'.warmed.alike) hp hb k1 k2 k3 (by rw [e1]; exact hce) hcv hcl T' rfl X'
    exact ⟨t2, st.trans a1, b1⟩
theorem vx_calll {S SX : Type} {post : Int64 → S → Prop} {px : SX → Prop} {B : S → State → Prop} {BX : String → SX → State → Prop} {AX : Nat → Prop} (hr : vx_Run p l e R s m args below meth c H locs cells slots mc ms (F0 m pc ls st0) rest (va_Ql post B A1 a) (vx_X px BX AX) free) (hS : va_S A0 H0 H locs) (hA : ∀ q, q < H.size → A1 q → A0 q) (hf : ∀ q, free q → A0 q) (hAX : ∀ q, q < H.size → AX q → A0 q)
    (kx : ∀ (E : String) (ce : Cell) (q9 : Addr) (u : SX) (t : State) (H1 : Heap) (locs1 : List Loc), t.heap = H1 → s.vm.Alike t.vm → px u → BX E u t → H.size ≤ H1.size → (∀ q : Nat, q < H.size → ¬ AX q → H1[q]? = H[q]?) → va_S A0 H0 H1 locs1 → H1[q9]? = some ce → ce.vm = .none → s.vm.findClass E = some ce.cls → vx_W p l e R s m args below meth c H1 locs1 (cells + mc) (slots + ms) Q (F0 m pc ls rest) q9)
    (kk : ∀ (r : Int64) (u : S) (t : State) (H1 : Heap) (locs1 : List Loc), t.heap = H1 → s.vm.Alike t.vm → post r u → B u t → H.size ≤ H1.size → (∀ q : Nat, q < H.size → ¬ A1 q → H1[q]? = H[q]?) → va_S A0 H0 H1 locs1 → W p l e R s m args below meth c H1 locs1 (cells + mc) (slots + ms) Q (F0 m (pc + 3) ls (.long r :: rest))) : W p l e R s m args below meth c H locs cells slots Q (F0 m pc ls st0) := by
  intro T hT X
  rcases hr T hT X with ⟨v, st₀, t, T', L, h0, X', hL, e1, e2, ⟨⟨r, u, hv, hp, hb⟩, hF⟩, st⟩ | ⟨q, st₀, t, T', L, E, ce, h0, X', hL, e1, e2, ⟨u, hp, hb, hF⟩, hce, hcv, hcl, st⟩
  · cases hv
    obtain ⟨k1, k2, k3⟩ := vx_keep h0 e1 hS hA hf hL hF
    obtain ⟨t2, a1, b1⟩ := kk r u t T'.heap (locs ++ L) e1.symm (by rw [← e2]; exact X'.warmed.alike) hp hb k1 k2 k3 T' rfl X'
    exact ⟨t2, st t2 a1, b1⟩
  · obtain ⟨k1, k2, k3⟩ := vx_keep h0 e1 hS hAX hf hL hF
    obtain ⟨t2, a1, b1⟩ := kx E ce q u t T'.heap (locs ++ L) e1.symm (by rw [← e2]; exact X'.warmed.alike) hp hb k1 k2 k3 (by rw [e1]; exact hce) hcv hcl T' rfl X'
    exact ⟨t2, st.trans a1, b1⟩
theorem vx_callf {S SX : Type} {post : UInt32 → S → Prop} {px : SX → Prop} {B : S → State → Prop} {BX : String → SX → State → Prop} {AX : Nat → Prop} (hr : vx_Run p l e R s m args below meth c H locs cells slots mc ms (F0 m pc ls st0) rest (va_Qf post B A1 a) (vx_X px BX AX) free) (hS : va_S A0 H0 H locs) (hA : ∀ q, q < H.size → A1 q → A0 q) (hf : ∀ q, free q → A0 q) (hAX : ∀ q, q < H.size → AX q → A0 q)
    (kx : ∀ (E : String) (ce : Cell) (q9 : Addr) (u : SX) (t : State) (H1 : Heap) (locs1 : List Loc), t.heap = H1 → s.vm.Alike t.vm → px u → BX E u t → H.size ≤ H1.size → (∀ q : Nat, q < H.size → ¬ AX q → H1[q]? = H[q]?) → va_S A0 H0 H1 locs1 → H1[q9]? = some ce → ce.vm = .none → s.vm.findClass E = some ce.cls → vx_W p l e R s m args below meth c H1 locs1 (cells + mc) (slots + ms) Q (F0 m pc ls rest) q9)
    (kk : ∀ (r : UInt32) (u : S) (t : State) (H1 : Heap) (locs1 : List Loc), t.heap = H1 → s.vm.Alike t.vm → post r u → B u t → H.size ≤ H1.size → (∀ q : Nat, q < H.size → ¬ A1 q → H1[q]? = H[q]?) → va_S A0 H0 H1 locs1 → W p l e R s m args below meth c H1 locs1 (cells + mc) (slots + ms) Q (F0 m (pc + 3) ls (.float r :: rest))) : W p l e R s m args below meth c H locs cells slots Q (F0 m pc ls st0) := by
  intro T hT X
  rcases hr T hT X with ⟨v, st₀, t, T', L, h0, X', hL, e1, e2, ⟨⟨r, u, hv, hp, hb⟩, hF⟩, st⟩ | ⟨q, st₀, t, T', L, E, ce, h0, X', hL, e1, e2, ⟨u, hp, hb, hF⟩, hce, hcv, hcl, st⟩
  · cases hv
    obtain ⟨k1, k2, k3⟩ := vx_keep h0 e1 hS hA hf hL hF
    obtain ⟨t2, a1, b1⟩ := kk r u t T'.heap (locs ++ L) e1.symm (by rw [← e2]; exact X'.warmed.alike) hp hb k1 k2 k3 T' rfl X'
    exact ⟨t2, st t2 a1, b1⟩
  · obtain ⟨k1, k2, k3⟩ := vx_keep h0 e1 hS hAX hf hL hF
    obtain ⟨t2, a1, b1⟩ := kx E ce q u t T'.heap (locs ++ L) e1.symm (by rw [← e2]; exact X'.warmed.alike) hp hb k1 k2 k3 (by rw [e1]; exact hce) hcv hcl T' rfl X'
    exact ⟨t2, st.trans a1, b1⟩
theorem vx_calld {S SX : Type} {post : UInt64 → S → Prop} {px : SX → Prop} {B : S → State → Prop} {BX : String → SX → State → Prop} {AX : Nat → Prop} (hr : vx_Run p l e R s m args below meth c H locs cells slots mc ms (F0 m pc ls st0) rest (va_Qd post B A1 a) (vx_X px BX AX) free) (hS : va_S A0 H0 H locs) (hA : ∀ q, q < H.size → A1 q → A0 q) (hf : ∀ q, free q → A0 q) (hAX : ∀ q, q < H.size → AX q → A0 q)
    (kx : ∀ (E : String) (ce : Cell) (q9 : Addr) (u : SX) (t : State) (H1 : Heap) (locs1 : List Loc), t.heap = H1 → s.vm.Alike t.vm → px u → BX E u t → H.size ≤ H1.size → (∀ q : Nat, q < H.size → ¬ AX q → H1[q]? = H[q]?) → va_S A0 H0 H1 locs1 → H1[q9]? = some ce → ce.vm = .none → s.vm.findClass E = some ce.cls → vx_W p l e R s m args below meth c H1 locs1 (cells + mc) (slots + ms) Q (F0 m pc ls rest) q9)
    (kk : ∀ (r : UInt64) (u : S) (t : State) (H1 : Heap) (locs1 : List Loc), t.heap = H1 → s.vm.Alike t.vm → post r u → B u t → H.size ≤ H1.size → (∀ q : Nat, q < H.size → ¬ A1 q → H1[q]? = H[q]?) → va_S A0 H0 H1 locs1 → W p l e R s m args below meth c H1 locs1 (cells + mc) (slots + ms) Q (F0 m (pc + 3) ls (.double r :: rest))) : W p l e R s m args below meth c H locs cells slots Q (F0 m pc ls st0) := by
  intro T hT X
  rcases hr T hT X with ⟨v, st₀, t, T', L, h0, X', hL, e1, e2, ⟨⟨r, u, hv, hp, hb⟩, hF⟩, st⟩ | ⟨q, st₀, t, T', L, E, ce, h0, X', hL, e1, e2, ⟨u, hp, hb, hF⟩, hce, hcv, hcl, st⟩
  · cases hv
    obtain ⟨k1, k2, k3⟩ := vx_keep h0 e1 hS hA hf hL hF
    obtain ⟨t2, a1, b1⟩ := kk r u t T'.heap (locs ++ L) e1.symm (by rw [← e2]; exact X'.warmed.alike) hp hb k1 k2 k3 T' rfl X'
    exact ⟨t2, st t2 a1, b1⟩
  · obtain ⟨k1, k2, k3⟩ := vx_keep h0 e1 hS hAX hf hL hF
    obtain ⟨t2, a1, b1⟩ := kx E ce q u t T'.heap (locs ++ L) e1.symm (by rw [← e2]; exact X'.warmed.alike) hp hb k1 k2 k3 (by rw [e1]; exact hce) hcv hcl T' rfl X'
    exact ⟨t2, st.trans a1, b1⟩
theorem vx_callv {S SX : Type} {post : S → Prop} {px : SX → Prop} {B : S → State → Prop} {BX : String → SX → State → Prop} {AX : Nat → Prop} (hr : vx_Run p l e R s m args below meth c H locs cells slots mc ms (F0 m pc ls st0) rest (va_Qv post B A1 a) (vx_X px BX AX) free) (hS : va_S A0 H0 H locs) (hA : ∀ q, q < H.size → A1 q → A0 q) (hf : ∀ q, free q → A0 q) (hAX : ∀ q, q < H.size → AX q → A0 q)
    (kx : ∀ (E : String) (ce : Cell) (q9 : Addr) (u : SX) (t : State) (H1 : Heap) (locs1 : List Loc), t.heap = H1 → s.vm.Alike t.vm → px u → BX E u t → H.size ≤ H1.size → (∀ q : Nat, q < H.size → ¬ AX q → H1[q]? = H[q]?) → va_S A0 H0 H1 locs1 → H1[q9]? = some ce → ce.vm = .none → s.vm.findClass E = some ce.cls → vx_W p l e R s m args below meth c H1 locs1 (cells + mc) (slots + ms) Q (F0 m pc ls rest) q9)
    (kk : ∀ (u : S) (t : State) (H1 : Heap) (locs1 : List Loc), t.heap = H1 → s.vm.Alike t.vm → post u → B u t → H.size ≤ H1.size → (∀ q : Nat, q < H.size → ¬ A1 q → H1[q]? = H[q]?) → va_S A0 H0 H1 locs1 → W p l e R s m args below meth c H1 locs1 (cells + mc) (slots + ms) Q (F0 m (pc + 3) ls (rest))) : W p l e R s m args below meth c H locs cells slots Q (F0 m pc ls st0) := by
  intro T hT X
  rcases hr T hT X with ⟨v, st₀, t, T', L, h0, X', hL, e1, e2, ⟨⟨u, hv, hp, hb⟩, hF⟩, st⟩ | ⟨q, st₀, t, T', L, E, ce, h0, X', hL, e1, e2, ⟨u, hp, hb, hF⟩, hce, hcv, hcl, st⟩
  · cases hv
    obtain ⟨k1, k2, k3⟩ := vx_keep h0 e1 hS hA hf hL hF
    obtain ⟨t2, a1, b1⟩ := kk u t T'.heap (locs ++ L) e1.symm (by rw [← e2]; exact X'.warmed.alike) hp hb k1 k2 k3 T' rfl X'
    exact ⟨t2, st t2 a1, b1⟩
  · obtain ⟨k1, k2, k3⟩ := vx_keep h0 e1 hS hAX hf hL hF
    obtain ⟨t2, a1, b1⟩ := kx E ce q u t T'.heap (locs ++ L) e1.symm (by rw [← e2]; exact X'.warmed.alike) hp hb k1 k2 k3 (by rw [e1]; exact hce) hcv hcl T' rfl X'
    exact ⟨t2, st.trans a1, b1⟩
/-- caught by the row x of this method's table; the rows ahead don't take it -/
theorem vx_catch {own name : String} {E : String} {ce : Cell} {q : Addr} (hown : s.vm.findClass own = some m.cls) (pre : List ExceptionTableEntry) (x : ExceptionTableEntry) (suf : List ExceptionTableEntry) (hsplit : c.exceptionTable.toList = pre ++ x :: suf)
    (hpass : ∀ z ∈ pre, covers z pc = false ∨ (z.catchType ≠ 0 ∧ ∃ nm : String, (Cond.classLink own z.catchType nm).before args s = true ∧ va_Nc E nm s)) (hx : covers x pc = true) (h0 : x.catchType ≠ 0)
    (hlink : (Cond.classLink own x.catchType name).before args s = true) (hcast : (Cond.castable E name).before args s = true) (hcell : H[q]? = some ce) (hv : ce.vm = .none) (hcl : s.vm.findClass E = some ce.cls)
    (kk : W p l e R s m args below meth c H locs cells slots Q (F0 m x.handlerPc ls [.ref q])) : vx_W p l e R s m args below meth c H locs cells slots Q (F0 m pc ls rest) q := by
  intro T hT X
  have hpl : e.platform.magicAccessors = ({} : Platform).magicAccessors := by rw [X.admits.platform]
  obtain ⟨c3, c4, hc3, hc4, hasg⟩ := Cond.castable_spec hcast
  cases Option.some.inj (hc3.symm.trans hcl)
  obtain ⟨c5, hc5, hcl5⟩ := Cond.classLink_spec hown hlink e.platform hpl
  cases Option.some.inj (hc4.symm.trans hc5)
  obtain ⟨vm', X', st⟩ := X.thenCaughtThrough q (g := F0 m pc ls rest) rfl (Steps.refl _) (by rw [hT]; exact hcell) (by rw [hv]; rfl) (by obtain ⟨k9, h9, -⟩ := Vm.findClass_spec hcl; exact ⟨k9, h9⟩) pre x suf hsplit
    (fun z hz => by
      rcases hpass z hz with h | ⟨hz0, nm, hl1, hn1⟩
      · exact Or.inl h
      · obtain ⟨c6, hc6, hcl6⟩ := Cond.classLink_spec hown hl1 e.platform hpl
        obtain ⟨a8, b8, h1, h2, h3⟩ := hn1
        cases Option.some.inj (h1.symm.trans hcl)
        cases Option.some.inj (h2.symm.trans hc6)
        exact Or.inr ⟨hz0, _, hcl6, h3⟩) hx (Or.inr ⟨h0, c4, hcl5, hasg⟩)
  obtain ⟨t, a1, b1⟩ := kk (T.setVm vm') hT X'
  exact ⟨t, st.trans a1, b1⟩
end Rows
section Ends
variable {p : Program} {l : Launch} {e : Env} {R : Room} {s : State} {m : MethodId} {args : Array Value} {below : List Frame} {meth : Method} {c : Code} {H : Heap} {locs : List Loc} {cells slots : Nat} {Q : State → Prop}
variable {mc ms : Nat} {free : Addr → Prop} {A0 A1 : Nat → Prop} {H0 : Heap} {a : Array Value} {ls : Array Slot} {st0 rest : List Value}
variable {Qc : Array Value → State → Outcome → State → Prop} {XC : String → State → State → Prop}
/-- what a body that may throw owes at its end -/
def vx_MQ (below : List Frame) (Qc : Array Value → State → Outcome → State → Prop) (XC : String → State → State → Prop) (a : Array Value) (s : State) (mc ms : Nat) (free : Addr → Prop) : State → Prop := fun t =>
  ∃ o, t.status = .running ∧ Ended t below o ∧ vx_Q Qc XC mc ms free a s o t
theorem vx_ret {g : JFrame} {mc ms : Nat} (k : W p l e R s m args below meth c H locs cells slots (MQ below Qc args s mc ms free) g) : W p l e R s m args below meth c H locs cells slots (vx_MQ below Qc XC args s mc ms free) g := by
  intro T hT X
  obtain ⟨t, a1, o, b1, b2, b3, b4⟩ := k T hT X
  exact ⟨t, a1, o, b1, b2, Or.inl ⟨b3, b4⟩⟩
/-- not caught here: it goes on to the caller -/
theorem vx_widen {g : JFrame} {q : Addr} {k n : Nat} (h1 : cells ≤ k) (h2 : slots ≤ n) (kk : vx_W p l e R s m args below meth c H locs k n Q g q) : vx_W p l e R s m args below meth c H locs cells slots Q g q := fun T hT X => kk T hT (stand_widen X h1 h2)
theorem vx_out {pc : Nat} {E : String} {ce : Cell} {q : Addr} {mc ms : Nat} (hout : ∀ x ∈ c.exceptionTable.toList, covers x pc = false) (hlocks : meth.locks = false) (hcell : H[q]? = some ce) (hv : ce.vm = .none) (hcl : s.vm.findClass E = some ce.cls)
    (hx : ∀ t : State, t.heap = H → s.vm.Alike t.vm → XC E s t) (hf : ∀ z ∈ locs, free z.base) (hc : cells ≤ mc) (hs : slots ≤ ms) :
    vx_W p l e R s m args below meth c H locs cells slots (vx_MQ below Qc XC args s mc ms free) (F0 m pc ls rest) q := by
  intro T hT X
  obtain ⟨st1, hrun, hend, hW, hsm⟩ := X.leaveThrown q (g := F0 m pc ls rest) rfl rfl rfl hout hlocks
  have hcell9 : (T.setFrames (.throwing q :: below)).heap[q]? = some ce := by
    show T.heap[q]? = some ce
    rw [hT]; exact hcell
  exact ⟨_, st1, .threw q, hrun, hend, Or.inr ⟨q, rfl, E, ce, locs, hx _ hT hW.alike, hcell9, hv, hcl, hW, hsm.mono hc hs, hf⟩⟩
theorem vx_frame {U : State} {k n : Nat} (h : s.sameButNew ({ U with vm := s.vm } : State) locs k n) : s.heap.size ≤ U.heap.size ∧ ∀ q : Nat, q < s.heap.size → (∀ z ∈ locs, z.base ≠ q) → U.heap[q]? = s.heap[q]? := by
  obtain ⟨-, h2, -, -, -, h6⟩ := h
  refine ⟨h2, fun q hq hz => ?_⟩
  obtain ⟨c9, e1, e2, e3, e4⟩ := h6 q _ (Array.getElem?_eq_getElem hq)
  have hs : c9.slots = (s.heap[q]).slots := Array.ext_getElem? fun i => e4 i fun hm => hz _ hm rfl
  have h9 : c9 = s.heap[q] := by
    rw [hs] at e2
    exact e2
  have e5 : U.heap[q]? = some c9 := e1
  rw [e5, h9, Array.getElem?_eq_getElem hq]
/-- the words of a throw but the four that speak of the heap -/
def vx_no (w : Cond) : Bool := decide (w ≠ .isRef (.static Bundle.tN "UNASSIGNED_STACK" Bundle.steD)) && decide (w ≠ .isRef (.static Bundle.tN "SUPPRESSED_SENTINEL" Bundle.listD)) && decide (w ≠ .laysStatic Bundle.tN "UNASSIGNED_STACK" Bundle.steD) && decide (w ≠ .laysStatic Bundle.tN "SUPPRESSED_SENTINEL" Bundle.listD)
def vx_at0 (own : String) (ic : Nat) (X : String) (names : List String) : List Cond := (Bundle.ownAtoms0 own ic X names).filter vx_no
def vx_atS (own : String) (ic : Nat) (X : String) (names : List String) : List Cond := (Bundle.ownAtoms own ic X names).filter vx_no
/-- a word that the tables alone decide, or a good one -/
def vx_ot (w : Cond) : Bool := w.onTables || goodWord w
theorem vx_ot_at {args a' : Array Value} {s U : State} {w : Cond} (hW : s.WarmedH U.vm) (hvm : s.vm = U.vm) (hg : vx_ot w = true) (h : w.before args s = true) : w.before a' U = true := by
  simp only [vx_ot, Bool.or_eq_true] at hg
  rcases hg with hg | hg
  · exact va_tabs hg hvm h
  · exact word_at hW (good_of_word hg) h
/-- a list's words: the good ones out of the method's own list, the others by premises of their own -/
theorem vx_hat {args : Array Value} {s : State} {L B : List Cond} (h1 : ∀ w ∈ L.filter goodWord, w.before args s = true) (h2 : ∀ w ∈ L.filter (fun w => !goodWord w), w ∈ B) (h3 : ∀ w ∈ B, w.before args s = true) : ∀ w ∈ L, w.before args s = true := by
  intro w hw
  by_cases g : goodWord w = true
  · exact h1 w (List.mem_filter.mpr ⟨hw, g⟩)
  · refine h3 w (h2 w (List.mem_filter.mpr ⟨hw, ?_⟩))
    show (!goodWord w) = true
    cases hgw : goodWord w
    · rfl
    · exact absurd hgw g
theorem vx_c {args : Array Value} {s : State} {w : Cond} {B : List Cond} (h : w.before args s = true) (t : ∀ w ∈ B, w.before args s = true) : ∀ w' ∈ w :: B, w'.before args s = true := fun w' h' => (List.mem_cons.mp h').elim (fun e => by rw [e]; exact h) (t w')
theorem vx_n {args : Array Value} {s : State} : ∀ w ∈ ([] : List Cond), w.before args s = true := fun _ h => nomatch h
theorem vx_own {args : Array Value} {s : State} {L : List Cond} (h1 : ∀ w ∈ L.filter vx_no, w.before args s = true)
    (hU : (Cond.isRef (.static Bundle.tN "UNASSIGNED_STACK" Bundle.steD)).before args s = true) (hN : (Cond.isRef (.static Bundle.tN "SUPPRESSED_SENTINEL" Bundle.listD)).before args s = true)
    (lU : (Cond.laysStatic Bundle.tN "UNASSIGNED_STACK" Bundle.steD).before args s = true) (lN : (Cond.laysStatic Bundle.tN "SUPPRESSED_SENTINEL" Bundle.listD).before args s = true) : ∀ w ∈ L, w.before args s = true := by
  intro w hw
  by_cases e1 : w = .isRef (.static Bundle.tN "UNASSIGNED_STACK" Bundle.steD)
  · rw [e1]; exact hU
  · by_cases e2 : w = .isRef (.static Bundle.tN "SUPPRESSED_SENTINEL" Bundle.listD)
    · rw [e2]; exact hN
    · by_cases e3 : w = .laysStatic Bundle.tN "UNASSIGNED_STACK" Bundle.steD
      · rw [e3]; exact lU
      · by_cases e4 : w = .laysStatic Bundle.tN "SUPPRESSED_SENTINEL" Bundle.listD
        · rw [e4]; exact lN
        · exact h1 w (List.mem_filter.mpr ⟨hw, by unfold vx_no; rw [decide_eq_true e1, decide_eq_true e2, decide_eq_true e3, decide_eq_true e4]; rfl⟩)
/-- where a static field lies, its class's statics cell in H -/
def vx_L (C n d : String) (A : Nat → Prop) (U : State) (H : Heap) : Prop := ∃ (c : ClassId) (k : Class) (i : Nat) (f : Field) (a : Nat) (cell : Cell), U.vm.findClass C = some c ∧ U.fieldFound? C n d = some (c, k, i, f) ∧ f.isStatic = true ∧ k.statics = some a ∧ H[a]? = some cell ∧ cell.vm.isStatics = true ∧ cell.cls = c ∧ f.slot < cell.slots.size ∧ k.staticTypes[f.slot]? = some f.type ∧ ¬ A a
theorem vx_L.moved {C n d : String} {A : Nat → Prop} {u U : State} {H : Heap} (hvm : u.vm.Alike U.vm) (h : vx_L C n d A u H) : vx_L C n d A U H := by
  obtain ⟨c, k, i, f, a, cell, h1, h2, h3, h4, h5, h6, h7, h8, h9, h10⟩ := h
  obtain ⟨k', hi', he⟩ := State.fieldFound?_setVm hvm h2
  exact ⟨c, k', i, f, a, cell, by rw [hvm.findClass]; exact h1, hi', h3, by rw [he]; exact h4, h5, h6, h7, h8, by rw [he]; exact h9, h10⟩
theorem vx_L.kept {C n d : String} {A : Nat → Prop} {U : State} {H H1 : Heap} (h : vx_L C n d A U H) (hq : ∀ a : Nat, a < H.size → ¬ A a → H1[a]? = H[a]?) : vx_L C n d A U H1 := by
  obtain ⟨c, k, i, f, a, cell, h1, h2, h3, h4, h5, h6, h7, h8, h9, h10⟩ := h
  exact ⟨c, k, i, f, a, cell, h1, h2, h3, h4, by rw [hq a (Array.getElem?_eq_some_iff.mp h5).1 h10]; exact h5, h6, h7, h8, h9, h10⟩
theorem vx_L.narrow {C n d : String} {A B : Nat → Prop} {U : State} {H : Heap} (h : vx_L C n d A U H) (hAB : ∀ q, B q → A q) : vx_L C n d B U H := by
  obtain ⟨c, k, i, f, a, cell, h1, h2, h3, h4, h5, h6, h7, h8, h9, h10⟩ := h
  exact ⟨c, k, i, f, a, cell, h1, h2, h3, h4, h5, h6, h7, h8, h9, fun z => h10 (hAB _ z)⟩
theorem vx_L.word {C n d : String} {A : Nat → Prop} {s : State} {args : Array Value} (h : vx_L C n d A s s.heap) : (Cond.laysStatic C n d).before args s = true := by
  obtain ⟨c, k, i, f, a, cell, h1, h2, h3, h4, h5, h6, h7, h8, h9, -⟩ := h
  show (Cond.laysStatic C n d).holds args s none s [] = true
  exact Cond.laysStatic_of h1 h2 h3 h4 h5 h6 h7 h8 h9
/-- .. and what it holds: null or some reference -/
def vx_Zq (C n d : String) (A : Nat → Prop) (U : State) (H : Heap) : Prop := va_Zq C n d A U H ∧ vx_L C n d A U H
theorem vx_Zq.moved {C n d : String} {A : Nat → Prop} {u U : State} {H : Heap} (hvm : u.vm.Alike U.vm) (h : vx_Zq C n d A u H) : vx_Zq C n d A U H := ⟨va_Zq.moved hvm h.1, vx_L.moved hvm h.2⟩
theorem vx_Zq.kept {C n d : String} {A : Nat → Prop} {U : State} {H H1 : Heap} (h : vx_Zq C n d A U H) (hq : ∀ a : Nat, a < H.size → ¬ A a → H1[a]? = H[a]?) : vx_Zq C n d A U H1 := ⟨va_Zq.kept h.1 hq, vx_L.kept h.2 hq⟩
theorem vx_Zq.narrow {C n d : String} {A B : Nat → Prop} {U : State} {H : Heap} (h : vx_Zq C n d A U H) (hAB : ∀ q, B q → A q) : vx_Zq C n d B U H := ⟨va_Zq.narrow h.1 hAB, vx_L.narrow h.2 hAB⟩
theorem vx_Zqof {args : Array Value} {s : State} {C n d : String} {A : Nat → Prop} (hl : (Cond.laysStatic C n d).before args s = true) (hini : (Cond.initialized C).before args s = true) (h : (Cond.isRef (.static C n d)).before args s = true) (hA : ∀ a : Nat, a < s.heap.size → ¬ A a) : vx_Zq C n d A s s.heap := by
  refine ⟨va_Zqof hl hini h hA, ?_⟩
  obtain ⟨c, k, i, f, a, cell, h1, h2, h3, h4, h5, h6, h7, h8, h9⟩ := Cond.laysStatic_spec hl
  exact ⟨c, k, i, f, a, cell, h1, h2, h3, h4, h5, h6, h7, h8, h9, hA a (Array.getElem?_eq_some_iff.mp h5).1⟩
theorem vx_isRef {C n d : String} {v : Value} {A : Nat → Prop} {s : State} {args : Array Value} (h : va_Z C n d v A s s.heap) (hv : v.isRef = true) : (Cond.isRef (.static C n d)).before args s = true := by
  obtain ⟨cf, kf, fi, f, a, cell, h1, h2, h3, h4, h5, h6, h7, -⟩ := h
  have he : (Term.static C n d).eval args s none [] s = some v := by
    simp [Term.eval, State.fieldNamed?, h1, h2, h4, h5, h6, h7]
  simp only [Cond.before, Cond.holds, Cond.value, he]
  cases v <;> simp_all [Value.isRef]
theorem vx_isRefq {C n d : String} {A : Nat → Prop} {s : State} {args : Array Value} (h : va_Zq C n d A s s.heap) : (Cond.isRef (.static C n d)).before args s = true := by
  rcases h with h | ⟨t, h⟩
  · exact vx_isRef h rfl
  · exact vx_isRef h rfl
/-- the same frame, seen from here: as if the method were called anew in this heap -/
theorem vx_rebase {T : State} (X : Stand p l e R s m args below meth c T locs cells slots) {R' : Room} (hf : R'.frames ≤ R.frames) (hl : R'.locals ≤ R.locals) (hc : cells + R'.cells ≤ R.cells) (hs : slots + R'.slots ≤ R.slots) :
    Stand p l e R' ((T.setVm s.vm).setFrames (.invoking m args :: below)) m args below meth c T [] 0 0 := by
  have htop : (T.setVm s.vm).topJava?.isSome := X.here.top
  have hF : ((T.setVm s.vm).setFrames (.invoking m args :: below)).frames = .invoking m args :: below := State.frames_setFrames _ (State.cur_lt_of_top htop)
  obtain ⟨g₀, hg0⟩ := Option.isSome_iff_exists.mp htop
  obtain ⟨r, hr⟩ := State.topJava?_eq_some.mp hg0
  have hl9 : e.platform.stackLimits (T.setVm s.vm).me = e.platform.stackLimits s.me := X.limits
  have hb9 : (T.setVm s.vm).me.stackBytes = s.me.stackBytes := X.bytes
  refine ⟨X.admits, X.cas, X.clock, hF, ?_, X.hears, X.method, X.code, X.here, X.tail, X.warmed, ?_, ?_, ?_⟩
  · have h := X.room
    have hU : ((T.setVm s.vm).setFrames (.invoking m args :: below)).localsInUse = s.localsInUse := by
      rw [State.localsInUse_invoking hF (meth := meth) (c := c) X.method X.code, State.localsInUse_invoking X.frames X.method X.code]
    simp only [State.hasRoom, Bool.and_eq_true, decide_eq_true_eq] at h ⊢
    obtain ⟨⟨⟨⟨h1, h2, h3, h4, h5, h6⟩, h7⟩, h8⟩, h9⟩ := h
    rw [X.frames, List.length_cons] at h2 h3
    have q1 := X.heapSize
    have q2 := X.used
    simp only [hF, hU, List.length_cons, State.stackLimits_setFrames, State.stackBytes_setFrames, hl9, hb9]
    refine ⟨⟨⟨⟨by omega, by omega, by omega, by omega, by omega, h6⟩, ?_⟩, ?_⟩, X.book⟩
    · show T.heap.size + R'.cells ≤ e.platform.maxCells
      omega
    · show T.slotsUsed + R'.slots ≤ e.platform.maxSlots
      omega
  · rw [State.stackLimits_setFrames]; rfl
  · rw [State.stackBytes_setFrames]; rfl
  · refine ⟨?_, Nat.le_refl _, Nat.le_refl _, ?_, ?_, fun a c9 h9 => ⟨c9, h9, rfl, rfl, fun _ _ => rfl⟩⟩
    · obtain ⟨t, ht, -⟩ := State.frames_cons hr
      show T.setVm s.vm = { ((T.setVm s.vm).setFrames (.invoking m args :: below)).setFrames (T.setVm s.vm).frames with heap := T.heap, slotsUsed := T.slotsUsed }
      rw [State.setFrames_setFrames, State.setFrames_self ht]
      rfl
    · show T.slotsUsed = T.slotsUsed + ((T.heap.toList.drop T.heap.size).map (·.slots.size)).sum
      rw [List.drop_eq_nil_of_le (Nat.le_of_eq Array.length_toList)]
      rfl
    · show ((T.heap.toList.drop T.heap.size).map (·.slots.size)).sum ≤ 0
      rw [List.drop_eq_nil_of_le (Nat.le_of_eq Array.length_toList)]
      exact Nat.le_refl _
/-- 'throw new E()': new; dup; invokespecial; athrow -/
theorem vx_throw0 {cc : ByteArray} {pc : Nat} (hexec : p.tables.exec = Jvm.exec) (hb : c.code = cc) (hl : l.stackTraces = false) {own cls : String} {names : List String} {ik ic mc ms : Nat} {A : Nat → Prop}
    (hown : s.vm.findClass own = some m.cls) (hcls : Bundle.fit cls = true) (hnames : ∀ n ∈ names, Bundle.fit n = true)
    (hk : (Cond.classLink own ik cls).before args s = true) (hini : (Cond.initialized cls).before args s = true) (hat : ∀ w ∈ vx_at0 own ic cls names, w.before args s = true)
    (hgood : ∀ w ∈ Cond.classLink own ik cls :: Cond.initialized cls :: vx_at0 own ic cls names, vx_ot w = true)
    (hU : vx_Zq Bundle.tN "UNASSIGNED_STACK" Bundle.steD A s s.heap) (hN : vx_Zq Bundle.tN "SUPPRESSED_SENTINEL" Bundle.listD A s s.heap) (hS : va_S A s.heap H locs) (hsize : ls.size = c.maxLocals)
    (d0 : decode cc pc = .ok (.new ik, 3)) (d3 : decode cc (pc + 3) = .ok (.dup, 1)) (d4 : decode cc (pc + 4) = .ok (.invokespecial ic, 3)) (d7 : decode cc (pc + 7) = .ok (.athrow, 1))
    (hout : ∀ x ∈ c.exceptionTable.toList, covers x (pc + 7) = false)
    (hRframes : names.length + 3 < R.frames) (hRlocals : (rest.map fun v => v.category).sum + (13 * (names.length + 1) + 42) ≤ R.locals) (hRcells : cells + 1 ≤ R.cells) (hRslots : slots + 6 ≤ R.slots) (hlocks : meth.locks = false)
    (hx : ∀ t : State, s.vm.Alike t.vm → H.size ≤ t.heap.size → (∀ q : Nat, q < H.size → t.heap[q]? = H[q]?) → XC cls s t)
    (hf : ∀ z ∈ locs, free z.base) (hc : cells + 1 ≤ mc) (hs : slots + 6 ≤ ms) :
    W p l e R s m args below meth c H locs cells slots (vx_MQ below Qc XC args s mc ms free) (F0 m pc ls rest) := by
  intro T hT X
  have htr : e.platform.stackTraces = false := (show e.platform.stackTraces = l.stackTraces by rw [X.admits.platform]).trans hl
  have Y := vx_rebase X (R' := { frames := R.frames, locals := R.locals, cells := 1, slots := 6 }) (Nat.le_refl _) (Nat.le_refl _) hRcells hRslots
  obtain ⟨s', hA⟩ : ∃ z, z = (T.setVm s.vm).setFrames (.invoking m args :: below) := ⟨_, rfl⟩
  rw [← hA] at Y
  have hvm : s'.vm = s.vm := by rw [hA]; rfl
  have hhp : s'.heap = H := by rw [hA]; exact hT
  have hW0 : s.WarmedH s'.vm := by rw [hvm]; exact State.WarmedH.refl s
  have hat' : ∀ w ∈ vx_at0 own ic cls names, w.before args s' = true := fun w hw => vx_ot_at hW0 hvm.symm (hgood w (List.mem_cons_of_mem _ (List.mem_cons_of_mem _ hw))) (hat w hw)
  have hk' : (Cond.classLink own ik cls).before args s' = true := vx_ot_at hW0 hvm.symm (hgood _ List.mem_cons_self) hk
  have hini' : (Cond.initialized cls).before args s' = true := vx_ot_at hW0 hvm.symm (hgood _ (List.mem_cons_of_mem _ List.mem_cons_self)) hini
  have hU' : vx_Zq Bundle.tN "UNASSIGNED_STACK" Bundle.steD A s' s'.heap := by rw [hhp]; exact vx_Zq.moved hW0.alike (hU.kept hS.2.1)
  have hN' : vx_Zq Bundle.tN "SUPPRESSED_SENTINEL" Bundle.listD A s' s'.heap := by rw [hhp]; exact vx_Zq.moved hW0.alike (hN.kept hS.2.1)
  have h : ∀ w ∈ Bundle.ownAtoms0 own ic cls names, w.before args s' = true := vx_own hat' (vx_isRefq hU'.1) (vx_isRefq hN'.1) hU'.2.word hN'.2.word
  have hown' : s'.vm.findClass own = some m.cls := by rw [hvm]; exact hown
  have hins : (Cond.instantiable cls 6).before args s' = true := h _ (by simp [Bundle.ownAtoms0])
  obtain ⟨vm₁, cX, kX, hfX, hkX, -, -, X₁, st1⟩ := Y.newCold hexec (own := own) (C := cls) (index := ik) (n := 6) hown' hk' hins hini'
    (g := F0 m pc ls rest) rfl (by rw [hb]; exact d0) (Nat.le_refl _) (Nat.le_refl _)
  generalize hT1 : (T.setVm vm₁).pushCell { cls := cX, slots := kX.instanceTypes.map defaultValue, vm := .none } = T1 at X₁ st1
  have hcat : (Value.ref T.heap.size).category = 1 := rfl
  have hcellA : T1.heap[T.heap.size]? = some (freshCell cX kX) := by rw [← hT1]; exact State.heap_pushCell_size _ _
  have d3' : decode c.code (pc + 3) = .ok (.dup, 1) := by rw [hb]; exact d3
  obtain ⟨U, hsteps, hrun, hend, hW, hsame, ce, hce, hO⟩ := X₁.ctorThrow0 hexec htr (own := own) (cls := cls) (names := names) (ic := ic) hown' hcls hnames h (fun x hx => nomatch hx) hfX hkX hcellA (by rw [hhp, hT]; exact Nat.le_refl _)
    (g := { method := m, pc := pc + 4, locals := ls, stack := .ref T.heap.size :: .ref T.heap.size :: rest, locked := none }) rfl hsize rfl rfl (rest := rest) rfl
    (by rw [hb]; exact d4) (by rw [hb]; exact d7) hout hRframes (by simp only [List.map_cons, List.sum_cons, hcat]; omega) hlocks
  obtain ⟨f1, f2⟩ := vx_frame hsame
  rw [hhp] at f1 f2
  have hWs : s.WarmedH U.vm := State.WarmedH.trans hW0 hW
  have hcl : s.vm.findClass cls = some ce.cls := by
    have h9 := hO.cls
    rw [hvm] at h9
    exact h9
  have hall : s.sameButNew ({ U with vm := s.vm } : State) locs mc ms := by
    subst hA
    obtain ⟨e1, e2⟩ := hsame
    rw [State.setFrames_setFrames] at e1
    have h2 : (T.setVm s.vm).sameButNew ({ U with vm := s.vm } : State) [] (0 + 1) (0 + 6) := ⟨e1, e2⟩
    have h3 := X.same.trans h2
    rw [List.append_nil] at h3
    exact h3.mono hc hs
  refine ⟨U, ?_, .threw T.heap.size, hrun, hend, Or.inr ⟨T.heap.size, rfl, cls, ce, locs, hx U hWs.alike f1 (fun q hq => f2 q hq (fun z hz => nomatch hz)), hce, hO.vm, hcl, hWs, hall, hf⟩⟩
  refine st1 _ ?_
  show Steps p.tables e below (T1.setTop { method := m, pc := pc + 3, locals := ls, stack := .ref T.heap.size :: rest, locked := none }) _
  jvm_step X₁.here [X₁.here.top, hexec, d3', Value.category]
  exact hsteps
/-- 'throw new E("text")': new; dup; ldc; invokespecial; athrow -/
theorem vx_throwS {cc : ByteArray} {pc : Nat} (hexec : p.tables.exec = Jvm.exec) (hb : c.code = cc) (hl : l.stackTraces = false) {own cls text : String} {names : List String} {ik is ic mc ms sa : Nat} {A : Nat → Prop}
    (hown : s.vm.findClass own = some m.cls) (hcls : Bundle.fit cls = true) (hnames : ∀ n ∈ names, Bundle.fit n = true)
    (hk : (Cond.classLink own ik cls).before args s = true) (hini : (Cond.initialized cls).before args s = true) (hstr : vk_R own is text sa s) (hat : ∀ w ∈ vx_atS own ic cls names, w.before args s = true)
    (hgood : ∀ w ∈ Cond.classLink own ik cls :: Cond.initialized cls :: vx_atS own ic cls names, vx_ot w = true)
    (hU : vx_Zq Bundle.tN "UNASSIGNED_STACK" Bundle.steD A s s.heap) (hN : vx_Zq Bundle.tN "SUPPRESSED_SENTINEL" Bundle.listD A s s.heap) (hS : va_S A s.heap H locs) (hsize : ls.size = c.maxLocals)
    (d0 : decode cc pc = .ok (.new ik, 3)) (d3 : decode cc (pc + 3) = .ok (.dup, 1)) (d4 : decode cc (pc + 4) = .ok (.ldc is, 2)) (d6 : decode cc (pc + 6) = .ok (.invokespecial ic, 3)) (d9 : decode cc (pc + 9) = .ok (.athrow, 1))
    (hout : ∀ x ∈ c.exceptionTable.toList, covers x (pc + 9) = false)
    (hRframes : names.length + 3 < R.frames) (hRlocals : (rest.map fun v => v.category).sum + (13 * (names.length + 1) + 43) ≤ R.locals) (hRcells : cells + 1 ≤ R.cells) (hRslots : slots + 6 ≤ R.slots) (hlocks : meth.locks = false)
    (hx : ∀ t : State, s.vm.Alike t.vm → H.size ≤ t.heap.size → (∀ q : Nat, q < H.size → t.heap[q]? = H[q]?) → XC cls s t)
    (hf : ∀ z ∈ locs, free z.base) (hc : cells + 1 ≤ mc) (hs : slots + 6 ≤ ms) :
    W p l e R s m args below meth c H locs cells slots (vx_MQ below Qc XC args s mc ms free) (F0 m pc ls rest) := by
  intro T hT X
  have htr : e.platform.stackTraces = false := (show e.platform.stackTraces = l.stackTraces by rw [X.admits.platform]).trans hl
  have Y := vx_rebase X (R' := { frames := R.frames, locals := R.locals, cells := 1, slots := 6 }) (Nat.le_refl _) (Nat.le_refl _) hRcells hRslots
  obtain ⟨s', hA⟩ : ∃ z, z = (T.setVm s.vm).setFrames (.invoking m args :: below) := ⟨_, rfl⟩
  rw [← hA] at Y
  have hvm : s'.vm = s.vm := by rw [hA]; rfl
  have hhp : s'.heap = H := by rw [hA]; exact hT
  have hW0 : s.WarmedH s'.vm := by rw [hvm]; exact State.WarmedH.refl s
  have hat' : ∀ w ∈ vx_atS own ic cls names, w.before args s' = true := fun w hw => vx_ot_at hW0 hvm.symm (hgood w (List.mem_cons_of_mem _ (List.mem_cons_of_mem _ hw))) (hat w hw)
  have hk' : (Cond.classLink own ik cls).before args s' = true := vx_ot_at hW0 hvm.symm (hgood _ List.mem_cons_self) hk
  have hini' : (Cond.initialized cls).before args s' = true := vx_ot_at hW0 hvm.symm (hgood _ (List.mem_cons_of_mem _ List.mem_cons_self)) hini
  have hU' : vx_Zq Bundle.tN "UNASSIGNED_STACK" Bundle.steD A s' s'.heap := by rw [hhp]; exact vx_Zq.moved hW0.alike (hU.kept hS.2.1)
  have hN' : vx_Zq Bundle.tN "SUPPRESSED_SENTINEL" Bundle.listD A s' s'.heap := by rw [hhp]; exact vx_Zq.moved hW0.alike (hN.kept hS.2.1)
  have h : ∀ w ∈ Bundle.ownAtoms own ic cls names, w.before args s' = true := vx_own hat' (vx_isRefq hU'.1) (vx_isRefq hN'.1) hU'.2.word hN'.2.word
  have hown' : s'.vm.findClass own = some m.cls := by rw [hvm]; exact hown
  have hins : (Cond.instantiable cls 6).before args s' = true := h _ (by simp [Bundle.ownAtoms])
  obtain ⟨vm₁, cX, kX, hfX, hkX, -, -, X₁, st1⟩ := Y.newCold hexec (own := own) (C := cls) (index := ik) (n := 6) hown' hk' hins hini'
    (g := F0 m pc ls rest) rfl (by rw [hb]; exact d0) (Nat.le_refl _) (Nat.le_refl _)
  generalize hT1 : (T.setVm vm₁).pushCell { cls := cX, slots := kX.instanceTypes.map defaultValue, vm := .none } = T1 at X₁ st1
  have hcat : (Value.ref T.heap.size).category = 1 := rfl
  have hcellA : T1.heap[T.heap.size]? = some (freshCell cX kX) := by rw [← hT1]; exact State.heap_pushCell_size _ _
  have d3' : decode c.code (pc + 3) = .ok (.dup, 1) := by rw [hb]; exact d3
  have d4' : decode c.code (pc + 4) = .ok (.ldc is, 2) := by rw [hb]; exact d4
  have hstr' : vk_R own is text sa s' := vk_R.warm hW0 hstr
  obtain ⟨U, hsteps, hrun, hend, hW, hsame, ce, hce, hO⟩ := X₁.ctorThrowS hexec htr (own := own) (cls := cls) (names := names) (ic := ic) hown' hcls hnames h (fun x hx => nomatch hx) hfX hkX hcellA (by rw [hhp, hT]; exact Nat.le_refl _) (msg := .ref sa) rfl
    (g := { method := m, pc := pc + 6, locals := ls, stack := .ref sa :: .ref T.heap.size :: .ref T.heap.size :: rest, locked := none }) rfl hsize rfl rfl (rest := rest) rfl
    (by rw [hb]; exact d6) (by rw [hb]; exact d9) hout hRframes (by simp only [List.map_cons, List.sum_cons, hcat]; omega) hlocks
  obtain ⟨f1, f2⟩ := vx_frame hsame
  rw [hhp] at f1 f2
  have hWs : s.WarmedH U.vm := State.WarmedH.trans hW0 hW
  have hcl : s.vm.findClass cls = some ce.cls := by
    have h9 := hO.cls
    rw [hvm] at h9
    exact h9
  have hall : s.sameButNew ({ U with vm := s.vm } : State) locs mc ms := by
    subst hA
    obtain ⟨e1, e2⟩ := hsame
    rw [State.setFrames_setFrames] at e1
    have h2 : (T.setVm s.vm).sameButNew ({ U with vm := s.vm } : State) [] (0 + 1) (0 + 6) := ⟨e1, e2⟩
    have h3 := X.same.trans h2
    rw [List.append_nil] at h3
    exact h3.mono hc hs
  refine ⟨U, ?_, .threw T.heap.size, hrun, hend, Or.inr ⟨T.heap.size, rfl, cls, ce, locs, hx U hWs.alike f1 (fun q hq => f2 q hq (fun z hz => nomatch hz)), hce, hO.vm, hcl, hWs, hall, hf⟩⟩
  refine st1 _ ?_
  show Steps p.tables e below (T1.setTop { method := m, pc := pc + 3, locals := ls, stack := .ref T.heap.size :: rest, locked := none }) _
  jvm_step X₁.here [X₁.here.top, hexec, d3', Value.category]
  exact X₁.ldcString hexec (own := own) (text := text) (index := is) (a := sa) hown' hstr'.1 hstr'.2
    (g := { method := m, pc := pc + 4, locals := ls, stack := .ref T.heap.size :: .ref T.heap.size :: rest, locked := none }) rfl d4' _ hsteps
/-- 'throw new E("text")', the text by a wide index -/
theorem vx_throwSW {cc : ByteArray} {pc : Nat} (hexec : p.tables.exec = Jvm.exec) (hb : c.code = cc) (hl : l.stackTraces = false) {own cls text : String} {names : List String} {ik is ic mc ms sa : Nat} {A : Nat → Prop}
    (hown : s.vm.findClass own = some m.cls) (hcls : Bundle.fit cls = true) (hnames : ∀ n ∈ names, Bundle.fit n = true)
    (hk : (Cond.classLink own ik cls).before args s = true) (hini : (Cond.initialized cls).before args s = true) (hstr : vk_R own is text sa s) (hat : ∀ w ∈ vx_atS own ic cls names, w.before args s = true)
    (hgood : ∀ w ∈ Cond.classLink own ik cls :: Cond.initialized cls :: vx_atS own ic cls names, vx_ot w = true)
    (hU : vx_Zq Bundle.tN "UNASSIGNED_STACK" Bundle.steD A s s.heap) (hN : vx_Zq Bundle.tN "SUPPRESSED_SENTINEL" Bundle.listD A s s.heap) (hS : va_S A s.heap H locs) (hsize : ls.size = c.maxLocals)
    (d0 : decode cc pc = .ok (.new ik, 3)) (d3 : decode cc (pc + 3) = .ok (.dup, 1)) (d4 : decode cc (pc + 4) = .ok (.ldc_w is, 3)) (d7 : decode cc (pc + 7) = .ok (.invokespecial ic, 3)) (d10 : decode cc (pc + 10) = .ok (.athrow, 1))
    (hout : ∀ x ∈ c.exceptionTable.toList, covers x (pc + 10) = false)
    (hRframes : names.length + 3 < R.frames) (hRlocals : (rest.map fun v => v.category).sum + (13 * (names.length + 1) + 43) ≤ R.locals) (hRcells : cells + 1 ≤ R.cells) (hRslots : slots + 6 ≤ R.slots) (hlocks : meth.locks = false)
    (hx : ∀ t : State, s.vm.Alike t.vm → H.size ≤ t.heap.size → (∀ q : Nat, q < H.size → t.heap[q]? = H[q]?) → XC cls s t)
    (hf : ∀ z ∈ locs, free z.base) (hc : cells + 1 ≤ mc) (hs : slots + 6 ≤ ms) :
    W p l e R s m args below meth c H locs cells slots (vx_MQ below Qc XC args s mc ms free) (F0 m pc ls rest) := by
  intro T hT X
  have htr : e.platform.stackTraces = false := (show e.platform.stackTraces = l.stackTraces by rw [X.admits.platform]).trans hl
  have Y := vx_rebase X (R' := { frames := R.frames, locals := R.locals, cells := 1, slots := 6 }) (Nat.le_refl _) (Nat.le_refl _) hRcells hRslots
  obtain ⟨s', hA⟩ : ∃ z, z = (T.setVm s.vm).setFrames (.invoking m args :: below) := ⟨_, rfl⟩
  rw [← hA] at Y
  have hvm : s'.vm = s.vm := by rw [hA]; rfl
  have hhp : s'.heap = H := by rw [hA]; exact hT
  have hW0 : s.WarmedH s'.vm := by rw [hvm]; exact State.WarmedH.refl s
  have hat' : ∀ w ∈ vx_atS own ic cls names, w.before args s' = true := fun w hw => vx_ot_at hW0 hvm.symm (hgood w (List.mem_cons_of_mem _ (List.mem_cons_of_mem _ hw))) (hat w hw)
  have hk' : (Cond.classLink own ik cls).before args s' = true := vx_ot_at hW0 hvm.symm (hgood _ List.mem_cons_self) hk
  have hini' : (Cond.initialized cls).before args s' = true := vx_ot_at hW0 hvm.symm (hgood _ (List.mem_cons_of_mem _ List.mem_cons_self)) hini
  have hU' : vx_Zq Bundle.tN "UNASSIGNED_STACK" Bundle.steD A s' s'.heap := by rw [hhp]; exact vx_Zq.moved hW0.alike (hU.kept hS.2.1)
  have hN' : vx_Zq Bundle.tN "SUPPRESSED_SENTINEL" Bundle.listD A s' s'.heap := by rw [hhp]; exact vx_Zq.moved hW0.alike (hN.kept hS.2.1)
  have h : ∀ w ∈ Bundle.ownAtoms own ic cls names, w.before args s' = true := vx_own hat' (vx_isRefq hU'.1) (vx_isRefq hN'.1) hU'.2.word hN'.2.word
  have hown' : s'.vm.findClass own = some m.cls := by rw [hvm]; exact hown
  have hins : (Cond.instantiable cls 6).before args s' = true := h _ (by simp [Bundle.ownAtoms])
  obtain ⟨vm₁, cX, kX, hfX, hkX, -, -, X₁, st1⟩ := Y.newCold hexec (own := own) (C := cls) (index := ik) (n := 6) hown' hk' hins hini'
    (g := F0 m pc ls rest) rfl (by rw [hb]; exact d0) (Nat.le_refl _) (Nat.le_refl _)
  generalize hT1 : (T.setVm vm₁).pushCell { cls := cX, slots := kX.instanceTypes.map defaultValue, vm := .none } = T1 at X₁ st1
  have hcat : (Value.ref T.heap.size).category = 1 := rfl
  have hcellA : T1.heap[T.heap.size]? = some (freshCell cX kX) := by rw [← hT1]; exact State.heap_pushCell_size _ _
  have d3' : decode c.code (pc + 3) = .ok (.dup, 1) := by rw [hb]; exact d3
  have d4' : decode c.code (pc + 4) = .ok (.ldc_w is, 3) := by rw [hb]; exact d4
  have hstr' : vk_R own is text sa s' := vk_R.warm hW0 hstr
  obtain ⟨U, hsteps, hrun, hend, hW, hsame, ce, hce, hO⟩ := X₁.ctorThrowS hexec htr (own := own) (cls := cls) (names := names) (ic := ic) hown' hcls hnames h (fun x hx => nomatch hx) hfX hkX hcellA (by rw [hhp, hT]; exact Nat.le_refl _) (msg := .ref sa) rfl
    (g := { method := m, pc := pc + 7, locals := ls, stack := .ref sa :: .ref T.heap.size :: .ref T.heap.size :: rest, locked := none }) rfl hsize rfl rfl (rest := rest) rfl
    (by rw [hb]; exact d7) (by rw [hb]; exact d10) hout hRframes (by simp only [List.map_cons, List.sum_cons, hcat]; omega) hlocks
  obtain ⟨f1, f2⟩ := vx_frame hsame
  rw [hhp] at f1 f2
  have hWs : s.WarmedH U.vm := State.WarmedH.trans hW0 hW
  have hcl : s.vm.findClass cls = some ce.cls := by
    have h9 := hO.cls
    rw [hvm] at h9
    exact h9
  have hall : s.sameButNew ({ U with vm := s.vm } : State) locs mc ms := by
    subst hA
    obtain ⟨e1, e2⟩ := hsame
    rw [State.setFrames_setFrames] at e1
    have h2 : (T.setVm s.vm).sameButNew ({ U with vm := s.vm } : State) [] (0 + 1) (0 + 6) := ⟨e1, e2⟩
    have h3 := X.same.trans h2
    rw [List.append_nil] at h3
    exact h3.mono hc hs
  refine ⟨U, ?_, .threw T.heap.size, hrun, hend, Or.inr ⟨T.heap.size, rfl, cls, ce, locs, hx U hWs.alike f1 (fun q hq => f2 q hq (fun z hz => nomatch hz)), hce, hO.vm, hcl, hWs, hall, hf⟩⟩
  refine st1 _ ?_
  show Steps p.tables e below (T1.setTop { method := m, pc := pc + 3, locals := ls, stack := .ref T.heap.size :: rest, locked := none }) _
  jvm_step X₁.here [X₁.here.top, hexec, d3', Value.category]
  exact X₁.ldcStringW hexec (own := own) (text := text) (index := is) (a := sa) hown' hstr'.1 hstr'.2
    (g := { method := m, pc := pc + 4, locals := ls, stack := .ref T.heap.size :: .ref T.heap.size :: rest, locked := none }) rfl d4' _ hsteps
end Ends
section Bodies
variable {l : Launch}
theorem vx_ofW {y : MethodName} {ws ws' : List Cond} {rm : Room} {Pc : Array Value → State → Prop} {Qc : Array Value → State → Outcome → State → Prop} {XC : String → State → State → Prop} {mc ms : Nat} {free : Addr → Prop} {cc : ByteArray} {maxL : Nat} {ret : Option FieldType}
    (hy : plainName y.cls = true) (hw : ws = Cond.code y cc maxL ret :: ws')
    (body : ∀ p e s m args below meth c s₁, BodyLoose p l y (headSpec ws rm) cc maxL ret e s m args below meth c s₁ → c.maxLocals = maxL → (∀ x ∈ c.exceptionTable.toList, False) → Pc args s →
      W p l e (headSpec ws rm).room s m args below meth c s.heap [] 0 0 (vx_MQ below Qc XC args s mc ms free) (entryFrame m args maxL)) : vx_Met l y ws rm Pc Qc XC mc ms free := by
  refine MetFree.of_bodyS (code := cc) (maxLocals := maxL) (ret := ret) hy ?_ ?_
  · intro args s m h hn
    obtain ⟨meth, c, h1, h2, h3, h4, h5, h6, -, -⟩ := Cond.code_spec hn (atoms_spec (ws := ws) h _ (by rw [hw]; exact List.mem_cons_self))
    exact ⟨meth, c, h1, h2, h3, h4, h5, h6⟩
  · intro p e s m args below meth c s₁ B hml hP _
    have hh0 : s₁.heap = s.heap := by rw [B.state]; rfl
    have ht : ∀ x ∈ c.exceptionTable.toList, False := by
      obtain ⟨meth9, c9, h1, h2, -, -, -, -, h7, -⟩ := Cond.code_spec B.named (atoms_spec (ws := ws) B.pre _ (by rw [hw]; exact List.mem_cons_self))
      cases Option.some.inj (h1.symm.trans B.method)
      cases Option.some.inj (h2.symm.trans (Stand.of_body B).code)
      intro x hx
      rw [Array.isEmpty_iff.mp h7] at hx
      cases hx
    obtain ⟨t, a1, o, b1, b2, b3⟩ := body p e s m args below meth c s₁ B hml ht hP s₁ hh0 (Stand.of_body B)
    exact ⟨t, o, a1, b1, b2, b3⟩
/-- the table of a body with handlers -/
theorem vx_table {p : Program} {x y : MethodName} {S : Spec} {cc bytes : ByteArray} {maxL maxL' : Nat} {ret ret' : Option FieldType} {e : Env} {s s₁ : State} {m : MethodId} {args : Array Value} {below : List Frame} {meth : Method} {c : Code} {hh : List (Nat × Nat × Nat × Nat)}
    (B : BodyLoose p l y S cc maxL ret e s m args below meth c s₁) (h : (Cond.codeWith y bytes maxL' ret' hh).before args s = true) : c.exceptionTable.toList = tableOf hh := by
  obtain ⟨m9, meth9, c9, hn9, h1, h2, -, -, h6, -⟩ := Cond.codeWith_spec h
  cases Option.some.inj (hn9.symm.trans B.named)
  cases Option.some.inj (h1.symm.trans B.method)
  cases Option.some.inj (h2.symm.trans (Stand.of_body B).code)
  rw [← h6, table_eq]
end Bodies
end VXA
/-! ===== END ===== -/
/-! ===== BEGIN a static call of a method with an exception table ===== -/
section VXS
variable {p : Program} {l : Launch} {e : Env} {R : Room} {s : State} {m : MethodId} {args : Array Value} {below : List Frame} {meth : Method} {c : Code} {T : State} {H : Heap} {locs : List Loc} {cells slots : Nat}
abbrev vx_CSW (R : Room) (s : State) (args : Array Value) (own : String) (index : Nat) (y : MethodName) (bytes : ByteArray) (maxL : Nat) (ret : Option FieldType) (hh : List (Nat × Nat × Nat × Nat)) (ws : List Cond) (rm : Room) (mc ms n : Nat) : Prop :=
  (rm.cells = mc ∧ rm.slots = ms ∧ rm.frames + 1 ≤ R.frames ∧ 8 + (maxL + 11) + rm.locals ≤ R.locals ∧ (∀ w ∈ ws, ∀ (a' : Array Value) (U : State), s.WarmedH U.vm → w.before a' U = true) ∧ Cond.codeWith y bytes maxL ret hh ∈ ws) ∧
  (Cond.codeWith y bytes maxL ret hh).before args s = true ∧ (Cond.initialized y.cls).before args s = true ∧ (y.cls ≠ "java/lang/invoke/MethodHandle" ∧ y.cls ≠ "java/lang/invoke/VarHandle") ∧
  (∀ sig, parseMethodDescriptor y.desc = some sig → n = sig.parameters.length) ∧ (Cond.methodLink own index y).before args s = true ∧ (Cond.static y).before args s = true
theorem vx_cwSW {own : String} {index maxL mc ms : Nat} {y : MethodName} {bytes : ByteArray} {ret : Option FieldType} {hh : List (Nat × Nat × Nat × Nat)} {Ts ws ws' : List Cond} {rm : Room} (n : Nat) (ht : ∀ w ∈ Ts, w.before args s = true) (hT : GoodIn Ts (va_wsS own index y ws)) (hw : ws = Cond.codeWith y bytes maxL ret hh :: ws') (hrc : rm.cells = mc) (hrs : rm.slots = ms)
    (hd : y.cls ≠ "java/lang/invoke/MethodHandle" ∧ y.cls ≠ "java/lang/invoke/VarHandle" ∧ (parseMethodDescriptor y.desc).map (fun d => d.parameters.length) = some n) (hR : rm.frames + 1 ≤ R.frames ∧ 8 + (maxL + 11) + rm.locals ≤ R.locals) :
    vx_CSW R s args own index y bytes maxL ret hh ws rm mc ms n := by
  have ok : ∀ w ∈ va_wsS own index y ws, w.before args s = true := fun w h => ht w (hT w h).1
  have hG : GoodIn Ts ws := fun w h => hT w (by unfold va_wsS; exact List.mem_append_right _ h)
  have hc : Cond.codeWith y bytes maxL ret hh ∈ ws := by rw [hw]; exact List.mem_cons_self
  refine ⟨⟨hrc, hrs, hR.1, hR.2, pay_in ht hG, hc⟩, ht _ (hG _ hc).1, ok _ (by simp [va_wsS]), ⟨hd.1, hd.2.1⟩, fun sig h => ?_, ok _ (by simp [va_wsS]), ok _ (by simp [va_wsS])⟩
  have h2 := hd.2.2
  rw [h] at h2
  exact (Option.some.inj h2).symm
theorem vx_callSW (X : Stand p l e R s m args below meth c T locs cells slots) (hexec : p.tables.exec = Jvm.exec) {own : String} {index : Nat} {y : MethodName} {bytes : ByteArray} {maxL : Nat} {ret : Option FieldType} {hh : List (Nat × Nat × Nat × Nat)}
    (hown : s.vm.findClass own = some m.cls) (hlink : (Cond.methodLink own index y).before args s = true) (hstat : (Cond.static y).before args s = true) (hinit : (Cond.initialized y.cls).before args s = true)
    (hcode : (Cond.codeWith y bytes maxL ret hh).before args s = true) (hy : y.cls ≠ "java/lang/invoke/MethodHandle" ∧ y.cls ≠ "java/lang/invoke/VarHandle")
    {W9 : Nat} {Pre : Pt → Array Value → Prop} {Post : Pt → Array Value → Option Value → Pt → Prop} (hK : Back l R p e below s args y 3 W9 Pre Post)
    {g : JFrame} (hg : g.method = m) (hsize : g.locals.size = c.maxLocals) {argsL rest : List Value} (hlen : ∀ sig, parseMethodDescriptor y.desc = some sig → argsL.length = sig.parameters.length)
    (hstack : g.stack = argsL.reverse ++ rest) (hW : 2 * g.monitorRoom + (rest.map fun v => v.category).sum ≤ W9) (hdg : decode c.code g.pc = .ok (.invokestatic index, 3))
    (hpre : ∀ vm₁, s.WarmedH vm₁ → Pre ⟨T.setVm vm₁, locs, cells, slots⟩ argsL.toArray) :
    ∃ (v : Option Value) (vm₁ : Vm) (B : Pt), s.WarmedH vm₁ ∧ Stand p l e R s m args below meth c B.U B.locs B.cells B.slots ∧ Post ⟨T.setVm vm₁, locs, cells, slots⟩ argsL.toArray v B ∧
      ∀ target, Steps p.tables e below (B.U.setTop { g with pc := g.pc + 3, stack := v.toList ++ rest }) target → Steps p.tables e below (T.setTop g) target := by
  obtain ⟨mk, methM, cM, hnamed, hmethM, -, -, -, -, -, -, hsigM⟩ := Cond.codeWith_spec hcode
  have hstatic : methM.isStatic = true := Cond.static_spec hnamed hmethM hstat
  obtain ⟨kP, hkP, -⟩ := className_of_methodNamed hnamed
  have hinitP : kP.init = .initialized := Cond.initialized_spec (findClass_of_methodNamed hnamed) hkP hinit
  obtain ⟨vm₁, X₁, hstep₁⟩ := X.invokestatic hexec hown hlink hnamed hmethM hstatic hkP hinitP hy (g := g) hg (argsL := argsL) (rest := rest) (hlen _ hsigM) hstack hdg
  obtain ⟨v, B, X', hpost, hsteps⟩ := hK m meth c ⟨T.setVm vm₁, locs, cells, slots⟩ { g with stack := rest } (.invokestatic index) mk argsL.toArray X₁ hg hsize hdg hW (X₁.named hnamed) (hpre vm₁ X₁.warmed)
  exact ⟨v, vm₁, B, X₁.warmed, X', hpost, fun target h => hstep₁ _ fun acts => by rw [doInvoke_state]; exact hsteps.trans h⟩
theorem vx_runSW {y : MethodName} {bytes cc : ByteArray} {maxL nL mc ms n index : Nat} {ret : Option FieldType} {hh : List (Nat × Nat × Nat × Nat)} {ws : List Cond} {rm : Room} {Pc : Array Value → State → Prop} {Qc : Array Value → State → Outcome → State → Prop} {free : Addr → Prop} {Ts : List Cond} {own : String} {As rest : List Value} {g : JFrame}
    (S : CallFix p m c cc nL s args Ts own) (hM : Met l y ws rm Pc Qc mc ms free) (cw : vx_CSW R s args own index y bytes maxL ret hh ws rm mc ms n) (hp : PreS s H Pc As)
    (hg : g.method = m) (hn : As.length = n) (hsize : g.locals.size = nL) (hstack : g.stack = As.reverse ++ rest) (hW : 2 * g.monitorRoom + (rest.map fun v => v.category).sum ≤ 8) (hdg : decode cc g.pc = .ok (.invokestatic index, 3)) (hf : cells + mc ≤ R.cells ∧ slots + ms ≤ R.slots) :
    va_Run p l e R s m args below meth c H locs cells slots mc ms g rest (Qc As.toArray) (free) := by
  obtain ⟨⟨hrc, hrs, hfr, hlo, hws, hcw⟩, hcode, hini, hy, hlen, hl, hstt⟩ := cw
  have hK : Back l R p e below s args y 3 8 (PreOf R mc ms Pc) (PostOf Qc mc ms free) := va_backW (hh := hh) (bytes := bytes) (maxL := maxL) (ret := ret) hM hp.1 hrc hrs hfr hlo hws hcw (fun a' U hW => word_at hW (Or.inl (by first | rfl | simp [Cond.onTables, Cond.keeps, Cond.steady])) hini)
  obtain ⟨hx, hb, hml, ho, -⟩ := S
  intro T hT X
  obtain ⟨v, vm₁, ⟨U', l2, c2, s2⟩, hW₁, X', ⟨g', mk, t, L, e1, e2, hq, h1, hL, h2, h3⟩, st⟩ := vx_callSW X hx (hh := hh) (bytes := bytes) (maxL := maxL) (ret := ret) ho hl hstt hini hcode hy hK hg (hsize.trans hml.symm) (argsL := As) (rest := rest) (fun sig h => hn.trans (hlen sig h)) hstack hW (by rw [hb]; exact hdg)
    (fun vm₁ hW₁ => ⟨hf.1, hf.2, hp.2 (T.setVm vm₁) hT hW₁⟩)
  dsimp only [Pt.U, Pt.locs, Pt.cells, Pt.slots] at X' e1 e2 h1 h2 h3 st
  subst h1; subst h2; subst h3
  exact ⟨v, (T.setVm vm₁).calling g' mk As.toArray, t, U', L, hT, X', hL, e1, e2, hq, st⟩
/-- not caught here, past rows that name other classes: it goes on to the caller -/
theorem vx_outP {p : Program} {l : Launch} {e : Env} {R : Room} {s : State} {m : MethodId} {args : Array Value} {below : List Frame} {meth : Method} {c : Code} {H : Heap} {locs : List Loc} {cells slots : Nat} {free : Addr → Prop} {ls : Array Slot} {rest : List Value} {Qc : Array Value → State → Outcome → State → Prop} {XC : String → State → State → Prop}
    {pc : Nat} {own E : String} {ce : Cell} {q : Addr} {mc ms : Nat} (hown : s.vm.findClass own = some m.cls) (hlocks : meth.locks = false)
    (hpass : ∀ z ∈ c.exceptionTable.toList, covers z pc = false ∨ (z.catchType ≠ 0 ∧ ∃ nm : String, (Cond.classLink own z.catchType nm).before args s = true ∧ va_Nc E nm s)) (hcell : H[q]? = some ce) (hv : ce.vm = .none) (hcl : s.vm.findClass E = some ce.cls)
    (hx : ∀ t : State, t.heap = H → s.vm.Alike t.vm → XC E s t) (hf : ∀ z ∈ locs, free z.base) (hc : cells ≤ mc) (hs : slots ≤ ms) :
    vx_W p l e R s m args below meth c H locs cells slots (vx_MQ below Qc XC args s mc ms free) (F0 m pc ls rest) q := by
  intro T hT X
  have hpl : e.platform.magicAccessors = ({} : Platform).magicAccessors := by rw [X.admits.platform]
  obtain ⟨vm', hW', X', st⟩ := X.outThrough hlocks q (g := F0 m pc ls rest) rfl rfl rfl (cell := ce) (by rw [hT]; exact hcell) (by rw [hv]; rfl)
    (by obtain ⟨k9, h9, -⟩ := Vm.findClass_spec hcl; exact ⟨k9, h9⟩) (fun z hz => by
      rcases hpass z hz with h | ⟨hz0, nm, hl1, hn1⟩
      · exact Or.inl h
      · obtain ⟨c6, hc6, hcl6⟩ := Cond.classLink_spec hown hl1 e.platform hpl
        obtain ⟨a8, b8, h1, h2, h3⟩ := hn1
        cases Option.some.inj (h1.symm.trans hcl)
        cases Option.some.inj (h2.symm.trans hc6)
        exact Or.inr ⟨hz0, _, hcl6, h3⟩)
  obtain ⟨g₀, hfr⟩ := X'.frames_eq
  have hcell9 : ((T.setVm vm').setFrames (.throwing q :: below)).heap[q]? = some ce := by
    show T.heap[q]? = some ce
    rw [hT]; exact hcell
  have hend : Ended ((T.setVm vm').setFrames (.throwing q :: below)) below (.threw q) := State.frames_setFrames _ (State.cur_lt_of_frames hfr)
  refine ⟨(T.setVm vm').setFrames (.throwing q :: below), ?_, .threw q, X'.here.running, hend, Or.inr ⟨q, rfl, E, ce, locs, hx _ hT (X'.ends _).1.alike, hcell9, hv, hcl, (X'.ends _).1, (X'.ends _).2.mono hc hs, hf⟩⟩
  rw [X.pushThrowing_eq]
  exact st
/-- a thing of a world lies in the heap -/
theorem vx_lt {D : va_G} {cl : List vw_C} {ws : va_W} {H1 : Heap} (h : va_P D cl ws H1) {k : Nat} {q : Nat × va_E} (hk : ws[k]? = some q) : q.1 < H1.size := (h k q hk).lt
end VXS
/-! ===== END ===== -/
/-! ===== BEGIN methods with a table of their own: called by a name, returning or throwing ===== -/
section VXH
/-! vx_backW, vx_callVX, vx_callSX, vx_callVW, vx_runVW, vx_runVX, vx_runSX, vx_ofWH follow the same proofs as their sisters above (Free/Laws.lean, Shelf42/LK1.lean); vx_outP calls Shelf42/NT130.lean (outThrough). -/
section
variable {l : Launch} {R : Room} {p : Program} {e : Env} {below : List Frame} {s : State} {sargs : Array Value} {y : MethodName} {len W9 : Nat}
theorem vx_backW {ws : List Cond} {rm : Room} {Pc : Array Value → State → Prop} {Qc : Array Value → State → Outcome → State → Prop} {XC : String → State → State → Prop} {mc ms : Nat} {free : Addr → Prop} {bytes : ByteArray} {maxL : Nat} {ret : Option FieldType} {hh : List (Nat × Nat × Nat × Nat)}
    (hM : vx_Met l y ws rm Pc Qc XC mc ms free) (hblind : FrameBlind Pc) (hrc : rm.cells = mc) (hrs : rm.slots = ms)
    (hframes : rm.frames + 1 ≤ R.frames) (hlocals : W9 + (maxL + 11) + rm.locals ≤ R.locals)
    (hws : ∀ w ∈ ws, ∀ a' U, s.WarmedH U.vm → w.before a' U = true) (hcode : Cond.codeWith y bytes maxL ret hh ∈ ws) (hinit : ∀ a' U, s.WarmedH U.vm → (Cond.initialized y.cls).before a' U = true) :
    vx_Back l R p e below s sargs y len W9 (PreOf R mc ms Pc) (PostOf Qc mc ms free) (vx_Post XC mc ms free) := by
  intro m meth c A g ig mk a X hg hsize hdg hW hn hp
  have h1 : (headSpec ws rm).pre.before a A.U = true := atoms_intro fun w hw => hws w hw _ _ X.warmed
  have h2 : (Cond.codeWith y bytes maxL ret hh).before a A.U = true := hws _ hcode _ _ X.warmed
  have h3 : (Cond.initialized y.cls).before a A.U = true := hinit _ _ X.warmed
  have h4 : A.cells + (headSpec ws rm).room.cells ≤ R.cells := by rw [show (headSpec ws rm).room.cells = mc from hrc]; exact hp.1
  have h5 : A.slots + (headSpec ws rm).room.slots ≤ R.slots := by rw [show (headSpec ws rm).room.slots = ms from hrs]; exact hp.2.1
  have hPc : Pc a (A.U.calling g mk a) := hblind _ _ _ _ hp.2.2
  obtain ⟨U, Ls, c0, s0⟩ := A
  dsimp only [Pt.U, Pt.locs, Pt.cells, Pt.slots] at h1 h2 h3 h4 h5 X hn hPc ⊢
  obtain ⟨m9, methY, cY, hn9, hmY, hcY, -, hlY, -⟩ := Cond.codeWith_spec h2
  cases Option.some.inj (hn9.symm.trans hn)
  obtain ⟨kY, hkY, -⟩ := className_of_methodNamed hn
  have hinitY : kY.init = .initialized := Cond.initialized_spec (findClass_of_methodNamed hn) hkY h3
  have h : At U g.method c below := by rw [hg]; exact X.here
  have hlocals9 : W9 + (maxL + 11) + (headSpec ws rm).room.locals ≤ R.locals := hlocals
  have happ : (headSpec ws rm).appliesLoose y e.platform (U.calling g mk a) = true :=
    Spec.appliesLoose_calling (g := g) h hdg hn hkY hinitY
      (X.room_calling (g := g) (R' := (headSpec ws rm).room) hsize hmY hcY hframes (by rw [hlY]; omega) h4 h5) h1
  obtain ⟨mid, hmid⟩ := h.above
  have hfr : (U.setTop g).frames = (.java g :: mid) ++ below := by rw [State.frames_setTop' g h.top, hmid]; rfl
  obtain ⟨o, s₂, hsteps, -, hend, hq⟩ := Steps.callFree hM p X.admits X.cas X.clock (acts := []) hfr happ hPc trivial
  have hq' : vx_Q Qc XC mc ms free a (U.calling g mk a) o s₂ := hq
  rw [State.frames_setTop' g h.top] at hend
  obtain ⟨g₀, hg0⟩ := Option.isSome_iff_exists.mp h.top
  obtain ⟨r, hr⟩ := State.topJava?_eq_some.mp hg0
  have hr' : (({ U with heap := s₂.heap, slotsUsed := s₂.slotsUsed } : State).setVm s₂.vm).frames = .java g₀ :: r := hr
  rcases hq' with ⟨hqc, L, hfe, hL⟩ | ⟨q, rfl, E, ce, L, hx, hce, hcv, hcl, hW₂, hsm, hL⟩
  · obtain ⟨⟨v, rfl⟩, hW₂, e2, q2, q3, q4, q5, q6⟩ := id hfe
    have e3 : s₂ = ({ (U.calling g mk a).setFrames s₂.frames with heap := s₂.heap, slotsUsed := s₂.slotsUsed } : State).setVm s₂.vm := by
      have : s₂ = ({ s₂ with vm := (U.calling g mk a).vm } : State).setVm s₂.vm := rfl
      rw [e2] at this
      exact this
    obtain ⟨c₂, i₂, len₂, hc₂, hd₂, hf₂⟩ := hend
    have hW' : U.WarmedH s₂.vm := hW₂
    have hcc : c₂ = c := by
      have h1 : s₂.code? g.method = U.code? g.method := by
        rw [State.code?_eq, State.code?_eq, hW'.alike.method?]
      exact Option.some.inj (hc₂.symm.trans (h1.trans h.code))
    subst hcc
    have hlen : len₂ = len := by rw [hdg] at hd₂; cases hd₂; rfl
    subst hlen
    have hs₂ : s₂ = (({ U with heap := s₂.heap, slotsUsed := s₂.slotsUsed } : State).setVm s₂.vm).setTop { g with pc := g.pc + len₂, stack := v.toList ++ g.stack } := by
      refine e3.trans ?_
      rw [hf₂, State.calling_eq h.top, State.setFrames_setFrames, State.setTop_of_frames _ hr', hr]
      rfl
    have hsame : U.sameButNew ({ U with heap := s₂.heap, slotsUsed := s₂.slotsUsed } : State) L mc ms := by
      refine ⟨?_, q2, q3, q4, q5, q6⟩
      obtain ⟨t, ht, -⟩ := State.frames_cons hr
      show ({ U with heap := s₂.heap, slotsUsed := s₂.slotsUsed } : State) = { U.setFrames U.frames with heap := s₂.heap, slotsUsed := s₂.slotsUsed }
      rw [State.setFrames_self ht]
    subst hg
    refine Or.inl ⟨v, ⟨(({ U with heap := s₂.heap, slotsUsed := s₂.slotsUsed } : State).setVm s₂.vm), Ls ++ L, c0 + mc, s0 + ms⟩,
      ⟨X.admits, X.cas, X.clock, X.frames, X.room, X.hears, X.method, X.code, (X.here.setHeapUsed s₂.heap s₂.slotsUsed).setVm hW'.alike, X.tail, State.WarmedH.trans X.warmed hW', X.limits, X.bytes, X.same.trans (hsame.setVm s.vm)⟩,
      ⟨g, mk, s₂, L, rfl, rfl, hqc, rfl, hL, rfl, rfl⟩, ?_⟩
    show Steps p.tables e below _ ((({ U with heap := s₂.heap, slotsUsed := s₂.slotsUsed } : State).setVm s₂.vm).setTop { g with pc := g.pc + len₂, stack := v.toList ++ g.stack })
    rw [← hs₂]
    exact hsteps
  · obtain ⟨e2, q2, q3, q4, q5, q6⟩ := id hsm
    have e3 : s₂ = ({ (U.calling g mk a).setFrames s₂.frames with heap := s₂.heap, slotsUsed := s₂.slotsUsed } : State).setVm s₂.vm := by
      have : s₂ = ({ s₂ with vm := (U.calling g mk a).vm } : State).setVm s₂.vm := rfl
      rw [e2] at this
      exact this
    have hf₂ : s₂.frames = .throwing q :: .java g :: U.frames.tail := hend
    have hW' : U.WarmedH s₂.vm := hW₂
    have hs₂ : s₂ = ((({ U with heap := s₂.heap, slotsUsed := s₂.slotsUsed } : State).setVm s₂.vm).setTop g).pushFrame (.throwing q) := by
      refine e3.trans ?_
      rw [hf₂, State.calling_eq h.top, State.setFrames_setFrames, State.pushFrame, State.frames_setTop _ hr', State.setTop_of_frames _ hr', State.setFrames_setFrames, hr]
      rfl
    have hsame : U.sameButNew ({ U with heap := s₂.heap, slotsUsed := s₂.slotsUsed } : State) L mc ms := by
      refine ⟨?_, q2, q3, q4, q5, q6⟩
      obtain ⟨t, ht, -⟩ := State.frames_cons hr
      show ({ U with heap := s₂.heap, slotsUsed := s₂.slotsUsed } : State) = { U.setFrames U.frames with heap := s₂.heap, slotsUsed := s₂.slotsUsed }
      rw [State.setFrames_self ht]
    subst hg
    refine Or.inr ⟨q, ⟨(({ U with heap := s₂.heap, slotsUsed := s₂.slotsUsed } : State).setVm s₂.vm), Ls ++ L, c0 + mc, s0 + ms⟩,
      ⟨X.admits, X.cas, X.clock, X.frames, X.room, X.hears, X.method, X.code, (X.here.setHeapUsed s₂.heap s₂.slotsUsed).setVm hW'.alike, X.tail, State.WarmedH.trans X.warmed hW', X.limits, X.bytes, X.same.trans (hsame.setVm s.vm)⟩,
      ⟨g, mk, s₂, L, E, ce, rfl, rfl, hx, hce, hcv, hcl, rfl, hL, rfl, rfl⟩, ?_⟩
    show Steps p.tables e below _ (((({ U with heap := s₂.heap, slotsUsed := s₂.slotsUsed } : State).setVm s₂.vm).setTop g).pushFrame (.throwing q))
    rw [← hs₂]
    exact hsteps
end
variable {p : Program} {l : Launch} {e : Env} {R : Room} {s : State} {m : MethodId} {args : Array Value} {below : List Frame} {meth : Method} {c : Code} {T : State} {H : Heap} {locs : List Loc} {cells slots : Nat}
theorem vx_callVX (X : Stand p l e R s m args below meth c T locs cells slots) (hexec : p.tables.exec = Jvm.exec) {own C : String} {index : Nat} {y : MethodName} {bytes : ByteArray} {maxL : Nat} {ret : Option FieldType} {hh : List (Nat × Nat × Nat × Nat)}
    (hown : s.vm.findClass own = some m.cls) (hlink : (Cond.methodLink own index y).before args s = true) (hinst : (Cond.instanceMethod y).before args s = true) (hsel : (Cond.selects C y y).before args s = true)
    (hcode : (Cond.codeWith y bytes maxL ret hh).before args s = true) (hy : y.cls ≠ "java/lang/invoke/MethodHandle" ∧ y.cls ≠ "java/lang/invoke/VarHandle")
    {W9 : Nat} {Pre : Pt → Array Value → Prop} {Post : Pt → Array Value → Option Value → Pt → Prop} {PostX : Pt → Array Value → Addr → Pt → Prop} (hK : vx_Back l R p e below s args y 3 W9 Pre Post PostX)
    {b : Addr} {cellB : Cell} (hcell : T.heap[b]? = some cellB) (hobj : cellB.vm.isStatics = false) (hcls : s.vm.findClass C = some cellB.cls)
    {g : JFrame} (hg : g.method = m) (hsize : g.locals.size = c.maxLocals) {argsL rest : List Value} (hlen : ∀ sig, parseMethodDescriptor y.desc = some sig → argsL.length = sig.parameters.length)
    (hstack : g.stack = argsL.reverse ++ .ref b :: rest) (hW : 2 * g.monitorRoom + (rest.map fun v => v.category).sum ≤ W9) (hdg : decode c.code g.pc = .ok (.invokevirtual index, 3))
    (hpre : ∀ vm₁, s.WarmedH vm₁ → Pre ⟨T.setVm vm₁, locs, cells, slots⟩ (Value.ref b :: argsL).toArray) :
    (∃ (v : Option Value) (vm₁ : Vm) (B : Pt), s.WarmedH vm₁ ∧ Stand p l e R s m args below meth c B.U B.locs B.cells B.slots ∧ Post ⟨T.setVm vm₁, locs, cells, slots⟩ (Value.ref b :: argsL).toArray v B ∧
      ∀ target, Steps p.tables e below (B.U.setTop { g with pc := g.pc + 3, stack := v.toList ++ rest }) target → Steps p.tables e below (T.setTop g) target) ∨
    (∃ (q : Addr) (vm₁ : Vm) (B : Pt), s.WarmedH vm₁ ∧ Stand p l e R s m args below meth c B.U B.locs B.cells B.slots ∧ PostX ⟨T.setVm vm₁, locs, cells, slots⟩ (Value.ref b :: argsL).toArray q B ∧
      Steps p.tables e below (T.setTop g) ((B.U.setTop { g with stack := rest }).pushFrame (.throwing q))) := by
  obtain ⟨mk, methM, hnamed, hmethM, hstM, habM⟩ := Cond.instanceMethod_spec hinst
  obtain ⟨m8, methM', cM, hn8, hmethM', -, -, -, -, -, -, hsigM⟩ := Cond.codeWith_spec hcode
  cases Option.some.inj (hn8.symm.trans hnamed)
  cases hmethM.symm.trans hmethM'
  obtain ⟨c2, r2, m2, q1, q2, q3, q4, kP, hkP, hkPi⟩ := Cond.selects_spec hsel
  cases hcls.symm.trans q1
  cases (State.methodFound?_of_named hnamed hy).symm.trans q2
  cases hnamed.symm.trans q3
  have hselP : selectMethod e.platform s.vm cellB.cls mk = .method mk := by rw [Launch.admits_selectMethod X.admits]; exact q4
  obtain ⟨vm₁, X₁, hstep₁⟩ := X.invokevirtual hexec hown hlink hnamed hmethM hstM hkP hkPi hy (a := b) (cell := cellB) hcell
    (fun z h => by rw [h] at hobj; cases hobj) hselP hmethM habM hkP hkPi (g := g) hg (argsL := argsL) (rest := rest) (hlen _ hsigM) hstack hdg
  rcases hK m meth c ⟨T.setVm vm₁, locs, cells, slots⟩ { g with stack := rest } (.invokevirtual index) mk (Value.ref b :: argsL).toArray X₁ hg hsize hdg hW (X₁.named hnamed) (hpre vm₁ X₁.warmed) with ⟨v, B, X', hpost, hsteps⟩ | ⟨q, B, X', hpost, hsteps⟩
  · exact Or.inl ⟨v, vm₁, B, X₁.warmed, X', hpost, fun target h => hstep₁ _ fun acts => by rw [doInvoke_state]; exact hsteps.trans h⟩
  · exact Or.inr ⟨q, vm₁, B, X₁.warmed, X', hpost, hstep₁ _ fun acts => by rw [doInvoke_state]; exact hsteps⟩
theorem vx_callSX (X : Stand p l e R s m args below meth c T locs cells slots) (hexec : p.tables.exec = Jvm.exec) {own : String} {index : Nat} {y : MethodName} {bytes : ByteArray} {maxL : Nat} {ret : Option FieldType} {hh : List (Nat × Nat × Nat × Nat)}
    (hown : s.vm.findClass own = some m.cls) (hlink : (Cond.methodLink own index y).before args s = true) (hstat : (Cond.static y).before args s = true) (hinit : (Cond.initialized y.cls).before args s = true)
    (hcode : (Cond.codeWith y bytes maxL ret hh).before args s = true) (hy : y.cls ≠ "java/lang/invoke/MethodHandle" ∧ y.cls ≠ "java/lang/invoke/VarHandle")
    {W9 : Nat} {Pre : Pt → Array Value → Prop} {Post : Pt → Array Value → Option Value → Pt → Prop} {PostX : Pt → Array Value → Addr → Pt → Prop} (hK : vx_Back l R p e below s args y 3 W9 Pre Post PostX)
    {g : JFrame} (hg : g.method = m) (hsize : g.locals.size = c.maxLocals) {argsL rest : List Value} (hlen : ∀ sig, parseMethodDescriptor y.desc = some sig → argsL.length = sig.parameters.length)
    (hstack : g.stack = argsL.reverse ++ rest) (hW : 2 * g.monitorRoom + (rest.map fun v => v.category).sum ≤ W9) (hdg : decode c.code g.pc = .ok (.invokestatic index, 3))
    (hpre : ∀ vm₁, s.WarmedH vm₁ → Pre ⟨T.setVm vm₁, locs, cells, slots⟩ argsL.toArray) :
    (∃ (v : Option Value) (vm₁ : Vm) (B : Pt), s.WarmedH vm₁ ∧ Stand p l e R s m args below meth c B.U B.locs B.cells B.slots ∧ Post ⟨T.setVm vm₁, locs, cells, slots⟩ argsL.toArray v B ∧
      ∀ target, Steps p.tables e below (B.U.setTop { g with pc := g.pc + 3, stack := v.toList ++ rest }) target → Steps p.tables e below (T.setTop g) target) ∨
    (∃ (q : Addr) (vm₁ : Vm) (B : Pt), s.WarmedH vm₁ ∧ Stand p l e R s m args below meth c B.U B.locs B.cells B.slots ∧ PostX ⟨T.setVm vm₁, locs, cells, slots⟩ argsL.toArray q B ∧
      Steps p.tables e below (T.setTop g) ((B.U.setTop { g with stack := rest }).pushFrame (.throwing q))) := by
  obtain ⟨mk, methM, cM, hnamed, hmethM, -, -, -, -, -, -, hsigM⟩ := Cond.codeWith_spec hcode
  have hstatic : methM.isStatic = true := Cond.static_spec hnamed hmethM hstat
  obtain ⟨kP, hkP, -⟩ := className_of_methodNamed hnamed
  have hinitP : kP.init = .initialized := Cond.initialized_spec (findClass_of_methodNamed hnamed) hkP hinit
  obtain ⟨vm₁, X₁, hstep₁⟩ := X.invokestatic hexec hown hlink hnamed hmethM hstatic hkP hinitP hy (g := g) hg (argsL := argsL) (rest := rest) (hlen _ hsigM) hstack hdg
  rcases hK m meth c ⟨T.setVm vm₁, locs, cells, slots⟩ { g with stack := rest } (.invokestatic index) mk argsL.toArray X₁ hg hsize hdg hW (X₁.named hnamed) (hpre vm₁ X₁.warmed) with ⟨v, B, X', hpost, hsteps⟩ | ⟨q, B, X', hpost, hsteps⟩
  · exact Or.inl ⟨v, vm₁, B, X₁.warmed, X', hpost, fun target h => hstep₁ _ fun acts => by rw [doInvoke_state]; exact hsteps.trans h⟩
  · exact Or.inr ⟨q, vm₁, B, X₁.warmed, X', hpost, hstep₁ _ fun acts => by rw [doInvoke_state]; exact hsteps⟩
theorem vx_callVW (X : Stand p l e R s m args below meth c T locs cells slots) (hexec : p.tables.exec = Jvm.exec) {own C : String} {index : Nat} {y : MethodName} {bytes : ByteArray} {maxL : Nat} {ret : Option FieldType} {hh : List (Nat × Nat × Nat × Nat)}
    (hown : s.vm.findClass own = some m.cls) (hlink : (Cond.methodLink own index y).before args s = true) (hinst : (Cond.instanceMethod y).before args s = true) (hsel : (Cond.selects C y y).before args s = true)
    (hcode : (Cond.codeWith y bytes maxL ret hh).before args s = true) (hy : y.cls ≠ "java/lang/invoke/MethodHandle" ∧ y.cls ≠ "java/lang/invoke/VarHandle")
    {W9 : Nat} {Pre : Pt → Array Value → Prop} {Post : Pt → Array Value → Option Value → Pt → Prop} (hK : Back l R p e below s args y 3 W9 Pre Post)
    {b : Addr} {cellB : Cell} (hcell : T.heap[b]? = some cellB) (hobj : cellB.vm.isStatics = false) (hcls : s.vm.findClass C = some cellB.cls)
    {g : JFrame} (hg : g.method = m) (hsize : g.locals.size = c.maxLocals) {argsL rest : List Value} (hlen : ∀ sig, parseMethodDescriptor y.desc = some sig → argsL.length = sig.parameters.length)
    (hstack : g.stack = argsL.reverse ++ .ref b :: rest) (hW : 2 * g.monitorRoom + (rest.map fun v => v.category).sum ≤ W9) (hdg : decode c.code g.pc = .ok (.invokevirtual index, 3))
    (hpre : ∀ vm₁, s.WarmedH vm₁ → Pre ⟨T.setVm vm₁, locs, cells, slots⟩ (Value.ref b :: argsL).toArray) :
    ∃ (v : Option Value) (vm₁ : Vm) (B : Pt), s.WarmedH vm₁ ∧ Stand p l e R s m args below meth c B.U B.locs B.cells B.slots ∧ Post ⟨T.setVm vm₁, locs, cells, slots⟩ (Value.ref b :: argsL).toArray v B ∧
      ∀ target, Steps p.tables e below (B.U.setTop { g with pc := g.pc + 3, stack := v.toList ++ rest }) target → Steps p.tables e below (T.setTop g) target := by
  obtain ⟨mk, methM, hnamed, hmethM, hstM, habM⟩ := Cond.instanceMethod_spec hinst
  obtain ⟨m8, methM', cM, hn8, hmethM', -, -, -, -, -, -, hsigM⟩ := Cond.codeWith_spec hcode
  cases Option.some.inj (hn8.symm.trans hnamed)
  cases hmethM.symm.trans hmethM'
  obtain ⟨c2, r2, m2, q1, q2, q3, q4, kP, hkP, hkPi⟩ := Cond.selects_spec hsel
  cases hcls.symm.trans q1
  cases (State.methodFound?_of_named hnamed hy).symm.trans q2
  cases hnamed.symm.trans q3
  have hselP : selectMethod e.platform s.vm cellB.cls mk = .method mk := by rw [Launch.admits_selectMethod X.admits]; exact q4
  obtain ⟨vm₁, X₁, hstep₁⟩ := X.invokevirtual hexec hown hlink hnamed hmethM hstM hkP hkPi hy (a := b) (cell := cellB) hcell
    (fun z h => by rw [h] at hobj; cases hobj) hselP hmethM habM hkP hkPi (g := g) hg (argsL := argsL) (rest := rest) (hlen _ hsigM) hstack hdg
  obtain ⟨v, B, X', hpost, hsteps⟩ := hK m meth c ⟨T.setVm vm₁, locs, cells, slots⟩ { g with stack := rest } (.invokevirtual index) mk (Value.ref b :: argsL).toArray X₁ hg hsize hdg hW (X₁.named hnamed) (hpre vm₁ X₁.warmed)
  exact ⟨v, vm₁, B, X₁.warmed, X', hpost, fun target h => hstep₁ _ fun acts => by rw [doInvoke_state]; exact hsteps.trans h⟩
abbrev vx_CVW (R : Room) (s : State) (args : Array Value) (own C : String) (index : Nat) (y : MethodName) (bytes : ByteArray) (maxL : Nat) (ret : Option FieldType) (hh : List (Nat × Nat × Nat × Nat)) (ws : List Cond) (rm : Room) (mc ms n : Nat) : Prop :=
  (rm.cells = mc ∧ rm.slots = ms ∧ rm.frames + 1 ≤ R.frames ∧ 8 + (maxL + 11) + rm.locals ≤ R.locals ∧ (∀ w ∈ ws, ∀ (a' : Array Value) (U : State), s.WarmedH U.vm → w.before a' U = true) ∧ Cond.codeWith y bytes maxL ret hh ∈ ws) ∧
  (Cond.codeWith y bytes maxL ret hh).before args s = true ∧ (Cond.initialized y.cls).before args s = true ∧ (y.cls ≠ "java/lang/invoke/MethodHandle" ∧ y.cls ≠ "java/lang/invoke/VarHandle") ∧
  (∀ sig, parseMethodDescriptor y.desc = some sig → n = sig.parameters.length) ∧ (Cond.methodLink own index y).before args s = true ∧ (Cond.instanceMethod y).before args s = true ∧ (Cond.selects C y y).before args s = true
theorem vx_cwVW {own C : String} {index maxL mc ms : Nat} {y : MethodName} {bytes : ByteArray} {ret : Option FieldType} {hh : List (Nat × Nat × Nat × Nat)} {Ts ws ws' : List Cond} {rm : Room} (n : Nat) (ht : ∀ w ∈ Ts, w.before args s = true) (hT : GoodIn Ts (wsV own index C y ws)) (hw : ws = Cond.codeWith y bytes maxL ret hh :: ws') (hrc : rm.cells = mc) (hrs : rm.slots = ms)
    (hd : y.cls = C ∧ y.cls ≠ "java/lang/invoke/MethodHandle" ∧ y.cls ≠ "java/lang/invoke/VarHandle" ∧ (parseMethodDescriptor y.desc).map (fun d => d.parameters.length) = some n) (hR : rm.frames + 1 ≤ R.frames ∧ 8 + (maxL + 11) + rm.locals ≤ R.locals) :
    vx_CVW R s args own C index y bytes maxL ret hh ws rm mc ms n := by
  obtain ⟨hC, hd⟩ := hd
  subst hC
  have ok : ∀ w ∈ wsV own index y.cls y ws, w.before args s = true := fun w h => ht w (hT w h).1
  have hG : GoodIn Ts ws := fun w h => hT w (by unfold wsV; exact List.mem_append_right _ h)
  have hc : Cond.codeWith y bytes maxL ret hh ∈ ws := by rw [hw]; exact List.mem_cons_self
  refine ⟨⟨hrc, hrs, hR.1, hR.2, pay_in ht hG, hc⟩, ht _ (hG _ hc).1, ok _ (by simp [wsV]), ⟨hd.1, hd.2.1⟩, fun sig h => ?_, ok _ (by simp [wsV]), ok _ (by simp [wsV]), ok _ (by simp [wsV])⟩
  have h2 := hd.2.2
  rw [h] at h2
  exact (Option.some.inj h2).symm
theorem vx_runVW {y : MethodName} {bytes cc : ByteArray} {maxL nL mc ms n index : Nat} {ret : Option FieldType} {hh : List (Nat × Nat × Nat × Nat)} {ws : List Cond} {rm : Room} {Pc : Array Value → State → Prop} {Qc : Array Value → State → Outcome → State → Prop} {free : Addr → Prop} {Ts : List Cond} {own C : String} {b : Addr} {As rest : List Value} {g : JFrame}
    (S : CallFix p m c cc nL s args Ts own) (hM : Met l y ws rm Pc Qc mc ms free) (cw : vx_CVW R s args own C index y bytes maxL ret hh ws rm mc ms n) (hp : PreV s H C b Pc As)
    (hg : g.method = m) (hn : As.length = n) (hsize : g.locals.size = nL) (hstack : g.stack = As.reverse ++ .ref b :: rest) (hW : 2 * g.monitorRoom + (rest.map fun v => v.category).sum ≤ 8) (hdg : decode cc g.pc = .ok (.invokevirtual index, 3)) (hf : cells + mc ≤ R.cells ∧ slots + ms ≤ R.slots) :
    va_Run p l e R s m args below meth c H locs cells slots mc ms g rest (Qc (Value.ref b :: As).toArray) free := by
  obtain ⟨⟨hrc, hrs, hfr, hlo, hws, hcw⟩, hcode, hini, hy, hlen, hl, hin, hse⟩ := cw
  have hK : Back l R p e below s args y 3 8 (PreOf R mc ms Pc) (PostOf Qc mc ms free) := va_backW (hh := hh) (bytes := bytes) (maxL := maxL) (ret := ret) hM hp.1 hrc hrs hfr hlo hws hcw (fun a' U hW => word_at hW (Or.inl (by first | rfl | simp [Cond.onTables, Cond.keeps, Cond.steady])) hini)
  obtain ⟨hx, hb, hml, ho, -⟩ := S
  obtain ⟨-, ⟨cellB, hcB, hoB, hclB⟩, hPc⟩ := hp
  intro T hT X
  obtain ⟨v, vm₁, ⟨U', l2, c2, s2⟩, hW₁, X', ⟨g', mk, t, L, e1, e2, hq, h1, hL, h2, h3⟩, st⟩ := vx_callVW X hx (C := C) (hh := hh) (bytes := bytes) (maxL := maxL) (ret := ret) ho hl hin hse hcode hy hK (by rw [hT]; exact hcB) hoB hclB hg (hsize.trans hml.symm) (argsL := As) (rest := rest) (fun sig h => hn.trans (hlen sig h)) hstack hW (by rw [hb]; exact hdg)
    (fun vm₁ hW₁ => ⟨hf.1, hf.2, hPc (T.setVm vm₁) hT hW₁⟩)
  dsimp only [Pt.U, Pt.locs, Pt.cells, Pt.slots] at X' e1 e2 h1 h2 h3 st
  subst h1; subst h2; subst h3
  exact ⟨v, (T.setVm vm₁).calling g' mk (Value.ref b :: As).toArray, t, U', L, hT, X', hL, e1, e2, hq, st⟩
section
variable {y : MethodName} {bytes cc : ByteArray} {maxL nL mc ms n index : Nat} {ret : Option FieldType} {ws : List Cond} {rm : Room} {Pc : Array Value → State → Prop} {Qc : Array Value → State → Outcome → State → Prop} {XC : String → State → State → Prop} {free : Addr → Prop} {Ts : List Cond} {own C : String} {b : Addr} {As rest : List Value} {g : JFrame}
theorem vx_runVX {hh : List (Nat × Nat × Nat × Nat)} (S : CallFix p m c cc nL s args Ts own) (hM : vx_Met l y ws rm Pc Qc XC mc ms free) (cw : vx_CVW R s args own C index y bytes maxL ret hh ws rm mc ms n) (hp : PreV s H C b Pc As)
    (hg : g.method = m) (hn : As.length = n) (hsize : g.locals.size = nL) (hstack : g.stack = As.reverse ++ .ref b :: rest) (hW : 2 * g.monitorRoom + (rest.map fun v => v.category).sum ≤ 8) (hdg : decode cc g.pc = .ok (.invokevirtual index, 3)) (hf : cells + mc ≤ R.cells ∧ slots + ms ≤ R.slots) :
    vx_Run p l e R s m args below meth c H locs cells slots mc ms g rest (Qc (Value.ref b :: As).toArray) XC free := by
  obtain ⟨⟨hrc, hrs, hfr, hlo, hws, hcw⟩, hcode, hini, hy, hlen, hl, hin, hse⟩ := cw
  have hK : vx_Back l R p e below s args y 3 8 (PreOf R mc ms Pc) (PostOf Qc mc ms free) (vx_Post XC mc ms free) := vx_backW (hh := hh) (bytes := bytes) (maxL := maxL) (ret := ret) hM hp.1 hrc hrs hfr hlo hws hcw (fun a' U hW => word_at hW (Or.inl (by first | rfl | simp [Cond.onTables, Cond.keeps, Cond.steady])) hini)
  obtain ⟨hx, hb, hml, ho, -⟩ := S
  obtain ⟨-, ⟨cellB, hcB, hoB, hclB⟩, hPc⟩ := hp
  intro T hT X
  rcases vx_callVX X hx (C := C) (hh := hh) (bytes := bytes) (maxL := maxL) (ret := ret) ho hl hin hse hcode hy hK (by rw [hT]; exact hcB) hoB hclB hg (hsize.trans hml.symm) (argsL := As) (rest := rest) (fun sig h => hn.trans (hlen sig h)) hstack hW (by rw [hb]; exact hdg)
    (fun vm₁ hW₁ => ⟨hf.1, hf.2, hPc (T.setVm vm₁) hT hW₁⟩) with ⟨v, vm₁, ⟨U', l2, c2, s2⟩, hW₁, X', ⟨g', mk, t, L, e1, e2, hq, h1, hL, h2, h3⟩, st⟩ | ⟨q, vm₁, ⟨U', l2, c2, s2⟩, hW₁, X', ⟨g', mk, t, L, E, ce, e1, e2, hq, hce, hcv, hcl, h1, hL, h2, h3⟩, st⟩
  · dsimp only [Pt.U, Pt.locs, Pt.cells, Pt.slots] at X' e1 e2 h1 h2 h3 st
    subst h1; subst h2; subst h3
    exact Or.inl ⟨v, (T.setVm vm₁).calling g' mk (Value.ref b :: As).toArray, t, U', L, hT, X', hL, e1, e2, hq, st⟩
  · dsimp only [Pt.U, Pt.locs, Pt.cells, Pt.slots] at X' e1 e2 h1 h2 h3 st hcl
    subst h1; subst h2; subst h3
    exact Or.inr ⟨q, (T.setVm vm₁).calling g' mk (Value.ref b :: As).toArray, t, U', L, E, ce, hT, X', hL, e1, e2, hq, hce, hcv, vx_cls hW₁ hcl, st⟩
theorem vx_runSX {hh : List (Nat × Nat × Nat × Nat)} (S : CallFix p m c cc nL s args Ts own) (hM : vx_Met l y ws rm Pc Qc XC mc ms free) (cw : vx_CSW R s args own index y bytes maxL ret hh ws rm mc ms n) (hp : PreS s H Pc As)
    (hg : g.method = m) (hn : As.length = n) (hsize : g.locals.size = nL) (hstack : g.stack = As.reverse ++ rest) (hW : 2 * g.monitorRoom + (rest.map fun v => v.category).sum ≤ 8) (hdg : decode cc g.pc = .ok (.invokestatic index, 3)) (hf : cells + mc ≤ R.cells ∧ slots + ms ≤ R.slots) :
    vx_Run p l e R s m args below meth c H locs cells slots mc ms g rest (Qc As.toArray) XC free := by
  obtain ⟨⟨hrc, hrs, hfr, hlo, hws, hcw⟩, hcode, hini, hy, hlen, hl, hstt⟩ := cw
  have hK : vx_Back l R p e below s args y 3 8 (PreOf R mc ms Pc) (PostOf Qc mc ms free) (vx_Post XC mc ms free) := vx_backW (hh := hh) (bytes := bytes) (maxL := maxL) (ret := ret) hM hp.1 hrc hrs hfr hlo hws hcw (fun a' U hW => word_at hW (Or.inl (by first | rfl | simp [Cond.onTables, Cond.keeps, Cond.steady])) hini)
  obtain ⟨hx, hb, hml, ho, -⟩ := S
  intro T hT X
  rcases vx_callSX X hx (hh := hh) (bytes := bytes) (maxL := maxL) (ret := ret) ho hl hstt hini hcode hy hK hg (hsize.trans hml.symm) (argsL := As) (rest := rest) (fun sig h => hn.trans (hlen sig h)) hstack hW (by rw [hb]; exact hdg)
    (fun vm₁ hW₁ => ⟨hf.1, hf.2, hp.2 (T.setVm vm₁) hT hW₁⟩) with ⟨v, vm₁, ⟨U', l2, c2, s2⟩, hW₁, X', ⟨g', mk, t, L, e1, e2, hq, h1, hL, h2, h3⟩, st⟩ | ⟨q, vm₁, ⟨U', l2, c2, s2⟩, hW₁, X', ⟨g', mk, t, L, E, ce, e1, e2, hq, hce, hcv, hcl, h1, hL, h2, h3⟩, st⟩
  · dsimp only [Pt.U, Pt.locs, Pt.cells, Pt.slots] at X' e1 e2 h1 h2 h3 st
    subst h1; subst h2; subst h3
    exact Or.inl ⟨v, (T.setVm vm₁).calling g' mk As.toArray, t, U', L, hT, X', hL, e1, e2, hq, st⟩
  · dsimp only [Pt.U, Pt.locs, Pt.cells, Pt.slots] at X' e1 e2 h1 h2 h3 st hcl
    subst h1; subst h2; subst h3
    exact Or.inr ⟨q, (T.setVm vm₁).calling g' mk As.toArray, t, U', L, E, ce, hT, X', hL, e1, e2, hq, hce, hcv, vx_cls hW₁ hcl, st⟩
end
end VXH
theorem vx_ofWH {l : Launch} {y : MethodName} {ws ws' : List Cond} {rm : Room} {Pc : Array Value → State → Prop} {Qc : Array Value → State → Outcome → State → Prop} {XC : String → State → State → Prop} {mc ms : Nat} {free : Addr → Prop} {cc : ByteArray} {maxL : Nat} {ret : Option FieldType} {hh : List (Nat × Nat × Nat × Nat)}
    (hy : plainName y.cls = true) (hw : ws = Cond.codeWith y cc maxL ret hh :: ws')
    (body : ∀ p e s m args below meth c s₁, BodyLoose p l y (headSpec ws rm) cc maxL ret e s m args below meth c s₁ → c.maxLocals = maxL → Pc args s →
      W p l e (headSpec ws rm).room s m args below meth c s.heap [] 0 0 (vx_MQ below Qc XC args s mc ms free) (entryFrame m args maxL)) : vx_Met l y ws rm Pc Qc XC mc ms free := by
  refine MetFree.of_bodyS (code := cc) (maxLocals := maxL) (ret := ret) hy ?_ ?_
  · intro args s m h hn
    obtain ⟨m9, meth, c, hn9, h1, h2, h3, h4, -, h5, h6, -⟩ := Cond.codeWith_spec (atoms_spec (ws := ws) h _ (by rw [hw]; exact List.mem_cons_self))
    cases hn.symm.trans hn9
    exact ⟨meth, c, h1, h2, h3, h4, h5, h6⟩
  · intro p e s m args below meth c s₁ B hml hP _
    have hh0 : s₁.heap = s.heap := by rw [B.state]; rfl
    obtain ⟨t, a1, o, b1, b2, b3⟩ := body p e s m args below meth c s₁ B hml hP s₁ hh0 (Stand.of_body B)
    exact ⟨t, o, a1, b1, b2, b3⟩
/-! ===== END ===== -/
end
section
def RX0 : String := "KitchenSpits$Fire"
def TX0 : u_T := fun k => match k with
  | 0 => ("KitchenSpits$Fire", "logs", "I", false)
  | 1 => ("KitchenSpits$Fire", "heat", "I", false)
  | _ => ("KitchenSpits$Fire", "flares", "I", false)
def tyX0 : Nat → FieldType := fun k => match k with
  | 0 => .int
  | 1 => .int
  | _ => .int
abbrev wsX00 : List Cond := u_ws RX0 TX0 3
theorem nmX0 : ∀ a, a < 3 → ∀ b, b < 3 → a ≠ b → (TX0 a).2.1 ≠ (TX0 b).2.1 := by decide +kernel
theorem tyX0_ok : ∀ k, k < 3 → parseFieldDescriptor (TX0 k).2.2.1 = some (tyX0 k) := by decide +kernel
abbrev cX0_init : ByteArray := prog_2_method_1_code
def yX0_init : MethodName := ⟨RX0, "<init>", "()V"⟩
abbrev cX0_burn : ByteArray := prog_2_method_3_code
def yX0_burn : MethodName := ⟨RX0, "burn", "(I)V"⟩
def RX1 : String := "KitchenSpits$Kitchen"
def TX1 : u_T := fun k => match k with
  | 0 => ("KitchenSpits$Kitchen", "fires", "[LKitchenSpits$Fire;", true)
  | 1 => ("KitchenSpits$Kitchen", "spits", "[LKitchenSpits$Spit;", true)
  | 2 => ("KitchenSpits$Kitchen", "roasts", "[LKitchenSpits$Roast;", true)
  | 3 => ("KitchenSpits$Kitchen", "fireCount", "I", false)
  | 4 => ("KitchenSpits$Kitchen", "spitCount", "I", false)
  | 5 => ("KitchenSpits$Kitchen", "roastCount", "I", false)
  | 6 => ("KitchenSpits$Kitchen", "minute", "I", false)
  | _ => ("KitchenSpits$Kitchen", "feast", "I", false)
def tyX1 : Nat → FieldType := fun k => match k with
  | 0 => .array (.object "KitchenSpits$Fire")
  | 1 => .array (.object "KitchenSpits$Spit")
  | 2 => .array (.object "KitchenSpits$Roast")
  | 3 => .int
  | 4 => .int
  | 5 => .int
  | 6 => .int
  | _ => .int
abbrev wsX10 : List Cond := u_ws RX1 TX1 8
theorem nmX1 : ∀ a, a < 8 → ∀ b, b < 8 → a ≠ b → (TX1 a).2.1 ≠ (TX1 b).2.1 := by decide +kernel
theorem tyX1_ok : ∀ k, k < 8 → parseFieldDescriptor (TX1 k).2.2.1 = some (tyX1 k) := by decide +kernel
abbrev cX1_init : ByteArray := prog_3_method_1_code
def yX1_init : MethodName := ⟨RX1, "<init>", "()V"⟩
abbrev cX1_fireAt : ByteArray := prog_3_method_3_code
def yX1_fireAt : MethodName := ⟨RX1, "fireAt", "(I)LKitchenSpits$Fire;"⟩
abbrev cX1_spitAt : ByteArray := prog_3_method_4_code
def yX1_spitAt : MethodName := ⟨RX1, "spitAt", "(I)LKitchenSpits$Spit;"⟩
abbrev cX1_roastAt : ByteArray := prog_3_method_5_code
def yX1_roastAt : MethodName := ⟨RX1, "roastAt", "(I)LKitchenSpits$Roast;"⟩
abbrev cX1_placeFire : ByteArray := prog_3_method_6_code
def yX1_placeFire : MethodName := ⟨RX1, "placeFire", "()I"⟩
abbrev cX1_placeSpit : ByteArray := prog_3_method_7_code
def yX1_placeSpit : MethodName := ⟨RX1, "placeSpit", "(II)I"⟩
abbrev cX1_placeRoast : ByteArray := prog_3_method_8_code
def yX1_placeRoast : MethodName := ⟨RX1, "placeRoast", "(II)I"⟩
abbrev cX1_glowOf : ByteArray := prog_3_method_9_code
def yX1_glowOf : MethodName := ⟨RX1, "glowOf", "(LKitchenSpits$Spit;)I"⟩
abbrev cX1_goMinutes : ByteArray := prog_3_method_10_code
def yX1_goMinutes : MethodName := ⟨RX1, "goMinutes", "(I)I"⟩
abbrev cX1_goMinute : ByteArray := prog_3_method_11_code
def yX1_goMinute : MethodName := ⟨RX1, "goMinute", "()I"⟩
abbrev cX1_roastForAMinute : ByteArray := prog_3_method_12_code
def yX1_roastForAMinute : MethodName := ⟨RX1, "roastForAMinute", "(LKitchenSpits$Spit;)Z"⟩
abbrev cX1_sumBrown : ByteArray := prog_3_method_14_code
def yX1_sumBrown : MethodName := ⟨RX1, "sumBrown", "()I"⟩
def RX2 : String := "KitchenSpits$Roast"
def TX2 : u_T := fun k => match k with
  | 0 => ("KitchenSpits$Roast", "brown", "[I", true)
  | 1 => ("KitchenSpits$Roast", "pounds", "I", false)
  | 2 => ("KitchenSpits$Roast", "spit", "I", false)
  | 3 => ("KitchenSpits$Roast", "side", "I", false)
  | 4 => ("KitchenSpits$Roast", "fat", "I", false)
  | _ => ("KitchenSpits$Roast", "wet", "I", false)
def tyX2 : Nat → FieldType := fun k => match k with
  | 0 => .array .int
  | 1 => .int
  | 2 => .int
  | 3 => .int
  | 4 => .int
  | _ => .int
abbrev wsX20 : List Cond := u_ws RX2 TX2 6
theorem nmX2 : ∀ a, a < 6 → ∀ b, b < 6 → a ≠ b → (TX2 a).2.1 ≠ (TX2 b).2.1 := by decide +kernel
theorem tyX2_ok : ∀ k, k < 6 → parseFieldDescriptor (TX2 k).2.2.1 = some (tyX2 k) := by decide +kernel
abbrev cX2_init : ByteArray := prog_4_method_1_code
def yX2_init : MethodName := ⟨RX2, "<init>", "()V"⟩
abbrev cX2_getGlow : ByteArray := prog_4_method_3_code
def yX2_getGlow : MethodName := ⟨RX2, "getGlow", "(I)I"⟩
abbrev cX2_getBrowner : ByteArray := prog_4_method_4_code
def yX2_getBrowner : MethodName := ⟨RX2, "getBrowner", "(II)V"⟩
abbrev cX2_drips : ByteArray := prog_4_method_5_code
def yX2_drips : MethodName := ⟨RX2, "drips", "(I)Z"⟩
abbrev cX2_turn : ByteArray := prog_4_method_6_code
def yX2_turn : MethodName := ⟨RX2, "turn", "()V"⟩
abbrev cX2_done : ByteArray := prog_4_method_7_code
def yX2_done : MethodName := ⟨RX2, "done", "()Z"⟩
abbrev cX2_burnt : ByteArray := prog_4_method_8_code
def yX2_burnt : MethodName := ⟨RX2, "burnt", "()Z"⟩
abbrev cX2_nextSide : ByteArray := prog_4_method_9_code
def yX2_nextSide : MethodName := ⟨RX2, "nextSide", "(I)I"⟩
abbrev cX2_sideBefore : ByteArray := prog_4_method_10_code
def yX2_sideBefore : MethodName := ⟨RX2, "sideBefore", "(I)I"⟩
def RX3 : String := "KitchenSpits$Spit"
def TX3 : u_T := fun k => match k with
  | 0 => ("KitchenSpits$Spit", "fire", "I", false)
  | 1 => ("KitchenSpits$Spit", "feet", "I", false)
  | 2 => ("KitchenSpits$Spit", "each", "I", false)
  | 3 => ("KitchenSpits$Spit", "count", "I", false)
  | 4 => ("KitchenSpits$Spit", "drippings", "I", false)
  | _ => ("KitchenSpits$Spit", "roast", "I", false)
def tyX3 : Nat → FieldType := fun k => match k with
  | 0 => .int
  | 1 => .int
  | 2 => .int
  | 3 => .int
  | 4 => .int
  | _ => .int
abbrev wsX30 : List Cond := u_ws RX3 TX3 6
theorem nmX3 : ∀ a, a < 6 → ∀ b, b < 6 → a ≠ b → (TX3 a).2.1 ≠ (TX3 b).2.1 := by decide +kernel
theorem tyX3_ok : ∀ k, k < 6 → parseFieldDescriptor (TX3 k).2.2.1 = some (tyX3 k) := by decide +kernel
abbrev cX3_init : ByteArray := prog_5_method_1_code
def yX3_init : MethodName := ⟨RX3, "<init>", "()V"⟩
abbrev cX3_countAnew : ByteArray := prog_5_method_3_code
def yX3_countAnew : MethodName := ⟨RX3, "countAnew", "(I)V"⟩
abbrev cX3_countsToTurn : ByteArray := prog_5_method_4_code
def yX3_countsToTurn : MethodName := ⟨RX3, "countsToTurn", "()Z"⟩
abbrev cX3_takesDripping : ByteArray := prog_5_method_5_code
def yX3_takesDripping : MethodName := ⟨RX3, "takesDripping", "()Z"⟩
def RX4 : String := "KitchenSpits"
def TX4 : u_T := fun k => match k with
  | 0 => ("KitchenSpits", "now", "LKitchenSpits$Kitchen;", true)
  | _ => ("KitchenSpits", "ahead", "LKitchenSpits$Kitchen;", true)
def tyX4 : Nat → FieldType := fun k => match k with
  | 0 => .object "KitchenSpits$Kitchen"
  | _ => .object "KitchenSpits$Kitchen"
abbrev wsX40 : List Cond := u_ws RX4 TX4 2
theorem nmX4 : ∀ a, a < 2 → ∀ b, b < 2 → a ≠ b → (TX4 a).2.1 ≠ (TX4 b).2.1 := by decide +kernel
theorem tyX4_ok : ∀ k, k < 2 → parseFieldDescriptor (TX4 k).2.2.1 = some (tyX4 k) := by decide +kernel
abbrev cX4_init : ByteArray := prog_1_method_1_code
def yX4_init : MethodName := ⟨RX4, "<init>", "()V"⟩
abbrev cX4_addFire : ByteArray := prog_1_method_2_code
def yX4_addFire : MethodName := ⟨RX4, "addFire", "()I"⟩
abbrev cX4_layLogs : ByteArray := prog_1_method_3_code
def yX4_layLogs : MethodName := ⟨RX4, "layLogs", "(II)I"⟩
abbrev cX4_addSpit : ByteArray := prog_1_method_4_code
def yX4_addSpit : MethodName := ⟨RX4, "addSpit", "(II)I"⟩
abbrev cX4_moveSpit : ByteArray := prog_1_method_5_code
def yX4_moveSpit : MethodName := ⟨RX4, "moveSpit", "(II)I"⟩
abbrev cX4_turnEach : ByteArray := prog_1_method_6_code
def yX4_turnEach : MethodName := ⟨RX4, "turnEach", "(II)I"⟩
abbrev cX4_setFeast : ByteArray := prog_1_method_7_code
def yX4_setFeast : MethodName := ⟨RX4, "setFeast", "(I)I"⟩
abbrev cX4_hang : ByteArray := prog_1_method_8_code
def yX4_hang : MethodName := ⟨RX4, "hang", "(II)I"⟩
abbrev cX4_turnNow : ByteArray := prog_1_method_9_code
def yX4_turnNow : MethodName := ⟨RX4, "turnNow", "(I)I"⟩
abbrev cX4_baste : ByteArray := prog_1_method_10_code
def yX4_baste : MethodName := ⟨RX4, "baste", "(I)I"⟩
abbrev cX4_takeDown : ByteArray := prog_1_method_11_code
def yX4_takeDown : MethodName := ⟨RX4, "takeDown", "(I)I"⟩
abbrev cX4_emptyPan : ByteArray := prog_1_method_12_code
def yX4_emptyPan : MethodName := ⟨RX4, "emptyPan", "(I)I"⟩
abbrev cX4_pass : ByteArray := prog_1_method_13_code
def yX4_pass : MethodName := ⟨RX4, "pass", "(I)I"⟩
abbrev cX4_minute : ByteArray := prog_1_method_14_code
def yX4_minute : MethodName := ⟨RX4, "minute", "()I"⟩
abbrev cX4_feast : ByteArray := prog_1_method_15_code
def yX4_feast : MethodName := ⟨RX4, "feast", "()I"⟩
abbrev cX4_fires : ByteArray := prog_1_method_16_code
def yX4_fires : MethodName := ⟨RX4, "fires", "()I"⟩
abbrev cX4_logsOf : ByteArray := prog_1_method_17_code
def yX4_logsOf : MethodName := ⟨RX4, "logsOf", "(I)I"⟩
abbrev cX4_heatOf : ByteArray := prog_1_method_18_code
def yX4_heatOf : MethodName := ⟨RX4, "heatOf", "(I)I"⟩
abbrev cX4_spits : ByteArray := prog_1_method_19_code
def yX4_spits : MethodName := ⟨RX4, "spits", "()I"⟩
abbrev cX4_fireOf : ByteArray := prog_1_method_20_code
def yX4_fireOf : MethodName := ⟨RX4, "fireOf", "(I)I"⟩
abbrev cX4_feetOf : ByteArray := prog_1_method_21_code
def yX4_feetOf : MethodName := ⟨RX4, "feetOf", "(I)I"⟩
abbrev cX4_glowAt : ByteArray := prog_1_method_22_code
def yX4_glowAt : MethodName := ⟨RX4, "glowAt", "(I)I"⟩
abbrev cX4_turnedEach : ByteArray := prog_1_method_23_code
def yX4_turnedEach : MethodName := ⟨RX4, "turnedEach", "(I)I"⟩
abbrev cX4_drippingsOf : ByteArray := prog_1_method_24_code
def yX4_drippingsOf : MethodName := ⟨RX4, "drippingsOf", "(I)I"⟩
abbrev cX4_roastOn : ByteArray := prog_1_method_25_code
def yX4_roastOn : MethodName := ⟨RX4, "roastOn", "(I)I"⟩
abbrev cX4_roasts : ByteArray := prog_1_method_26_code
def yX4_roasts : MethodName := ⟨RX4, "roasts", "()I"⟩
abbrev cX4_poundsOf : ByteArray := prog_1_method_27_code
def yX4_poundsOf : MethodName := ⟨RX4, "poundsOf", "(I)I"⟩
abbrev cX4_spitOf : ByteArray := prog_1_method_28_code
def yX4_spitOf : MethodName := ⟨RX4, "spitOf", "(I)I"⟩
abbrev cX4_sideToFire : ByteArray := prog_1_method_29_code
def yX4_sideToFire : MethodName := ⟨RX4, "sideToFire", "(I)I"⟩
abbrev cX4_brownOf : ByteArray := prog_1_method_30_code
def yX4_brownOf : MethodName := ⟨RX4, "brownOf", "(II)I"⟩
abbrev cX4_fatOf : ByteArray := prog_1_method_31_code
def yX4_fatOf : MethodName := ⟨RX4, "fatOf", "(I)I"⟩
abbrev cX4_wetFor : ByteArray := prog_1_method_32_code
def yX4_wetFor : MethodName := ⟨RX4, "wetFor", "(I)I"⟩
abbrev cX4_isDone : ByteArray := prog_1_method_33_code
def yX4_isDone : MethodName := ⟨RX4, "isDone", "(I)Z"⟩
abbrev cX4_isBurnt : ByteArray := prog_1_method_34_code
def yX4_isBurnt : MethodName := ⟨RX4, "isBurnt", "(I)Z"⟩
abbrev cX4_meanBrown : ByteArray := prog_1_method_40_code
def yX4_meanBrown : MethodName := ⟨RX4, "meanBrown", "()D"⟩
abbrev cX4_needFire : ByteArray := prog_1_method_42_code
def yX4_needFire : MethodName := ⟨RX4, "needFire", "(I)LKitchenSpits$Fire;"⟩
abbrev cX4_needSpit : ByteArray := prog_1_method_43_code
def yX4_needSpit : MethodName := ⟨RX4, "needSpit", "(I)LKitchenSpits$Spit;"⟩
abbrev cX4_needRoast : ByteArray := prog_1_method_44_code
def yX4_needRoast : MethodName := ⟨RX4, "needRoast", "(I)LKitchenSpits$Roast;"⟩
abbrev cX4_needRoastOf : ByteArray := prog_1_method_45_code
def yX4_needRoastOf : MethodName := ⟨RX4, "needRoastOf", "(LKitchenSpits$Spit;)LKitchenSpits$Roast;"⟩
abbrev cX4_needFeet : ByteArray := prog_1_method_46_code
def yX4_needFeet : MethodName := ⟨RX4, "needFeet", "(I)V"⟩
abbrev cX4_needPounds : ByteArray := prog_1_method_47_code
def yX4_needPounds : MethodName := ⟨RX4, "needPounds", "(I)V"⟩
def RX5 : String := "KitchenSpitsLaw$Roast"
def TX5 : u_T := fun k => match k with
  | 0 => ("KitchenSpitsLaw$Roast", "pounds", "I", false)
  | 1 => ("KitchenSpitsLaw$Roast", "spit", "I", false)
  | 2 => ("KitchenSpitsLaw$Roast", "side", "I", false)
  | 3 => ("KitchenSpitsLaw$Roast", "fat", "I", false)
  | 4 => ("KitchenSpitsLaw$Roast", "wet", "I", false)
  | 5 => ("KitchenSpitsLaw$Roast", "got", "I", false)
  | _ => ("KitchenSpitsLaw$Roast", "brown", "[I", true)
def tyX5 : Nat → FieldType := fun k => match k with
  | 0 => .int
  | 1 => .int
  | 2 => .int
  | 3 => .int
  | 4 => .int
  | 5 => .int
  | _ => .array .int
abbrev wsX50 : List Cond := u_ws RX5 TX5 7
theorem nmX5 : ∀ a, a < 7 → ∀ b, b < 7 → a ≠ b → (TX5 a).2.1 ≠ (TX5 b).2.1 := by decide +kernel
theorem tyX5_ok : ∀ k, k < 7 → parseFieldDescriptor (TX5 k).2.2.1 = some (tyX5 k) := by decide +kernel
abbrev cX5_init : ByteArray := prog_7_method_1_code
def yX5_init : MethodName := ⟨RX5, "<init>", "()V"⟩
abbrev cX5_isDone : ByteArray := prog_7_method_2_code
def yX5_isDone : MethodName := ⟨RX5, "isDone", "()Z"⟩
abbrev cX5_isBurnt : ByteArray := prog_7_method_3_code
def yX5_isBurnt : MethodName := ⟨RX5, "isBurnt", "()Z"⟩
abbrev cX5_tan : ByteArray := prog_7_method_4_code
def yX5_tan : MethodName := ⟨RX5, "tan", "(II)V"⟩
abbrev cX5_gets : ByteArray := prog_7_method_5_code
def yX5_gets : MethodName := ⟨RX5, "gets", "(I)V"⟩
def RX6 : String := "KitchenSpitsLaw$Sim"
def TX6 : u_T := fun k => match k with
  | 0 => ("KitchenSpitsLaw$Sim", "minute", "I", false)
  | 1 => ("KitchenSpitsLaw$Sim", "feast", "I", false)
  | 2 => ("KitchenSpitsLaw$Sim", "fires", "[[I", false)
  | 3 => ("KitchenSpitsLaw$Sim", "spits", "[[I", false)
  | _ => ("KitchenSpitsLaw$Sim", "roasts", "[LKitchenSpitsLaw$Roast;", false)
def tyX6 : Nat → FieldType := fun k => match k with
  | 0 => .int
  | 1 => .int
  | 2 => .array (.array .int)
  | 3 => .array (.array .int)
  | _ => .array (.object "KitchenSpitsLaw$Roast")
abbrev wsX60 : List Cond := u_ws RX6 TX6 5
theorem nmX6 : ∀ a, a < 5 → ∀ b, b < 5 → a ≠ b → (TX6 a).2.1 ≠ (TX6 b).2.1 := by decide +kernel
theorem tyX6_ok : ∀ k, k < 5 → parseFieldDescriptor (TX6 k).2.2.1 = some (tyX6 k) := by decide +kernel
abbrev cX6_init : ByteArray := prog_8_method_1_code
def yX6_init : MethodName := ⟨RX6, "<init>", "()V"⟩
abbrev cX6_with : ByteArray := prog_8_method_2_code
def yX6_with : MethodName := ⟨RX6, "with", "([[I[I)[[I"⟩
abbrev cX6_hang : ByteArray := prog_8_method_3_code
def yX6_hang : MethodName := ⟨RX6, "hang", "(II)I"⟩
abbrev cX6_glow : ByteArray := prog_8_method_5_code
def yX6_glow : MethodName := ⟨RX6, "glow", "(I)I"⟩
abbrev cX6_pass : ByteArray := prog_8_method_6_code
def yX6_pass : MethodName := ⟨RX6, "pass", "()I"⟩
abbrev cX6_isSame : ByteArray := prog_8_method_8_code
def yX6_isSame : MethodName := ⟨RX6, "isSame", "(LKitchenSpits;)Z"⟩
def RX7 : String := "KitchenSpitsModel"
def TX7 : u_T := fun k => match k with
  | _ => ("", "", "", false)
def tyX7 : Nat → FieldType := fun k => match k with
  | _ => .int
abbrev wsX70 : List Cond := u_ws RX7 TX7 0
theorem nmX7 : ∀ a, a < 0 → ∀ b, b < 0 → a ≠ b → (TX7 a).2.1 ≠ (TX7 b).2.1 := by decide +kernel
theorem tyX7_ok : ∀ k, k < 0 → parseFieldDescriptor (TX7 k).2.2.1 = some (tyX7 k) := by decide +kernel
def RJ9 : String := "java/lang/Math"
def TJ9 : u_T := fun k => match k with
  | _ => ("", "", "", false)
def tyJ9 : Nat → FieldType := fun k => match k with
  | _ => .int
abbrev wsJ90 : List Cond := u_ws RJ9 TJ9 0
theorem nmJ9 : ∀ a, a < 0 → ∀ b, b < 0 → a ≠ b → (TJ9 a).2.1 ≠ (TJ9 b).2.1 := by decide +kernel
theorem tyJ9_ok : ∀ k, k < 0 → parseFieldDescriptor (TJ9 k).2.2.1 = some (tyJ9 k) := by decide +kernel
abbrev cJ9_max_7cf53 : ByteArray := prog_14_method_65_code
def yJ9_max_7cf53 : MethodName := ⟨RJ9, "max", "(II)I"⟩
abbrev cJ9_min_7cf53 : ByteArray := prog_14_method_69_code
def yJ9_min_7cf53 : MethodName := ⟨RJ9, "min", "(II)I"⟩
def RJ0 : String := "java/lang/String"
def TJ0 : u_T := fun k => match k with
  | _ => ("", "", "", false)
def tyJ0 : Nat → FieldType := fun k => match k with
  | _ => .int
abbrev wsJ00 : List Cond := u_ws RJ0 TJ0 0
theorem nmJ0 : ∀ a, a < 0 → ∀ b, b < 0 → a ≠ b → (TJ0 a).2.1 ≠ (TJ0 b).2.1 := by decide +kernel
theorem tyJ0_ok : ∀ k, k < 0 → parseFieldDescriptor (TJ0 k).2.2.1 = some (tyJ0 k) := by decide +kernel
def RL : String := "KitchenSpitsLaw"
abbrev cL_below : ByteArray := method_2_code
def yL_below : MethodName := ⟨RL, "below", "(II)I"⟩
abbrev cL_cell : ByteArray := method_3_code
def yL_cell : MethodName := ⟨RL, "cell", "([II)I"⟩
abbrev cL_act : ByteArray := method_4_code
def yL_act : MethodName := ⟨RL, "act", "(LKitchenSpits;LKitchenSpitsLaw$Sim;I)Z"⟩
abbrev cL_build : ByteArray := method_5_code
def yL_build : MethodName := ⟨RL, "build", "(LKitchenSpits;[I)LKitchenSpitsLaw$Sim;"⟩
abbrev cL_law : ByteArray := code
def yL_law : MethodName := ⟨RL, "law", "([I)Z"⟩
abbrev vwCl : List vw_C := [(RX0, TX0, 3), (RX1, TX1, 8), (RX2, TX2, 6), (RX3, TX3, 6), (RX4, TX4, 2), (RX5, TX5, 7), (RX6, TX6, 5)]
end
section
theorem dX0_init_0 : decode cX0_init 0 = .ok (.aload_n 0, 1) := by decide +kernel
theorem dX0_init_1 : decode cX0_init 1 = .ok (.invokespecial 3, 3) := by decide +kernel
theorem dX0_init_4 : decode cX0_init 4 = .ok (.return_, 1) := by decide +kernel
theorem dX0_burn_0 : decode cX0_burn 0 = .ok (.aload_n 0, 1) := by decide +kernel
theorem dX0_burn_1 : decode cX0_burn 1 = .ok (.getfield 18, 3) := by decide +kernel
theorem dX0_burn_4 : decode cX0_burn 4 = .ok (.aload_n 0, 1) := by decide +kernel
theorem dX0_burn_5 : decode cX0_burn 5 = .ok (.getfield 9, 3) := by decide +kernel
theorem dX0_burn_8 : decode cX0_burn 8 = .ok (.ifCond .le 7, 3) := by decide +kernel
theorem dX0_burn_11 : decode cX0_burn 11 = .ok (.iconst 1, 1) := by decide +kernel
theorem dX0_burn_12 : decode cX0_burn 12 = .ok (.goto 4, 3) := by decide +kernel
theorem dX0_burn_15 : decode cX0_burn 15 = .ok (.iconst (-1), 1) := by decide +kernel
theorem dX0_burn_16 : decode cX0_burn 16 = .ok (.iadd, 1) := by decide +kernel
theorem dX0_burn_17 : decode cX0_burn 17 = .ok (.istore_n 2, 1) := by decide +kernel
theorem dX0_burn_18 : decode cX0_burn 18 = .ok (.aload_n 0, 1) := by decide +kernel
theorem dX0_burn_19 : decode cX0_burn 19 = .ok (.getfield 9, 3) := by decide +kernel
theorem dX0_burn_22 : decode cX0_burn 22 = .ok (.ifCond .le 19, 3) := by decide +kernel
theorem dX0_burn_25 : decode cX0_burn 25 = .ok (.iload_n 1, 1) := by decide +kernel
theorem dX0_burn_26 : decode cX0_burn 26 = .ok (.iconst 5, 1) := by decide +kernel
theorem dX0_burn_27 : decode cX0_burn 27 = .ok (.irem, 1) := by decide +kernel
theorem dX0_burn_28 : decode cX0_burn 28 = .ok (.ifCond .ne 13, 3) := by decide +kernel
theorem dX0_burn_31 : decode cX0_burn 31 = .ok (.aload_n 0, 1) := by decide +kernel
theorem dX0_burn_32 : decode cX0_burn 32 = .ok (.dup, 1) := by decide +kernel
theorem dX0_burn_33 : decode cX0_burn 33 = .ok (.getfield 9, 3) := by decide +kernel
theorem dX0_burn_36 : decode cX0_burn 36 = .ok (.iconst 1, 1) := by decide +kernel
theorem dX0_burn_37 : decode cX0_burn 37 = .ok (.isub, 1) := by decide +kernel
theorem dX0_burn_38 : decode cX0_burn 38 = .ok (.putfield 9, 3) := by decide +kernel
theorem dX0_burn_41 : decode cX0_burn 41 = .ok (.aload_n 0, 1) := by decide +kernel
theorem dX0_burn_42 : decode cX0_burn 42 = .ok (.iconst 0, 1) := by decide +kernel
theorem dX0_burn_43 : decode cX0_burn 43 = .ok (.bipush 9, 2) := by decide +kernel
theorem dX0_burn_45 : decode cX0_burn 45 = .ok (.aload_n 0, 1) := by decide +kernel
theorem dX0_burn_46 : decode cX0_burn 46 = .ok (.getfield 15, 3) := by decide +kernel
theorem dX0_burn_49 : decode cX0_burn 49 = .ok (.iload_n 2, 1) := by decide +kernel
theorem dX0_burn_50 : decode cX0_burn 50 = .ok (.iadd, 1) := by decide +kernel
theorem dX0_burn_51 : decode cX0_burn 51 = .ok (.invokestatic 21, 3) := by decide +kernel
theorem dX0_burn_54 : decode cX0_burn 54 = .ok (.invokestatic 27, 3) := by decide +kernel
theorem dX0_burn_57 : decode cX0_burn 57 = .ok (.putfield 15, 3) := by decide +kernel
theorem dX0_burn_60 : decode cX0_burn 60 = .ok (.aload_n 0, 1) := by decide +kernel
theorem dX0_burn_61 : decode cX0_burn 61 = .ok (.iconst 0, 1) := by decide +kernel
theorem dX0_burn_62 : decode cX0_burn 62 = .ok (.putfield 18, 3) := by decide +kernel
theorem dX0_burn_65 : decode cX0_burn 65 = .ok (.return_, 1) := by decide +kernel
theorem dX1_init_0 : decode cX1_init 0 = .ok (.aload_n 0, 1) := by decide +kernel
theorem dX1_init_1 : decode cX1_init 1 = .ok (.invokespecial 3, 3) := by decide +kernel
theorem dX1_init_4 : decode cX1_init 4 = .ok (.aload_n 0, 1) := by decide +kernel
theorem dX1_init_5 : decode cX1_init 5 = .ok (.iconst 3, 1) := by decide +kernel
theorem dX1_init_6 : decode cX1_init 6 = .ok (.anewarray 9, 3) := by decide +kernel
theorem dX1_init_9 : decode cX1_init 9 = .ok (.putfield 11, 3) := by decide +kernel
theorem dX1_init_12 : decode cX1_init 12 = .ok (.aload_n 0, 1) := by decide +kernel
theorem dX1_init_13 : decode cX1_init 13 = .ok (.bipush 6, 2) := by decide +kernel
theorem dX1_init_15 : decode cX1_init 15 = .ok (.anewarray 17, 3) := by decide +kernel
theorem dX1_init_18 : decode cX1_init 18 = .ok (.putfield 19, 3) := by decide +kernel
theorem dX1_init_21 : decode cX1_init 21 = .ok (.aload_n 0, 1) := by decide +kernel
theorem dX1_init_22 : decode cX1_init 22 = .ok (.bipush 16, 2) := by decide +kernel
theorem dX1_init_24 : decode cX1_init 24 = .ok (.anewarray 23, 3) := by decide +kernel
theorem dX1_init_27 : decode cX1_init 27 = .ok (.putfield 25, 3) := by decide +kernel
theorem dX1_init_30 : decode cX1_init 30 = .ok (.aload_n 0, 1) := by decide +kernel
theorem dX1_init_31 : decode cX1_init 31 = .ok (.bipush 120, 2) := by decide +kernel
theorem dX1_init_33 : decode cX1_init 33 = .ok (.putfield 29, 3) := by decide +kernel
theorem dX1_init_36 : decode cX1_init 36 = .ok (.iconst 0, 1) := by decide +kernel
theorem dX1_init_37 : decode cX1_init 37 = .ok (.istore_n 1, 1) := by decide +kernel
theorem dX1_init_38 : decode cX1_init 38 = .ok (.iload_n 1, 1) := by decide +kernel
theorem dX1_init_39 : decode cX1_init 39 = .ok (.aload_n 0, 1) := by decide +kernel
theorem dX1_init_40 : decode cX1_init 40 = .ok (.getfield 11, 3) := by decide +kernel
theorem dX1_init_43 : decode cX1_init 43 = .ok (.arraylength, 1) := by decide +kernel
theorem dX1_init_44 : decode cX1_init 44 = .ok (.if_icmp .ge 22, 3) := by decide +kernel
theorem dX1_init_47 : decode cX1_init 47 = .ok (.aload_n 0, 1) := by decide +kernel
theorem dX1_init_48 : decode cX1_init 48 = .ok (.getfield 11, 3) := by decide +kernel
theorem dX1_init_51 : decode cX1_init 51 = .ok (.iload_n 1, 1) := by decide +kernel
theorem dX1_init_52 : decode cX1_init 52 = .ok (.new 9, 3) := by decide +kernel
theorem dX1_init_55 : decode cX1_init 55 = .ok (.dup, 1) := by decide +kernel
theorem dX1_init_56 : decode cX1_init 56 = .ok (.invokespecial 33, 3) := by decide +kernel
theorem dX1_init_59 : decode cX1_init 59 = .ok (.aastore, 1) := by decide +kernel
theorem dX1_init_60 : decode cX1_init 60 = .ok (.iinc 1 1, 3) := by decide +kernel
theorem dX1_init_63 : decode cX1_init 63 = .ok (.goto (-25), 3) := by decide +kernel
theorem dX1_init_66 : decode cX1_init 66 = .ok (.iconst 0, 1) := by decide +kernel
theorem dX1_init_67 : decode cX1_init 67 = .ok (.istore_n 1, 1) := by decide +kernel
theorem dX1_init_68 : decode cX1_init 68 = .ok (.iload_n 1, 1) := by decide +kernel
theorem dX1_init_69 : decode cX1_init 69 = .ok (.aload_n 0, 1) := by decide +kernel
theorem dX1_init_70 : decode cX1_init 70 = .ok (.getfield 19, 3) := by decide +kernel
theorem dX1_init_73 : decode cX1_init 73 = .ok (.arraylength, 1) := by decide +kernel
theorem dX1_init_74 : decode cX1_init 74 = .ok (.if_icmp .ge 22, 3) := by decide +kernel
theorem dX1_init_77 : decode cX1_init 77 = .ok (.aload_n 0, 1) := by decide +kernel
theorem dX1_init_78 : decode cX1_init 78 = .ok (.getfield 19, 3) := by decide +kernel
theorem dX1_init_81 : decode cX1_init 81 = .ok (.iload_n 1, 1) := by decide +kernel
theorem dX1_init_82 : decode cX1_init 82 = .ok (.new 17, 3) := by decide +kernel
theorem dX1_init_85 : decode cX1_init 85 = .ok (.dup, 1) := by decide +kernel
theorem dX1_init_86 : decode cX1_init 86 = .ok (.invokespecial 34, 3) := by decide +kernel
theorem dX1_init_89 : decode cX1_init 89 = .ok (.aastore, 1) := by decide +kernel
theorem dX1_init_90 : decode cX1_init 90 = .ok (.iinc 1 1, 3) := by decide +kernel
theorem dX1_init_93 : decode cX1_init 93 = .ok (.goto (-25), 3) := by decide +kernel
theorem dX1_init_96 : decode cX1_init 96 = .ok (.iconst 0, 1) := by decide +kernel
theorem dX1_init_97 : decode cX1_init 97 = .ok (.istore_n 1, 1) := by decide +kernel
theorem dX1_init_98 : decode cX1_init 98 = .ok (.iload_n 1, 1) := by decide +kernel
theorem dX1_init_99 : decode cX1_init 99 = .ok (.aload_n 0, 1) := by decide +kernel
theorem dX1_init_100 : decode cX1_init 100 = .ok (.getfield 25, 3) := by decide +kernel
theorem dX1_init_103 : decode cX1_init 103 = .ok (.arraylength, 1) := by decide +kernel
theorem dX1_init_104 : decode cX1_init 104 = .ok (.if_icmp .ge 22, 3) := by decide +kernel
theorem dX1_init_107 : decode cX1_init 107 = .ok (.aload_n 0, 1) := by decide +kernel
theorem dX1_init_108 : decode cX1_init 108 = .ok (.getfield 25, 3) := by decide +kernel
theorem dX1_init_111 : decode cX1_init 111 = .ok (.iload_n 1, 1) := by decide +kernel
theorem dX1_init_112 : decode cX1_init 112 = .ok (.new 23, 3) := by decide +kernel
theorem dX1_init_115 : decode cX1_init 115 = .ok (.dup, 1) := by decide +kernel
theorem dX1_init_116 : decode cX1_init 116 = .ok (.invokespecial 35, 3) := by decide +kernel
theorem dX1_init_119 : decode cX1_init 119 = .ok (.aastore, 1) := by decide +kernel
theorem dX1_init_120 : decode cX1_init 120 = .ok (.iinc 1 1, 3) := by decide +kernel
theorem dX1_init_123 : decode cX1_init 123 = .ok (.goto (-25), 3) := by decide +kernel
theorem dX1_init_126 : decode cX1_init 126 = .ok (.return_, 1) := by decide +kernel
theorem dX1_fireAt_0 : decode cX1_fireAt 0 = .ok (.iload_n 1, 1) := by decide +kernel
theorem dX1_fireAt_1 : decode cX1_fireAt 1 = .ok (.ifCond .lt 29, 3) := by decide +kernel
theorem dX1_fireAt_4 : decode cX1_fireAt 4 = .ok (.iload_n 1, 1) := by decide +kernel
theorem dX1_fireAt_5 : decode cX1_fireAt 5 = .ok (.aload_n 0, 1) := by decide +kernel
theorem dX1_fireAt_6 : decode cX1_fireAt 6 = .ok (.getfield 46, 3) := by decide +kernel
theorem dX1_fireAt_9 : decode cX1_fireAt 9 = .ok (.if_icmp .ge 21, 3) := by decide +kernel
theorem dX1_fireAt_12 : decode cX1_fireAt 12 = .ok (.iload_n 1, 1) := by decide +kernel
theorem dX1_fireAt_13 : decode cX1_fireAt 13 = .ok (.aload_n 0, 1) := by decide +kernel
theorem dX1_fireAt_14 : decode cX1_fireAt 14 = .ok (.getfield 11, 3) := by decide +kernel
theorem dX1_fireAt_17 : decode cX1_fireAt 17 = .ok (.arraylength, 1) := by decide +kernel
theorem dX1_fireAt_18 : decode cX1_fireAt 18 = .ok (.if_icmp .ge 12, 3) := by decide +kernel
theorem dX1_fireAt_21 : decode cX1_fireAt 21 = .ok (.aload_n 0, 1) := by decide +kernel
theorem dX1_fireAt_22 : decode cX1_fireAt 22 = .ok (.getfield 11, 3) := by decide +kernel
theorem dX1_fireAt_25 : decode cX1_fireAt 25 = .ok (.iload_n 1, 1) := by decide +kernel
theorem dX1_fireAt_26 : decode cX1_fireAt 26 = .ok (.aaload, 1) := by decide +kernel
theorem dX1_fireAt_27 : decode cX1_fireAt 27 = .ok (.goto 4, 3) := by decide +kernel
theorem dX1_fireAt_30 : decode cX1_fireAt 30 = .ok (.aconst_null, 1) := by decide +kernel
theorem dX1_fireAt_31 : decode cX1_fireAt 31 = .ok (.areturn, 1) := by decide +kernel
theorem dX1_spitAt_0 : decode cX1_spitAt 0 = .ok (.iload_n 1, 1) := by decide +kernel
theorem dX1_spitAt_1 : decode cX1_spitAt 1 = .ok (.ifCond .lt 29, 3) := by decide +kernel
theorem dX1_spitAt_4 : decode cX1_spitAt 4 = .ok (.iload_n 1, 1) := by decide +kernel
theorem dX1_spitAt_5 : decode cX1_spitAt 5 = .ok (.aload_n 0, 1) := by decide +kernel
theorem dX1_spitAt_6 : decode cX1_spitAt 6 = .ok (.getfield 49, 3) := by decide +kernel
theorem dX1_spitAt_9 : decode cX1_spitAt 9 = .ok (.if_icmp .ge 21, 3) := by decide +kernel
theorem dX1_spitAt_12 : decode cX1_spitAt 12 = .ok (.iload_n 1, 1) := by decide +kernel
theorem dX1_spitAt_13 : decode cX1_spitAt 13 = .ok (.aload_n 0, 1) := by decide +kernel
theorem dX1_spitAt_14 : decode cX1_spitAt 14 = .ok (.getfield 19, 3) := by decide +kernel
theorem dX1_spitAt_17 : decode cX1_spitAt 17 = .ok (.arraylength, 1) := by decide +kernel
theorem dX1_spitAt_18 : decode cX1_spitAt 18 = .ok (.if_icmp .ge 12, 3) := by decide +kernel
theorem dX1_spitAt_21 : decode cX1_spitAt 21 = .ok (.aload_n 0, 1) := by decide +kernel
theorem dX1_spitAt_22 : decode cX1_spitAt 22 = .ok (.getfield 19, 3) := by decide +kernel
theorem dX1_spitAt_25 : decode cX1_spitAt 25 = .ok (.iload_n 1, 1) := by decide +kernel
theorem dX1_spitAt_26 : decode cX1_spitAt 26 = .ok (.aaload, 1) := by decide +kernel
theorem dX1_spitAt_27 : decode cX1_spitAt 27 = .ok (.goto 4, 3) := by decide +kernel
theorem dX1_spitAt_30 : decode cX1_spitAt 30 = .ok (.aconst_null, 1) := by decide +kernel
theorem dX1_spitAt_31 : decode cX1_spitAt 31 = .ok (.areturn, 1) := by decide +kernel
theorem dX1_roastAt_0 : decode cX1_roastAt 0 = .ok (.iload_n 1, 1) := by decide +kernel
theorem dX1_roastAt_1 : decode cX1_roastAt 1 = .ok (.ifCond .lt 29, 3) := by decide +kernel
theorem dX1_roastAt_4 : decode cX1_roastAt 4 = .ok (.iload_n 1, 1) := by decide +kernel
theorem dX1_roastAt_5 : decode cX1_roastAt 5 = .ok (.aload_n 0, 1) := by decide +kernel
theorem dX1_roastAt_6 : decode cX1_roastAt 6 = .ok (.getfield 52, 3) := by decide +kernel
theorem dX1_roastAt_9 : decode cX1_roastAt 9 = .ok (.if_icmp .ge 21, 3) := by decide +kernel
theorem dX1_roastAt_12 : decode cX1_roastAt 12 = .ok (.iload_n 1, 1) := by decide +kernel
theorem dX1_roastAt_13 : decode cX1_roastAt 13 = .ok (.aload_n 0, 1) := by decide +kernel
theorem dX1_roastAt_14 : decode cX1_roastAt 14 = .ok (.getfield 25, 3) := by decide +kernel
theorem dX1_roastAt_17 : decode cX1_roastAt 17 = .ok (.arraylength, 1) := by decide +kernel
theorem dX1_roastAt_18 : decode cX1_roastAt 18 = .ok (.if_icmp .ge 12, 3) := by decide +kernel
theorem dX1_roastAt_21 : decode cX1_roastAt 21 = .ok (.aload_n 0, 1) := by decide +kernel
theorem dX1_roastAt_22 : decode cX1_roastAt 22 = .ok (.getfield 25, 3) := by decide +kernel
theorem dX1_roastAt_25 : decode cX1_roastAt 25 = .ok (.iload_n 1, 1) := by decide +kernel
theorem dX1_roastAt_26 : decode cX1_roastAt 26 = .ok (.aaload, 1) := by decide +kernel
theorem dX1_roastAt_27 : decode cX1_roastAt 27 = .ok (.goto 4, 3) := by decide +kernel
theorem dX1_roastAt_30 : decode cX1_roastAt 30 = .ok (.aconst_null, 1) := by decide +kernel
theorem dX1_roastAt_31 : decode cX1_roastAt 31 = .ok (.areturn, 1) := by decide +kernel
theorem dX1_placeFire_0 : decode cX1_placeFire 0 = .ok (.aload_n 0, 1) := by decide +kernel
theorem dX1_placeFire_1 : decode cX1_placeFire 1 = .ok (.getfield 46, 3) := by decide +kernel
theorem dX1_placeFire_4 : decode cX1_placeFire 4 = .ok (.aload_n 0, 1) := by decide +kernel
theorem dX1_placeFire_5 : decode cX1_placeFire 5 = .ok (.getfield 11, 3) := by decide +kernel
theorem dX1_placeFire_8 : decode cX1_placeFire 8 = .ok (.arraylength, 1) := by decide +kernel
theorem dX1_placeFire_9 : decode cX1_placeFire 9 = .ok (.if_icmp .lt 5, 3) := by decide +kernel
theorem dX1_placeFire_12 : decode cX1_placeFire 12 = .ok (.iconst (-1), 1) := by decide +kernel
theorem dX1_placeFire_13 : decode cX1_placeFire 13 = .ok (.ireturn, 1) := by decide +kernel
theorem dX1_placeFire_14 : decode cX1_placeFire 14 = .ok (.aload_n 0, 1) := by decide +kernel
theorem dX1_placeFire_15 : decode cX1_placeFire 15 = .ok (.dup, 1) := by decide +kernel
theorem dX1_placeFire_16 : decode cX1_placeFire 16 = .ok (.getfield 46, 3) := by decide +kernel
theorem dX1_placeFire_19 : decode cX1_placeFire 19 = .ok (.iconst 1, 1) := by decide +kernel
theorem dX1_placeFire_20 : decode cX1_placeFire 20 = .ok (.iadd, 1) := by decide +kernel
theorem dX1_placeFire_21 : decode cX1_placeFire 21 = .ok (.putfield 46, 3) := by decide +kernel
theorem dX1_placeFire_24 : decode cX1_placeFire 24 = .ok (.aload_n 0, 1) := by decide +kernel
theorem dX1_placeFire_25 : decode cX1_placeFire 25 = .ok (.getfield 46, 3) := by decide +kernel
theorem dX1_placeFire_28 : decode cX1_placeFire 28 = .ok (.iconst 1, 1) := by decide +kernel
theorem dX1_placeFire_29 : decode cX1_placeFire 29 = .ok (.isub, 1) := by decide +kernel
theorem dX1_placeFire_30 : decode cX1_placeFire 30 = .ok (.ireturn, 1) := by decide +kernel
theorem dX1_placeSpit_0 : decode cX1_placeSpit 0 = .ok (.aload_n 0, 1) := by decide +kernel
theorem dX1_placeSpit_1 : decode cX1_placeSpit 1 = .ok (.getfield 49, 3) := by decide +kernel
theorem dX1_placeSpit_4 : decode cX1_placeSpit 4 = .ok (.ifCond .lt 15, 3) := by decide +kernel
theorem dX1_placeSpit_7 : decode cX1_placeSpit 7 = .ok (.aload_n 0, 1) := by decide +kernel
theorem dX1_placeSpit_8 : decode cX1_placeSpit 8 = .ok (.getfield 49, 3) := by decide +kernel
theorem dX1_placeSpit_11 : decode cX1_placeSpit 11 = .ok (.aload_n 0, 1) := by decide +kernel
theorem dX1_placeSpit_12 : decode cX1_placeSpit 12 = .ok (.getfield 19, 3) := by decide +kernel
theorem dX1_placeSpit_15 : decode cX1_placeSpit 15 = .ok (.arraylength, 1) := by decide +kernel
theorem dX1_placeSpit_16 : decode cX1_placeSpit 16 = .ok (.if_icmp .lt 5, 3) := by decide +kernel
theorem dX1_placeSpit_19 : decode cX1_placeSpit 19 = .ok (.iconst (-1), 1) := by decide +kernel
theorem dX1_placeSpit_20 : decode cX1_placeSpit 20 = .ok (.ireturn, 1) := by decide +kernel
theorem dX1_placeSpit_21 : decode cX1_placeSpit 21 = .ok (.aload_n 0, 1) := by decide +kernel
theorem dX1_placeSpit_22 : decode cX1_placeSpit 22 = .ok (.getfield 19, 3) := by decide +kernel
theorem dX1_placeSpit_25 : decode cX1_placeSpit 25 = .ok (.aload_n 0, 1) := by decide +kernel
theorem dX1_placeSpit_26 : decode cX1_placeSpit 26 = .ok (.getfield 49, 3) := by decide +kernel
theorem dX1_placeSpit_29 : decode cX1_placeSpit 29 = .ok (.aaload, 1) := by decide +kernel
theorem dX1_placeSpit_30 : decode cX1_placeSpit 30 = .ok (.astore_n 3, 1) := by decide +kernel
theorem dX1_placeSpit_31 : decode cX1_placeSpit 31 = .ok (.aload_n 3, 1) := by decide +kernel
theorem dX1_placeSpit_32 : decode cX1_placeSpit 32 = .ok (.iload_n 1, 1) := by decide +kernel
theorem dX1_placeSpit_33 : decode cX1_placeSpit 33 = .ok (.putfield 58, 3) := by decide +kernel
theorem dX1_placeSpit_36 : decode cX1_placeSpit 36 = .ok (.aload_n 3, 1) := by decide +kernel
theorem dX1_placeSpit_37 : decode cX1_placeSpit 37 = .ok (.iload_n 2, 1) := by decide +kernel
theorem dX1_placeSpit_38 : decode cX1_placeSpit 38 = .ok (.putfield 61, 3) := by decide +kernel
theorem dX1_placeSpit_41 : decode cX1_placeSpit 41 = .ok (.aload_n 0, 1) := by decide +kernel
theorem dX1_placeSpit_42 : decode cX1_placeSpit 42 = .ok (.dup, 1) := by decide +kernel
theorem dX1_placeSpit_43 : decode cX1_placeSpit 43 = .ok (.getfield 49, 3) := by decide +kernel
theorem dX1_placeSpit_46 : decode cX1_placeSpit 46 = .ok (.iconst 1, 1) := by decide +kernel
theorem dX1_placeSpit_47 : decode cX1_placeSpit 47 = .ok (.iadd, 1) := by decide +kernel
theorem dX1_placeSpit_48 : decode cX1_placeSpit 48 = .ok (.putfield 49, 3) := by decide +kernel
theorem dX1_placeSpit_51 : decode cX1_placeSpit 51 = .ok (.aload_n 0, 1) := by decide +kernel
theorem dX1_placeSpit_52 : decode cX1_placeSpit 52 = .ok (.getfield 49, 3) := by decide +kernel
theorem dX1_placeSpit_55 : decode cX1_placeSpit 55 = .ok (.iconst 1, 1) := by decide +kernel
theorem dX1_placeSpit_56 : decode cX1_placeSpit 56 = .ok (.isub, 1) := by decide +kernel
theorem dX1_placeSpit_57 : decode cX1_placeSpit 57 = .ok (.ireturn, 1) := by decide +kernel
theorem dX1_placeRoast_0 : decode cX1_placeRoast 0 = .ok (.aload_n 0, 1) := by decide +kernel
theorem dX1_placeRoast_1 : decode cX1_placeRoast 1 = .ok (.iload_n 1, 1) := by decide +kernel
theorem dX1_placeRoast_2 : decode cX1_placeRoast 2 = .ok (.invokevirtual 64, 3) := by decide +kernel
theorem dX1_placeRoast_5 : decode cX1_placeRoast 5 = .ok (.astore_n 3, 1) := by decide +kernel
theorem dX1_placeRoast_6 : decode cX1_placeRoast 6 = .ok (.aload_n 3, 1) := by decide +kernel
theorem dX1_placeRoast_7 : decode cX1_placeRoast 7 = .ok (.ifnull 30, 3) := by decide +kernel
theorem dX1_placeRoast_10 : decode cX1_placeRoast 10 = .ok (.aload_n 3, 1) := by decide +kernel
theorem dX1_placeRoast_11 : decode cX1_placeRoast 11 = .ok (.getfield 68, 3) := by decide +kernel
theorem dX1_placeRoast_14 : decode cX1_placeRoast 14 = .ok (.iconst (-1), 1) := by decide +kernel
theorem dX1_placeRoast_15 : decode cX1_placeRoast 15 = .ok (.if_icmp .ne 22, 3) := by decide +kernel
theorem dX1_placeRoast_18 : decode cX1_placeRoast 18 = .ok (.aload_n 0, 1) := by decide +kernel
theorem dX1_placeRoast_19 : decode cX1_placeRoast 19 = .ok (.getfield 52, 3) := by decide +kernel
theorem dX1_placeRoast_22 : decode cX1_placeRoast 22 = .ok (.ifCond .lt 15, 3) := by decide +kernel
theorem dX1_placeRoast_25 : decode cX1_placeRoast 25 = .ok (.aload_n 0, 1) := by decide +kernel
theorem dX1_placeRoast_26 : decode cX1_placeRoast 26 = .ok (.getfield 52, 3) := by decide +kernel
theorem dX1_placeRoast_29 : decode cX1_placeRoast 29 = .ok (.aload_n 0, 1) := by decide +kernel
theorem dX1_placeRoast_30 : decode cX1_placeRoast 30 = .ok (.getfield 25, 3) := by decide +kernel
theorem dX1_placeRoast_33 : decode cX1_placeRoast 33 = .ok (.arraylength, 1) := by decide +kernel
theorem dX1_placeRoast_34 : decode cX1_placeRoast 34 = .ok (.if_icmp .lt 5, 3) := by decide +kernel
theorem dX1_placeRoast_37 : decode cX1_placeRoast 37 = .ok (.iconst (-1), 1) := by decide +kernel
theorem dX1_placeRoast_38 : decode cX1_placeRoast 38 = .ok (.ireturn, 1) := by decide +kernel
theorem dX1_placeRoast_39 : decode cX1_placeRoast 39 = .ok (.aload_n 0, 1) := by decide +kernel
theorem dX1_placeRoast_40 : decode cX1_placeRoast 40 = .ok (.getfield 25, 3) := by decide +kernel
theorem dX1_placeRoast_43 : decode cX1_placeRoast 43 = .ok (.aload_n 0, 1) := by decide +kernel
theorem dX1_placeRoast_44 : decode cX1_placeRoast 44 = .ok (.getfield 52, 3) := by decide +kernel
theorem dX1_placeRoast_47 : decode cX1_placeRoast 47 = .ok (.aaload, 1) := by decide +kernel
theorem dX1_placeRoast_48 : decode cX1_placeRoast 48 = .ok (.astore 4, 2) := by decide +kernel
theorem dX1_placeRoast_50 : decode cX1_placeRoast 50 = .ok (.aload 4, 2) := by decide +kernel
theorem dX1_placeRoast_52 : decode cX1_placeRoast 52 = .ok (.iload_n 2, 1) := by decide +kernel
theorem dX1_placeRoast_53 : decode cX1_placeRoast 53 = .ok (.putfield 71, 3) := by decide +kernel
theorem dX1_placeRoast_56 : decode cX1_placeRoast 56 = .ok (.aload 4, 2) := by decide +kernel
theorem dX1_placeRoast_58 : decode cX1_placeRoast 58 = .ok (.iconst 3, 1) := by decide +kernel
theorem dX1_placeRoast_59 : decode cX1_placeRoast 59 = .ok (.iload_n 2, 1) := by decide +kernel
theorem dX1_placeRoast_60 : decode cX1_placeRoast 60 = .ok (.imul, 1) := by decide +kernel
theorem dX1_placeRoast_61 : decode cX1_placeRoast 61 = .ok (.putfield 74, 3) := by decide +kernel
theorem dX1_placeRoast_64 : decode cX1_placeRoast 64 = .ok (.aload 4, 2) := by decide +kernel
theorem dX1_placeRoast_66 : decode cX1_placeRoast 66 = .ok (.iload_n 1, 1) := by decide +kernel
theorem dX1_placeRoast_67 : decode cX1_placeRoast 67 = .ok (.putfield 77, 3) := by decide +kernel
theorem dX1_placeRoast_70 : decode cX1_placeRoast 70 = .ok (.aload_n 3, 1) := by decide +kernel
theorem dX1_placeRoast_71 : decode cX1_placeRoast 71 = .ok (.aload_n 0, 1) := by decide +kernel
theorem dX1_placeRoast_72 : decode cX1_placeRoast 72 = .ok (.getfield 52, 3) := by decide +kernel
theorem dX1_placeRoast_75 : decode cX1_placeRoast 75 = .ok (.putfield 68, 3) := by decide +kernel
theorem dX1_placeRoast_78 : decode cX1_placeRoast 78 = .ok (.aload_n 3, 1) := by decide +kernel
theorem dX1_placeRoast_79 : decode cX1_placeRoast 79 = .ok (.iconst 0, 1) := by decide +kernel
theorem dX1_placeRoast_80 : decode cX1_placeRoast 80 = .ok (.putfield 80, 3) := by decide +kernel
theorem dX1_placeRoast_83 : decode cX1_placeRoast 83 = .ok (.aload_n 0, 1) := by decide +kernel
theorem dX1_placeRoast_84 : decode cX1_placeRoast 84 = .ok (.dup, 1) := by decide +kernel
theorem dX1_placeRoast_85 : decode cX1_placeRoast 85 = .ok (.getfield 52, 3) := by decide +kernel
theorem dX1_placeRoast_88 : decode cX1_placeRoast 88 = .ok (.iconst 1, 1) := by decide +kernel
theorem dX1_placeRoast_89 : decode cX1_placeRoast 89 = .ok (.iadd, 1) := by decide +kernel
theorem dX1_placeRoast_90 : decode cX1_placeRoast 90 = .ok (.putfield 52, 3) := by decide +kernel
theorem dX1_placeRoast_93 : decode cX1_placeRoast 93 = .ok (.aload_n 3, 1) := by decide +kernel
theorem dX1_placeRoast_94 : decode cX1_placeRoast 94 = .ok (.getfield 68, 3) := by decide +kernel
theorem dX1_placeRoast_97 : decode cX1_placeRoast 97 = .ok (.ireturn, 1) := by decide +kernel
theorem dX1_glowOf_0 : decode cX1_glowOf 0 = .ok (.aload_n 0, 1) := by decide +kernel
theorem dX1_glowOf_1 : decode cX1_glowOf 1 = .ok (.aload_n 1, 1) := by decide +kernel
theorem dX1_glowOf_2 : decode cX1_glowOf 2 = .ok (.getfield 58, 3) := by decide +kernel
theorem dX1_glowOf_5 : decode cX1_glowOf 5 = .ok (.invokevirtual 83, 3) := by decide +kernel
theorem dX1_glowOf_8 : decode cX1_glowOf 8 = .ok (.astore_n 2, 1) := by decide +kernel
theorem dX1_glowOf_9 : decode cX1_glowOf 9 = .ok (.aload_n 2, 1) := by decide +kernel
theorem dX1_glowOf_10 : decode cX1_glowOf 10 = .ok (.ifnull 10, 3) := by decide +kernel
theorem dX1_glowOf_13 : decode cX1_glowOf 13 = .ok (.aload_n 1, 1) := by decide +kernel
theorem dX1_glowOf_14 : decode cX1_glowOf 14 = .ok (.getfield 61, 3) := by decide +kernel
theorem dX1_glowOf_17 : decode cX1_glowOf 17 = .ok (.ifCond .gt 7, 3) := by decide +kernel
theorem dX1_glowOf_20 : decode cX1_glowOf 20 = .ok (.iconst 0, 1) := by decide +kernel
theorem dX1_glowOf_21 : decode cX1_glowOf 21 = .ok (.goto 12, 3) := by decide +kernel
theorem dX1_glowOf_24 : decode cX1_glowOf 24 = .ok (.aload_n 2, 1) := by decide +kernel
theorem dX1_glowOf_25 : decode cX1_glowOf 25 = .ok (.getfield 87, 3) := by decide +kernel
theorem dX1_glowOf_28 : decode cX1_glowOf 28 = .ok (.aload_n 1, 1) := by decide +kernel
theorem dX1_glowOf_29 : decode cX1_glowOf 29 = .ok (.getfield 61, 3) := by decide +kernel
theorem dX1_glowOf_32 : decode cX1_glowOf 32 = .ok (.idiv, 1) := by decide +kernel
theorem dX1_glowOf_33 : decode cX1_glowOf 33 = .ok (.ireturn, 1) := by decide +kernel
theorem dX1_goMinutes_0 : decode cX1_goMinutes 0 = .ok (.iconst 0, 1) := by decide +kernel
theorem dX1_goMinutes_1 : decode cX1_goMinutes 1 = .ok (.istore_n 2, 1) := by decide +kernel
theorem dX1_goMinutes_2 : decode cX1_goMinutes 2 = .ok (.iconst 0, 1) := by decide +kernel
theorem dX1_goMinutes_3 : decode cX1_goMinutes 3 = .ok (.istore_n 3, 1) := by decide +kernel
theorem dX1_goMinutes_4 : decode cX1_goMinutes 4 = .ok (.iload_n 3, 1) := by decide +kernel
theorem dX1_goMinutes_5 : decode cX1_goMinutes 5 = .ok (.iload_n 1, 1) := by decide +kernel
theorem dX1_goMinutes_6 : decode cX1_goMinutes 6 = .ok (.if_icmp .ge 16, 3) := by decide +kernel
theorem dX1_goMinutes_9 : decode cX1_goMinutes 9 = .ok (.iload_n 2, 1) := by decide +kernel
theorem dX1_goMinutes_10 : decode cX1_goMinutes 10 = .ok (.aload_n 0, 1) := by decide +kernel
theorem dX1_goMinutes_11 : decode cX1_goMinutes 11 = .ok (.invokevirtual 90, 3) := by decide +kernel
theorem dX1_goMinutes_14 : decode cX1_goMinutes 14 = .ok (.iadd, 1) := by decide +kernel
theorem dX1_goMinutes_15 : decode cX1_goMinutes 15 = .ok (.istore_n 2, 1) := by decide +kernel
theorem dX1_goMinutes_16 : decode cX1_goMinutes 16 = .ok (.iinc 3 1, 3) := by decide +kernel
theorem dX1_goMinutes_19 : decode cX1_goMinutes 19 = .ok (.goto (-15), 3) := by decide +kernel
theorem dX1_goMinutes_22 : decode cX1_goMinutes 22 = .ok (.iload_n 2, 1) := by decide +kernel
theorem dX1_goMinutes_23 : decode cX1_goMinutes 23 = .ok (.ireturn, 1) := by decide +kernel
theorem dX1_goMinute_0 : decode cX1_goMinute 0 = .ok (.iconst 0, 1) := by decide +kernel
theorem dX1_goMinute_1 : decode cX1_goMinute 1 = .ok (.istore_n 1, 1) := by decide +kernel
theorem dX1_goMinute_2 : decode cX1_goMinute 2 = .ok (.aload_n 0, 1) := by decide +kernel
theorem dX1_goMinute_3 : decode cX1_goMinute 3 = .ok (.getfield 19, 3) := by decide +kernel
theorem dX1_goMinute_6 : decode cX1_goMinute 6 = .ok (.astore_n 2, 1) := by decide +kernel
theorem dX1_goMinute_7 : decode cX1_goMinute 7 = .ok (.aload_n 2, 1) := by decide +kernel
theorem dX1_goMinute_8 : decode cX1_goMinute 8 = .ok (.arraylength, 1) := by decide +kernel
theorem dX1_goMinute_9 : decode cX1_goMinute 9 = .ok (.istore_n 3, 1) := by decide +kernel
theorem dX1_goMinute_10 : decode cX1_goMinute 10 = .ok (.iconst 0, 1) := by decide +kernel
theorem dX1_goMinute_11 : decode cX1_goMinute 11 = .ok (.istore 4, 2) := by decide +kernel
theorem dX1_goMinute_13 : decode cX1_goMinute 13 = .ok (.iload 4, 2) := by decide +kernel
theorem dX1_goMinute_15 : decode cX1_goMinute 15 = .ok (.iload_n 3, 1) := by decide +kernel
theorem dX1_goMinute_16 : decode cX1_goMinute 16 = .ok (.if_icmp .ge 27, 3) := by decide +kernel
theorem dX1_goMinute_19 : decode cX1_goMinute 19 = .ok (.aload_n 2, 1) := by decide +kernel
theorem dX1_goMinute_20 : decode cX1_goMinute 20 = .ok (.iload 4, 2) := by decide +kernel
theorem dX1_goMinute_22 : decode cX1_goMinute 22 = .ok (.aaload, 1) := by decide +kernel
theorem dX1_goMinute_23 : decode cX1_goMinute 23 = .ok (.astore 5, 2) := by decide +kernel
theorem dX1_goMinute_25 : decode cX1_goMinute 25 = .ok (.aload_n 0, 1) := by decide +kernel
theorem dX1_goMinute_26 : decode cX1_goMinute 26 = .ok (.aload 5, 2) := by decide +kernel
theorem dX1_goMinute_28 : decode cX1_goMinute 28 = .ok (.invokevirtual 94, 3) := by decide +kernel
theorem dX1_goMinute_31 : decode cX1_goMinute 31 = .ok (.ifCond .eq 6, 3) := by decide +kernel
theorem dX1_goMinute_34 : decode cX1_goMinute 34 = .ok (.iinc 1 1, 3) := by decide +kernel
theorem dX1_goMinute_37 : decode cX1_goMinute 37 = .ok (.iinc 4 1, 3) := by decide +kernel
theorem dX1_goMinute_40 : decode cX1_goMinute 40 = .ok (.goto (-27), 3) := by decide +kernel
theorem dX1_goMinute_43 : decode cX1_goMinute 43 = .ok (.aload_n 0, 1) := by decide +kernel
theorem dX1_goMinute_44 : decode cX1_goMinute 44 = .ok (.getfield 11, 3) := by decide +kernel
theorem dX1_goMinute_47 : decode cX1_goMinute 47 = .ok (.astore_n 2, 1) := by decide +kernel
theorem dX1_goMinute_48 : decode cX1_goMinute 48 = .ok (.aload_n 2, 1) := by decide +kernel
theorem dX1_goMinute_49 : decode cX1_goMinute 49 = .ok (.arraylength, 1) := by decide +kernel
theorem dX1_goMinute_50 : decode cX1_goMinute 50 = .ok (.istore_n 3, 1) := by decide +kernel
theorem dX1_goMinute_51 : decode cX1_goMinute 51 = .ok (.iconst 0, 1) := by decide +kernel
theorem dX1_goMinute_52 : decode cX1_goMinute 52 = .ok (.istore 4, 2) := by decide +kernel
theorem dX1_goMinute_54 : decode cX1_goMinute 54 = .ok (.iload 4, 2) := by decide +kernel
theorem dX1_goMinute_56 : decode cX1_goMinute 56 = .ok (.iload_n 3, 1) := by decide +kernel
theorem dX1_goMinute_57 : decode cX1_goMinute 57 = .ok (.if_icmp .ge 24, 3) := by decide +kernel
theorem dX1_goMinute_60 : decode cX1_goMinute 60 = .ok (.aload_n 2, 1) := by decide +kernel
theorem dX1_goMinute_61 : decode cX1_goMinute 61 = .ok (.iload 4, 2) := by decide +kernel
theorem dX1_goMinute_63 : decode cX1_goMinute 63 = .ok (.aaload, 1) := by decide +kernel
theorem dX1_goMinute_64 : decode cX1_goMinute 64 = .ok (.astore 5, 2) := by decide +kernel
theorem dX1_goMinute_66 : decode cX1_goMinute 66 = .ok (.aload 5, 2) := by decide +kernel
theorem dX1_goMinute_68 : decode cX1_goMinute 68 = .ok (.aload_n 0, 1) := by decide +kernel
theorem dX1_goMinute_69 : decode cX1_goMinute 69 = .ok (.getfield 55, 3) := by decide +kernel
theorem dX1_goMinute_72 : decode cX1_goMinute 72 = .ok (.invokevirtual 98, 3) := by decide +kernel
theorem dX1_goMinute_75 : decode cX1_goMinute 75 = .ok (.iinc 4 1, 3) := by decide +kernel
theorem dX1_goMinute_78 : decode cX1_goMinute 78 = .ok (.goto (-24), 3) := by decide +kernel
theorem dX1_goMinute_81 : decode cX1_goMinute 81 = .ok (.aload_n 0, 1) := by decide +kernel
theorem dX1_goMinute_82 : decode cX1_goMinute 82 = .ok (.dup, 1) := by decide +kernel
theorem dX1_goMinute_83 : decode cX1_goMinute 83 = .ok (.getfield 55, 3) := by decide +kernel
theorem dX1_goMinute_86 : decode cX1_goMinute 86 = .ok (.iconst 1, 1) := by decide +kernel
theorem dX1_goMinute_87 : decode cX1_goMinute 87 = .ok (.iadd, 1) := by decide +kernel
theorem dX1_goMinute_88 : decode cX1_goMinute 88 = .ok (.putfield 55, 3) := by decide +kernel
theorem dX1_goMinute_91 : decode cX1_goMinute 91 = .ok (.iload_n 1, 1) := by decide +kernel
theorem dX1_goMinute_92 : decode cX1_goMinute 92 = .ok (.ireturn, 1) := by decide +kernel
theorem dX1_roastForAMinute_0 : decode cX1_roastForAMinute 0 = .ok (.aload_n 0, 1) := by decide +kernel
theorem dX1_roastForAMinute_1 : decode cX1_roastForAMinute 1 = .ok (.aload_n 1, 1) := by decide +kernel
theorem dX1_roastForAMinute_2 : decode cX1_roastForAMinute 2 = .ok (.getfield 68, 3) := by decide +kernel
theorem dX1_roastForAMinute_5 : decode cX1_roastForAMinute 5 = .ok (.invokevirtual 102, 3) := by decide +kernel
theorem dX1_roastForAMinute_8 : decode cX1_roastForAMinute 8 = .ok (.astore_n 2, 1) := by decide +kernel
theorem dX1_roastForAMinute_9 : decode cX1_roastForAMinute 9 = .ok (.aload_n 0, 1) := by decide +kernel
theorem dX1_roastForAMinute_10 : decode cX1_roastForAMinute 10 = .ok (.aload_n 1, 1) := by decide +kernel
theorem dX1_roastForAMinute_11 : decode cX1_roastForAMinute 11 = .ok (.getfield 58, 3) := by decide +kernel
theorem dX1_roastForAMinute_14 : decode cX1_roastForAMinute 14 = .ok (.invokevirtual 83, 3) := by decide +kernel
theorem dX1_roastForAMinute_17 : decode cX1_roastForAMinute 17 = .ok (.astore_n 3, 1) := by decide +kernel
theorem dX1_roastForAMinute_18 : decode cX1_roastForAMinute 18 = .ok (.aload_n 2, 1) := by decide +kernel
theorem dX1_roastForAMinute_19 : decode cX1_roastForAMinute 19 = .ok (.ifnull 7, 3) := by decide +kernel
theorem dX1_roastForAMinute_22 : decode cX1_roastForAMinute 22 = .ok (.aload_n 3, 1) := by decide +kernel
theorem dX1_roastForAMinute_23 : decode cX1_roastForAMinute 23 = .ok (.ifnonnull 5, 3) := by decide +kernel
theorem dX1_roastForAMinute_26 : decode cX1_roastForAMinute 26 = .ok (.iconst 0, 1) := by decide +kernel
theorem dX1_roastForAMinute_27 : decode cX1_roastForAMinute 27 = .ok (.ireturn, 1) := by decide +kernel
theorem dX1_roastForAMinute_28 : decode cX1_roastForAMinute 28 = .ok (.aload_n 2, 1) := by decide +kernel
theorem dX1_roastForAMinute_29 : decode cX1_roastForAMinute 29 = .ok (.aload_n 0, 1) := by decide +kernel
theorem dX1_roastForAMinute_30 : decode cX1_roastForAMinute 30 = .ok (.aload_n 1, 1) := by decide +kernel
theorem dX1_roastForAMinute_31 : decode cX1_roastForAMinute 31 = .ok (.invokevirtual 106, 3) := by decide +kernel
theorem dX1_roastForAMinute_34 : decode cX1_roastForAMinute 34 = .ok (.invokevirtual 110, 3) := by decide +kernel
theorem dX1_roastForAMinute_37 : decode cX1_roastForAMinute 37 = .ok (.istore 4, 2) := by decide +kernel
theorem dX1_roastForAMinute_39 : decode cX1_roastForAMinute 39 = .ok (.aload_n 2, 1) := by decide +kernel
theorem dX1_roastForAMinute_40 : decode cX1_roastForAMinute 40 = .ok (.iload 4, 2) := by decide +kernel
theorem dX1_roastForAMinute_42 : decode cX1_roastForAMinute 42 = .ok (.invokevirtual 114, 3) := by decide +kernel
theorem dX1_roastForAMinute_45 : decode cX1_roastForAMinute 45 = .ok (.ifCond .eq 14, 3) := by decide +kernel
theorem dX1_roastForAMinute_48 : decode cX1_roastForAMinute 48 = .ok (.aload_n 1, 1) := by decide +kernel
theorem dX1_roastForAMinute_49 : decode cX1_roastForAMinute 49 = .ok (.invokevirtual 118, 3) := by decide +kernel
theorem dX1_roastForAMinute_52 : decode cX1_roastForAMinute 52 = .ok (.ifCond .ne 7, 3) := by decide +kernel
theorem dX1_roastForAMinute_55 : decode cX1_roastForAMinute 55 = .ok (.iconst 1, 1) := by decide +kernel
theorem dX1_roastForAMinute_56 : decode cX1_roastForAMinute 56 = .ok (.goto 4, 3) := by decide +kernel
theorem dX1_roastForAMinute_59 : decode cX1_roastForAMinute 59 = .ok (.iconst 0, 1) := by decide +kernel
theorem dX1_roastForAMinute_60 : decode cX1_roastForAMinute 60 = .ok (.istore 5, 2) := by decide +kernel
theorem dX1_roastForAMinute_62 : decode cX1_roastForAMinute 62 = .ok (.iload 5, 2) := by decide +kernel
theorem dX1_roastForAMinute_64 : decode cX1_roastForAMinute 64 = .ok (.ifCond .eq 13, 3) := by decide +kernel
theorem dX1_roastForAMinute_67 : decode cX1_roastForAMinute 67 = .ok (.aload_n 3, 1) := by decide +kernel
theorem dX1_roastForAMinute_68 : decode cX1_roastForAMinute 68 = .ok (.dup, 1) := by decide +kernel
theorem dX1_roastForAMinute_69 : decode cX1_roastForAMinute 69 = .ok (.getfield 122, 3) := by decide +kernel
theorem dX1_roastForAMinute_72 : decode cX1_roastForAMinute 72 = .ok (.iconst 1, 1) := by decide +kernel
theorem dX1_roastForAMinute_73 : decode cX1_roastForAMinute 73 = .ok (.iadd, 1) := by decide +kernel
theorem dX1_roastForAMinute_74 : decode cX1_roastForAMinute 74 = .ok (.putfield 122, 3) := by decide +kernel
theorem dX1_roastForAMinute_77 : decode cX1_roastForAMinute 77 = .ok (.aload_n 1, 1) := by decide +kernel
theorem dX1_roastForAMinute_78 : decode cX1_roastForAMinute 78 = .ok (.invokevirtual 125, 3) := by decide +kernel
theorem dX1_roastForAMinute_81 : decode cX1_roastForAMinute 81 = .ok (.ifCond .eq 7, 3) := by decide +kernel
theorem dX1_roastForAMinute_84 : decode cX1_roastForAMinute 84 = .ok (.aload_n 2, 1) := by decide +kernel
theorem dX1_roastForAMinute_85 : decode cX1_roastForAMinute 85 = .ok (.invokevirtual 128, 3) := by decide +kernel
theorem dX1_roastForAMinute_88 : decode cX1_roastForAMinute 88 = .ok (.iload 5, 2) := by decide +kernel
theorem dX1_roastForAMinute_90 : decode cX1_roastForAMinute 90 = .ok (.ireturn, 1) := by decide +kernel
theorem dX1_sumBrown_0 : decode cX1_sumBrown 0 = .ok (.iconst 0, 1) := by decide +kernel
theorem dX1_sumBrown_1 : decode cX1_sumBrown 1 = .ok (.istore_n 1, 1) := by decide +kernel
theorem dX1_sumBrown_2 : decode cX1_sumBrown 2 = .ok (.iconst 0, 1) := by decide +kernel
theorem dX1_sumBrown_3 : decode cX1_sumBrown 3 = .ok (.istore_n 2, 1) := by decide +kernel
theorem dX1_sumBrown_4 : decode cX1_sumBrown 4 = .ok (.iload_n 2, 1) := by decide +kernel
theorem dX1_sumBrown_5 : decode cX1_sumBrown 5 = .ok (.aload_n 0, 1) := by decide +kernel
theorem dX1_sumBrown_6 : decode cX1_sumBrown 6 = .ok (.getfield 25, 3) := by decide +kernel
theorem dX1_sumBrown_9 : decode cX1_sumBrown 9 = .ok (.arraylength, 1) := by decide +kernel
theorem dX1_sumBrown_10 : decode cX1_sumBrown 10 = .ok (.if_icmp .ge 58, 3) := by decide +kernel
theorem dX1_sumBrown_13 : decode cX1_sumBrown 13 = .ok (.iload_n 2, 1) := by decide +kernel
theorem dX1_sumBrown_14 : decode cX1_sumBrown 14 = .ok (.aload_n 0, 1) := by decide +kernel
theorem dX1_sumBrown_15 : decode cX1_sumBrown 15 = .ok (.getfield 52, 3) := by decide +kernel
theorem dX1_sumBrown_18 : decode cX1_sumBrown 18 = .ok (.if_icmp .ge 50, 3) := by decide +kernel
theorem dX1_sumBrown_21 : decode cX1_sumBrown 21 = .ok (.aload_n 0, 1) := by decide +kernel
theorem dX1_sumBrown_22 : decode cX1_sumBrown 22 = .ok (.getfield 25, 3) := by decide +kernel
theorem dX1_sumBrown_25 : decode cX1_sumBrown 25 = .ok (.iload_n 2, 1) := by decide +kernel
theorem dX1_sumBrown_26 : decode cX1_sumBrown 26 = .ok (.aaload, 1) := by decide +kernel
theorem dX1_sumBrown_27 : decode cX1_sumBrown 27 = .ok (.getfield 134, 3) := by decide +kernel
theorem dX1_sumBrown_30 : decode cX1_sumBrown 30 = .ok (.astore_n 3, 1) := by decide +kernel
theorem dX1_sumBrown_31 : decode cX1_sumBrown 31 = .ok (.aload_n 3, 1) := by decide +kernel
theorem dX1_sumBrown_32 : decode cX1_sumBrown 32 = .ok (.arraylength, 1) := by decide +kernel
theorem dX1_sumBrown_33 : decode cX1_sumBrown 33 = .ok (.istore 4, 2) := by decide +kernel
theorem dX1_sumBrown_35 : decode cX1_sumBrown 35 = .ok (.iconst 0, 1) := by decide +kernel
theorem dX1_sumBrown_36 : decode cX1_sumBrown 36 = .ok (.istore 5, 2) := by decide +kernel
theorem dX1_sumBrown_38 : decode cX1_sumBrown 38 = .ok (.iload 5, 2) := by decide +kernel
theorem dX1_sumBrown_40 : decode cX1_sumBrown 40 = .ok (.iload 4, 2) := by decide +kernel
theorem dX1_sumBrown_42 : decode cX1_sumBrown 42 = .ok (.if_icmp .ge 20, 3) := by decide +kernel
theorem dX1_sumBrown_45 : decode cX1_sumBrown 45 = .ok (.aload_n 3, 1) := by decide +kernel
theorem dX1_sumBrown_46 : decode cX1_sumBrown 46 = .ok (.iload 5, 2) := by decide +kernel
theorem dX1_sumBrown_48 : decode cX1_sumBrown 48 = .ok (.iaload, 1) := by decide +kernel
theorem dX1_sumBrown_49 : decode cX1_sumBrown 49 = .ok (.istore 6, 2) := by decide +kernel
theorem dX1_sumBrown_51 : decode cX1_sumBrown 51 = .ok (.iload_n 1, 1) := by decide +kernel
theorem dX1_sumBrown_52 : decode cX1_sumBrown 52 = .ok (.iload 6, 2) := by decide +kernel
theorem dX1_sumBrown_54 : decode cX1_sumBrown 54 = .ok (.iadd, 1) := by decide +kernel
theorem dX1_sumBrown_55 : decode cX1_sumBrown 55 = .ok (.istore_n 1, 1) := by decide +kernel
theorem dX1_sumBrown_56 : decode cX1_sumBrown 56 = .ok (.iinc 5 1, 3) := by decide +kernel
theorem dX1_sumBrown_59 : decode cX1_sumBrown 59 = .ok (.goto (-21), 3) := by decide +kernel
theorem dX1_sumBrown_62 : decode cX1_sumBrown 62 = .ok (.iinc 2 1, 3) := by decide +kernel
theorem dX1_sumBrown_65 : decode cX1_sumBrown 65 = .ok (.goto (-61), 3) := by decide +kernel
theorem dX1_sumBrown_68 : decode cX1_sumBrown 68 = .ok (.iload_n 1, 1) := by decide +kernel
theorem dX1_sumBrown_69 : decode cX1_sumBrown 69 = .ok (.ireturn, 1) := by decide +kernel
theorem dX2_init_0 : decode cX2_init 0 = .ok (.aload_n 0, 1) := by decide +kernel
theorem dX2_init_1 : decode cX2_init 1 = .ok (.invokespecial 3, 3) := by decide +kernel
theorem dX2_init_4 : decode cX2_init 4 = .ok (.aload_n 0, 1) := by decide +kernel
theorem dX2_init_5 : decode cX2_init 5 = .ok (.iconst 4, 1) := by decide +kernel
theorem dX2_init_6 : decode cX2_init 6 = .ok (.newarray .int, 2) := by decide +kernel
theorem dX2_init_8 : decode cX2_init 8 = .ok (.putfield 9, 3) := by decide +kernel
theorem dX2_init_11 : decode cX2_init 11 = .ok (.aload_n 0, 1) := by decide +kernel
theorem dX2_init_12 : decode cX2_init 12 = .ok (.iconst (-1), 1) := by decide +kernel
theorem dX2_init_13 : decode cX2_init 13 = .ok (.putfield 15, 3) := by decide +kernel
theorem dX2_init_16 : decode cX2_init 16 = .ok (.return_, 1) := by decide +kernel
theorem dX2_getGlow_0 : decode cX2_getGlow 0 = .ok (.iload_n 1, 1) := by decide +kernel
theorem dX2_getGlow_1 : decode cX2_getGlow 1 = .ok (.istore_n 2, 1) := by decide +kernel
theorem dX2_getGlow_2 : decode cX2_getGlow 2 = .ok (.aload_n 0, 1) := by decide +kernel
theorem dX2_getGlow_3 : decode cX2_getGlow 3 = .ok (.getfield 28, 3) := by decide +kernel
theorem dX2_getGlow_6 : decode cX2_getGlow 6 = .ok (.ifCond .le 21, 3) := by decide +kernel
theorem dX2_getGlow_9 : decode cX2_getGlow 9 = .ok (.iconst 0, 1) := by decide +kernel
theorem dX2_getGlow_10 : decode cX2_getGlow 10 = .ok (.iload_n 1, 1) := by decide +kernel
theorem dX2_getGlow_11 : decode cX2_getGlow 11 = .ok (.iconst 1, 1) := by decide +kernel
theorem dX2_getGlow_12 : decode cX2_getGlow 12 = .ok (.isub, 1) := by decide +kernel
theorem dX2_getGlow_13 : decode cX2_getGlow 13 = .ok (.invokestatic 31, 3) := by decide +kernel
theorem dX2_getGlow_16 : decode cX2_getGlow 16 = .ok (.istore_n 2, 1) := by decide +kernel
theorem dX2_getGlow_17 : decode cX2_getGlow 17 = .ok (.aload_n 0, 1) := by decide +kernel
theorem dX2_getGlow_18 : decode cX2_getGlow 18 = .ok (.dup, 1) := by decide +kernel
theorem dX2_getGlow_19 : decode cX2_getGlow 19 = .ok (.getfield 28, 3) := by decide +kernel
theorem dX2_getGlow_22 : decode cX2_getGlow 22 = .ok (.iconst 1, 1) := by decide +kernel
theorem dX2_getGlow_23 : decode cX2_getGlow 23 = .ok (.isub, 1) := by decide +kernel
theorem dX2_getGlow_24 : decode cX2_getGlow 24 = .ok (.putfield 28, 3) := by decide +kernel
theorem dX2_getGlow_27 : decode cX2_getGlow 27 = .ok (.aload_n 0, 1) := by decide +kernel
theorem dX2_getGlow_28 : decode cX2_getGlow 28 = .ok (.aload_n 0, 1) := by decide +kernel
theorem dX2_getGlow_29 : decode cX2_getGlow 29 = .ok (.getfield 22, 3) := by decide +kernel
theorem dX2_getGlow_32 : decode cX2_getGlow 32 = .ok (.iload_n 2, 1) := by decide +kernel
theorem dX2_getGlow_33 : decode cX2_getGlow 33 = .ok (.invokevirtual 37, 3) := by decide +kernel
theorem dX2_getGlow_36 : decode cX2_getGlow 36 = .ok (.aload_n 0, 1) := by decide +kernel
theorem dX2_getGlow_37 : decode cX2_getGlow 37 = .ok (.aload_n 0, 1) := by decide +kernel
theorem dX2_getGlow_38 : decode cX2_getGlow 38 = .ok (.getfield 22, 3) := by decide +kernel
theorem dX2_getGlow_41 : decode cX2_getGlow 41 = .ok (.invokestatic 41, 3) := by decide +kernel
theorem dX2_getGlow_44 : decode cX2_getGlow 44 = .ok (.iload_n 2, 1) := by decide +kernel
theorem dX2_getGlow_45 : decode cX2_getGlow 45 = .ok (.iconst 3, 1) := by decide +kernel
theorem dX2_getGlow_46 : decode cX2_getGlow 46 = .ok (.idiv, 1) := by decide +kernel
theorem dX2_getGlow_47 : decode cX2_getGlow 47 = .ok (.invokevirtual 37, 3) := by decide +kernel
theorem dX2_getGlow_50 : decode cX2_getGlow 50 = .ok (.aload_n 0, 1) := by decide +kernel
theorem dX2_getGlow_51 : decode cX2_getGlow 51 = .ok (.aload_n 0, 1) := by decide +kernel
theorem dX2_getGlow_52 : decode cX2_getGlow 52 = .ok (.getfield 22, 3) := by decide +kernel
theorem dX2_getGlow_55 : decode cX2_getGlow 55 = .ok (.invokestatic 45, 3) := by decide +kernel
theorem dX2_getGlow_58 : decode cX2_getGlow 58 = .ok (.iload_n 2, 1) := by decide +kernel
theorem dX2_getGlow_59 : decode cX2_getGlow 59 = .ok (.iconst 3, 1) := by decide +kernel
theorem dX2_getGlow_60 : decode cX2_getGlow 60 = .ok (.idiv, 1) := by decide +kernel
theorem dX2_getGlow_61 : decode cX2_getGlow 61 = .ok (.invokevirtual 37, 3) := by decide +kernel
theorem dX2_getGlow_64 : decode cX2_getGlow 64 = .ok (.iload_n 2, 1) := by decide +kernel
theorem dX2_getGlow_65 : decode cX2_getGlow 65 = .ok (.ireturn, 1) := by decide +kernel
theorem dX2_getBrowner_0 : decode cX2_getBrowner 0 = .ok (.iload_n 1, 1) := by decide +kernel
theorem dX2_getBrowner_1 : decode cX2_getBrowner 1 = .ok (.ifCond .lt 39, 3) := by decide +kernel
theorem dX2_getBrowner_4 : decode cX2_getBrowner 4 = .ok (.iload_n 1, 1) := by decide +kernel
theorem dX2_getBrowner_5 : decode cX2_getBrowner 5 = .ok (.aload_n 0, 1) := by decide +kernel
theorem dX2_getBrowner_6 : decode cX2_getBrowner 6 = .ok (.getfield 9, 3) := by decide +kernel
theorem dX2_getBrowner_9 : decode cX2_getBrowner 9 = .ok (.arraylength, 1) := by decide +kernel
theorem dX2_getBrowner_10 : decode cX2_getBrowner 10 = .ok (.if_icmp .ge 30, 3) := by decide +kernel
theorem dX2_getBrowner_13 : decode cX2_getBrowner 13 = .ok (.aload_n 0, 1) := by decide +kernel
theorem dX2_getBrowner_14 : decode cX2_getBrowner 14 = .ok (.getfield 9, 3) := by decide +kernel
theorem dX2_getBrowner_17 : decode cX2_getBrowner 17 = .ok (.iload_n 1, 1) := by decide +kernel
theorem dX2_getBrowner_18 : decode cX2_getBrowner 18 = .ok (.iaload, 1) := by decide +kernel
theorem dX2_getBrowner_19 : decode cX2_getBrowner 19 = .ok (.iload_n 2, 1) := by decide +kernel
theorem dX2_getBrowner_20 : decode cX2_getBrowner 20 = .ok (.iadd, 1) := by decide +kernel
theorem dX2_getBrowner_21 : decode cX2_getBrowner 21 = .ok (.istore_n 3, 1) := by decide +kernel
theorem dX2_getBrowner_22 : decode cX2_getBrowner 22 = .ok (.aload_n 0, 1) := by decide +kernel
theorem dX2_getBrowner_23 : decode cX2_getBrowner 23 = .ok (.getfield 9, 3) := by decide +kernel
theorem dX2_getBrowner_26 : decode cX2_getBrowner 26 = .ok (.iload_n 1, 1) := by decide +kernel
theorem dX2_getBrowner_27 : decode cX2_getBrowner 27 = .ok (.iload_n 3, 1) := by decide +kernel
theorem dX2_getBrowner_28 : decode cX2_getBrowner 28 = .ok (.bipush 99, 2) := by decide +kernel
theorem dX2_getBrowner_30 : decode cX2_getBrowner 30 = .ok (.if_icmp .le 8, 3) := by decide +kernel
theorem dX2_getBrowner_33 : decode cX2_getBrowner 33 = .ok (.bipush 99, 2) := by decide +kernel
theorem dX2_getBrowner_35 : decode cX2_getBrowner 35 = .ok (.goto 4, 3) := by decide +kernel
theorem dX2_getBrowner_38 : decode cX2_getBrowner 38 = .ok (.iload_n 3, 1) := by decide +kernel
theorem dX2_getBrowner_39 : decode cX2_getBrowner 39 = .ok (.iastore, 1) := by decide +kernel
theorem dX2_getBrowner_40 : decode cX2_getBrowner 40 = .ok (.return_, 1) := by decide +kernel
theorem dX2_drips_0 : decode cX2_drips 0 = .ok (.iload_n 1, 1) := by decide +kernel
theorem dX2_drips_1 : decode cX2_drips 1 = .ok (.iconst 2, 1) := by decide +kernel
theorem dX2_drips_2 : decode cX2_drips 2 = .ok (.if_icmp .lt 10, 3) := by decide +kernel
theorem dX2_drips_5 : decode cX2_drips 5 = .ok (.aload_n 0, 1) := by decide +kernel
theorem dX2_drips_6 : decode cX2_drips 6 = .ok (.getfield 25, 3) := by decide +kernel
theorem dX2_drips_9 : decode cX2_drips 9 = .ok (.ifCond .gt 5, 3) := by decide +kernel
theorem dX2_drips_12 : decode cX2_drips 12 = .ok (.iconst 0, 1) := by decide +kernel
theorem dX2_drips_13 : decode cX2_drips 13 = .ok (.ireturn, 1) := by decide +kernel
theorem dX2_drips_14 : decode cX2_drips 14 = .ok (.aload_n 0, 1) := by decide +kernel
theorem dX2_drips_15 : decode cX2_drips 15 = .ok (.dup, 1) := by decide +kernel
theorem dX2_drips_16 : decode cX2_drips 16 = .ok (.getfield 25, 3) := by decide +kernel
theorem dX2_drips_19 : decode cX2_drips 19 = .ok (.iconst 1, 1) := by decide +kernel
theorem dX2_drips_20 : decode cX2_drips 20 = .ok (.isub, 1) := by decide +kernel
theorem dX2_drips_21 : decode cX2_drips 21 = .ok (.putfield 25, 3) := by decide +kernel
theorem dX2_drips_24 : decode cX2_drips 24 = .ok (.iconst 1, 1) := by decide +kernel
theorem dX2_drips_25 : decode cX2_drips 25 = .ok (.ireturn, 1) := by decide +kernel
theorem dX2_turn_0 : decode cX2_turn 0 = .ok (.aload_n 0, 1) := by decide +kernel
theorem dX2_turn_1 : decode cX2_turn 1 = .ok (.aload_n 0, 1) := by decide +kernel
theorem dX2_turn_2 : decode cX2_turn 2 = .ok (.getfield 22, 3) := by decide +kernel
theorem dX2_turn_5 : decode cX2_turn 5 = .ok (.invokestatic 41, 3) := by decide +kernel
theorem dX2_turn_8 : decode cX2_turn 8 = .ok (.putfield 22, 3) := by decide +kernel
theorem dX2_turn_11 : decode cX2_turn 11 = .ok (.return_, 1) := by decide +kernel
theorem dX2_done_0 : decode cX2_done 0 = .ok (.aload_n 0, 1) := by decide +kernel
theorem dX2_done_1 : decode cX2_done 1 = .ok (.getfield 9, 3) := by decide +kernel
theorem dX2_done_4 : decode cX2_done 4 = .ok (.astore_n 1, 1) := by decide +kernel
theorem dX2_done_5 : decode cX2_done 5 = .ok (.aload_n 1, 1) := by decide +kernel
theorem dX2_done_6 : decode cX2_done 6 = .ok (.arraylength, 1) := by decide +kernel
theorem dX2_done_7 : decode cX2_done 7 = .ok (.istore_n 2, 1) := by decide +kernel
theorem dX2_done_8 : decode cX2_done 8 = .ok (.iconst 0, 1) := by decide +kernel
theorem dX2_done_9 : decode cX2_done 9 = .ok (.istore_n 3, 1) := by decide +kernel
theorem dX2_done_10 : decode cX2_done 10 = .ok (.iload_n 3, 1) := by decide +kernel
theorem dX2_done_11 : decode cX2_done 11 = .ok (.iload_n 2, 1) := by decide +kernel
theorem dX2_done_12 : decode cX2_done 12 = .ok (.if_icmp .ge 41, 3) := by decide +kernel
theorem dX2_done_15 : decode cX2_done 15 = .ok (.aload_n 1, 1) := by decide +kernel
theorem dX2_done_16 : decode cX2_done 16 = .ok (.iload_n 3, 1) := by decide +kernel
theorem dX2_done_17 : decode cX2_done 17 = .ok (.iaload, 1) := by decide +kernel
theorem dX2_done_18 : decode cX2_done 18 = .ok (.istore 4, 2) := by decide +kernel
theorem dX2_done_20 : decode cX2_done 20 = .ok (.iload 4, 2) := by decide +kernel
theorem dX2_done_22 : decode cX2_done 22 = .ok (.iconst 3, 1) := by decide +kernel
theorem dX2_done_23 : decode cX2_done 23 = .ok (.aload_n 0, 1) := by decide +kernel
theorem dX2_done_24 : decode cX2_done 24 = .ok (.getfield 19, 3) := by decide +kernel
theorem dX2_done_27 : decode cX2_done 27 = .ok (.imul, 1) := by decide +kernel
theorem dX2_done_28 : decode cX2_done 28 = .ok (.if_icmp .lt 17, 3) := by decide +kernel
theorem dX2_done_31 : decode cX2_done 31 = .ok (.iload 4, 2) := by decide +kernel
theorem dX2_done_33 : decode cX2_done 33 = .ok (.iconst 3, 1) := by decide +kernel
theorem dX2_done_34 : decode cX2_done 34 = .ok (.aload_n 0, 1) := by decide +kernel
theorem dX2_done_35 : decode cX2_done 35 = .ok (.getfield 19, 3) := by decide +kernel
theorem dX2_done_38 : decode cX2_done 38 = .ok (.imul, 1) := by decide +kernel
theorem dX2_done_39 : decode cX2_done 39 = .ok (.bipush 30, 2) := by decide +kernel
theorem dX2_done_41 : decode cX2_done 41 = .ok (.iadd, 1) := by decide +kernel
theorem dX2_done_42 : decode cX2_done 42 = .ok (.if_icmp .le 5, 3) := by decide +kernel
theorem dX2_done_45 : decode cX2_done 45 = .ok (.iconst 0, 1) := by decide +kernel
theorem dX2_done_46 : decode cX2_done 46 = .ok (.ireturn, 1) := by decide +kernel
theorem dX2_done_47 : decode cX2_done 47 = .ok (.iinc 3 1, 3) := by decide +kernel
theorem dX2_done_50 : decode cX2_done 50 = .ok (.goto (-40), 3) := by decide +kernel
theorem dX2_done_53 : decode cX2_done 53 = .ok (.iconst 1, 1) := by decide +kernel
theorem dX2_done_54 : decode cX2_done 54 = .ok (.ireturn, 1) := by decide +kernel
theorem dX2_burnt_0 : decode cX2_burnt 0 = .ok (.aload_n 0, 1) := by decide +kernel
theorem dX2_burnt_1 : decode cX2_burnt 1 = .ok (.getfield 9, 3) := by decide +kernel
theorem dX2_burnt_4 : decode cX2_burnt 4 = .ok (.astore_n 1, 1) := by decide +kernel
theorem dX2_burnt_5 : decode cX2_burnt 5 = .ok (.aload_n 1, 1) := by decide +kernel
theorem dX2_burnt_6 : decode cX2_burnt 6 = .ok (.arraylength, 1) := by decide +kernel
theorem dX2_burnt_7 : decode cX2_burnt 7 = .ok (.istore_n 2, 1) := by decide +kernel
theorem dX2_burnt_8 : decode cX2_burnt 8 = .ok (.iconst 0, 1) := by decide +kernel
theorem dX2_burnt_9 : decode cX2_burnt 9 = .ok (.istore_n 3, 1) := by decide +kernel
theorem dX2_burnt_10 : decode cX2_burnt 10 = .ok (.iload_n 3, 1) := by decide +kernel
theorem dX2_burnt_11 : decode cX2_burnt 11 = .ok (.iload_n 2, 1) := by decide +kernel
theorem dX2_burnt_12 : decode cX2_burnt 12 = .ok (.if_icmp .ge 30, 3) := by decide +kernel
theorem dX2_burnt_15 : decode cX2_burnt 15 = .ok (.aload_n 1, 1) := by decide +kernel
theorem dX2_burnt_16 : decode cX2_burnt 16 = .ok (.iload_n 3, 1) := by decide +kernel
theorem dX2_burnt_17 : decode cX2_burnt 17 = .ok (.iaload, 1) := by decide +kernel
theorem dX2_burnt_18 : decode cX2_burnt 18 = .ok (.istore 4, 2) := by decide +kernel
theorem dX2_burnt_20 : decode cX2_burnt 20 = .ok (.iload 4, 2) := by decide +kernel
theorem dX2_burnt_22 : decode cX2_burnt 22 = .ok (.iconst 3, 1) := by decide +kernel
theorem dX2_burnt_23 : decode cX2_burnt 23 = .ok (.aload_n 0, 1) := by decide +kernel
theorem dX2_burnt_24 : decode cX2_burnt 24 = .ok (.getfield 19, 3) := by decide +kernel
theorem dX2_burnt_27 : decode cX2_burnt 27 = .ok (.imul, 1) := by decide +kernel
theorem dX2_burnt_28 : decode cX2_burnt 28 = .ok (.bipush 30, 2) := by decide +kernel
theorem dX2_burnt_30 : decode cX2_burnt 30 = .ok (.iadd, 1) := by decide +kernel
theorem dX2_burnt_31 : decode cX2_burnt 31 = .ok (.if_icmp .le 5, 3) := by decide +kernel
theorem dX2_burnt_34 : decode cX2_burnt 34 = .ok (.iconst 1, 1) := by decide +kernel
theorem dX2_burnt_35 : decode cX2_burnt 35 = .ok (.ireturn, 1) := by decide +kernel
theorem dX2_burnt_36 : decode cX2_burnt 36 = .ok (.iinc 3 1, 3) := by decide +kernel
theorem dX2_burnt_39 : decode cX2_burnt 39 = .ok (.goto (-29), 3) := by decide +kernel
theorem dX2_burnt_42 : decode cX2_burnt 42 = .ok (.iconst 0, 1) := by decide +kernel
theorem dX2_burnt_43 : decode cX2_burnt 43 = .ok (.ireturn, 1) := by decide +kernel
theorem dX2_nextSide_0 : decode cX2_nextSide 0 = .ok (.iload_n 0, 1) := by decide +kernel
theorem dX2_nextSide_1 : decode cX2_nextSide 1 = .ok (.iconst 3, 1) := by decide +kernel
theorem dX2_nextSide_2 : decode cX2_nextSide 2 = .ok (.if_icmp .lt 7, 3) := by decide +kernel
theorem dX2_nextSide_5 : decode cX2_nextSide 5 = .ok (.iconst 0, 1) := by decide +kernel
theorem dX2_nextSide_6 : decode cX2_nextSide 6 = .ok (.goto 6, 3) := by decide +kernel
theorem dX2_nextSide_9 : decode cX2_nextSide 9 = .ok (.iload_n 0, 1) := by decide +kernel
theorem dX2_nextSide_10 : decode cX2_nextSide 10 = .ok (.iconst 1, 1) := by decide +kernel
theorem dX2_nextSide_11 : decode cX2_nextSide 11 = .ok (.iadd, 1) := by decide +kernel
theorem dX2_nextSide_12 : decode cX2_nextSide 12 = .ok (.ireturn, 1) := by decide +kernel
theorem dX2_sideBefore_0 : decode cX2_sideBefore 0 = .ok (.iload_n 0, 1) := by decide +kernel
theorem dX2_sideBefore_1 : decode cX2_sideBefore 1 = .ok (.ifCond .gt 7, 3) := by decide +kernel
theorem dX2_sideBefore_4 : decode cX2_sideBefore 4 = .ok (.iconst 3, 1) := by decide +kernel
theorem dX2_sideBefore_5 : decode cX2_sideBefore 5 = .ok (.goto 6, 3) := by decide +kernel
theorem dX2_sideBefore_8 : decode cX2_sideBefore 8 = .ok (.iload_n 0, 1) := by decide +kernel
theorem dX2_sideBefore_9 : decode cX2_sideBefore 9 = .ok (.iconst 1, 1) := by decide +kernel
theorem dX2_sideBefore_10 : decode cX2_sideBefore 10 = .ok (.isub, 1) := by decide +kernel
theorem dX2_sideBefore_11 : decode cX2_sideBefore 11 = .ok (.ireturn, 1) := by decide +kernel
theorem dX3_init_0 : decode cX3_init 0 = .ok (.aload_n 0, 1) := by decide +kernel
theorem dX3_init_1 : decode cX3_init 1 = .ok (.invokespecial 3, 3) := by decide +kernel
theorem dX3_init_4 : decode cX3_init 4 = .ok (.aload_n 0, 1) := by decide +kernel
theorem dX3_init_5 : decode cX3_init 5 = .ok (.iconst (-1), 1) := by decide +kernel
theorem dX3_init_6 : decode cX3_init 6 = .ok (.putfield 9, 3) := by decide +kernel
theorem dX3_init_9 : decode cX3_init 9 = .ok (.return_, 1) := by decide +kernel
theorem dX3_countAnew_0 : decode cX3_countAnew 0 = .ok (.aload_n 0, 1) := by decide +kernel
theorem dX3_countAnew_1 : decode cX3_countAnew 1 = .ok (.iload_n 1, 1) := by decide +kernel
theorem dX3_countAnew_2 : decode cX3_countAnew 2 = .ok (.putfield 21, 3) := by decide +kernel
theorem dX3_countAnew_5 : decode cX3_countAnew 5 = .ok (.aload_n 0, 1) := by decide +kernel
theorem dX3_countAnew_6 : decode cX3_countAnew 6 = .ok (.iconst 0, 1) := by decide +kernel
theorem dX3_countAnew_7 : decode cX3_countAnew 7 = .ok (.putfield 24, 3) := by decide +kernel
theorem dX3_countAnew_10 : decode cX3_countAnew 10 = .ok (.return_, 1) := by decide +kernel
theorem dX3_countsToTurn_0 : decode cX3_countsToTurn 0 = .ok (.aload_n 0, 1) := by decide +kernel
theorem dX3_countsToTurn_1 : decode cX3_countsToTurn 1 = .ok (.dup, 1) := by decide +kernel
theorem dX3_countsToTurn_2 : decode cX3_countsToTurn 2 = .ok (.getfield 24, 3) := by decide +kernel
theorem dX3_countsToTurn_5 : decode cX3_countsToTurn 5 = .ok (.iconst 1, 1) := by decide +kernel
theorem dX3_countsToTurn_6 : decode cX3_countsToTurn 6 = .ok (.iadd, 1) := by decide +kernel
theorem dX3_countsToTurn_7 : decode cX3_countsToTurn 7 = .ok (.putfield 24, 3) := by decide +kernel
theorem dX3_countsToTurn_10 : decode cX3_countsToTurn 10 = .ok (.aload_n 0, 1) := by decide +kernel
theorem dX3_countsToTurn_11 : decode cX3_countsToTurn 11 = .ok (.getfield 21, 3) := by decide +kernel
theorem dX3_countsToTurn_14 : decode cX3_countsToTurn 14 = .ok (.ifCond .le 19, 3) := by decide +kernel
theorem dX3_countsToTurn_17 : decode cX3_countsToTurn 17 = .ok (.aload_n 0, 1) := by decide +kernel
theorem dX3_countsToTurn_18 : decode cX3_countsToTurn 18 = .ok (.getfield 24, 3) := by decide +kernel
theorem dX3_countsToTurn_21 : decode cX3_countsToTurn 21 = .ok (.aload_n 0, 1) := by decide +kernel
theorem dX3_countsToTurn_22 : decode cX3_countsToTurn 22 = .ok (.getfield 21, 3) := by decide +kernel
theorem dX3_countsToTurn_25 : decode cX3_countsToTurn 25 = .ok (.irem, 1) := by decide +kernel
theorem dX3_countsToTurn_26 : decode cX3_countsToTurn 26 = .ok (.ifCond .ne 7, 3) := by decide +kernel
theorem dX3_countsToTurn_29 : decode cX3_countsToTurn 29 = .ok (.iconst 1, 1) := by decide +kernel
theorem dX3_countsToTurn_30 : decode cX3_countsToTurn 30 = .ok (.goto 4, 3) := by decide +kernel
theorem dX3_countsToTurn_33 : decode cX3_countsToTurn 33 = .ok (.iconst 0, 1) := by decide +kernel
theorem dX3_countsToTurn_34 : decode cX3_countsToTurn 34 = .ok (.ireturn, 1) := by decide +kernel
theorem dX3_takesDripping_0 : decode cX3_takesDripping 0 = .ok (.aload_n 0, 1) := by decide +kernel
theorem dX3_takesDripping_1 : decode cX3_takesDripping 1 = .ok (.getfield 27, 3) := by decide +kernel
theorem dX3_takesDripping_4 : decode cX3_takesDripping 4 = .ok (.bipush 20, 2) := by decide +kernel
theorem dX3_takesDripping_6 : decode cX3_takesDripping 6 = .ok (.if_icmp .lt 5, 3) := by decide +kernel
theorem dX3_takesDripping_9 : decode cX3_takesDripping 9 = .ok (.iconst 0, 1) := by decide +kernel
theorem dX3_takesDripping_10 : decode cX3_takesDripping 10 = .ok (.ireturn, 1) := by decide +kernel
theorem dX3_takesDripping_11 : decode cX3_takesDripping 11 = .ok (.aload_n 0, 1) := by decide +kernel
theorem dX3_takesDripping_12 : decode cX3_takesDripping 12 = .ok (.dup, 1) := by decide +kernel
theorem dX3_takesDripping_13 : decode cX3_takesDripping 13 = .ok (.getfield 27, 3) := by decide +kernel
theorem dX3_takesDripping_16 : decode cX3_takesDripping 16 = .ok (.iconst 1, 1) := by decide +kernel
theorem dX3_takesDripping_17 : decode cX3_takesDripping 17 = .ok (.iadd, 1) := by decide +kernel
theorem dX3_takesDripping_18 : decode cX3_takesDripping 18 = .ok (.putfield 27, 3) := by decide +kernel
theorem dX3_takesDripping_21 : decode cX3_takesDripping 21 = .ok (.iconst 1, 1) := by decide +kernel
theorem dX3_takesDripping_22 : decode cX3_takesDripping 22 = .ok (.ireturn, 1) := by decide +kernel
theorem dX4_init_0 : decode cX4_init 0 = .ok (.aload_n 0, 1) := by decide +kernel
theorem dX4_init_1 : decode cX4_init 1 = .ok (.invokespecial 1, 3) := by decide +kernel
theorem dX4_init_4 : decode cX4_init 4 = .ok (.aload_n 0, 1) := by decide +kernel
theorem dX4_init_5 : decode cX4_init 5 = .ok (.new 7, 3) := by decide +kernel
theorem dX4_init_8 : decode cX4_init 8 = .ok (.dup, 1) := by decide +kernel
theorem dX4_init_9 : decode cX4_init 9 = .ok (.invokespecial 9, 3) := by decide +kernel
theorem dX4_init_12 : decode cX4_init 12 = .ok (.putfield 10, 3) := by decide +kernel
theorem dX4_init_15 : decode cX4_init 15 = .ok (.aload_n 0, 1) := by decide +kernel
theorem dX4_init_16 : decode cX4_init 16 = .ok (.new 7, 3) := by decide +kernel
theorem dX4_init_19 : decode cX4_init 19 = .ok (.dup, 1) := by decide +kernel
theorem dX4_init_20 : decode cX4_init 20 = .ok (.invokespecial 9, 3) := by decide +kernel
theorem dX4_init_23 : decode cX4_init 23 = .ok (.putfield 16, 3) := by decide +kernel
theorem dX4_init_26 : decode cX4_init 26 = .ok (.return_, 1) := by decide +kernel
theorem dX4_addFire_0 : decode cX4_addFire 0 = .ok (.aload_n 0, 1) := by decide +kernel
theorem dX4_addFire_1 : decode cX4_addFire 1 = .ok (.getfield 10, 3) := by decide +kernel
theorem dX4_addFire_4 : decode cX4_addFire 4 = .ok (.invokevirtual 19, 3) := by decide +kernel
theorem dX4_addFire_7 : decode cX4_addFire 7 = .ok (.istore_n 1, 1) := by decide +kernel
theorem dX4_addFire_8 : decode cX4_addFire 8 = .ok (.iload_n 1, 1) := by decide +kernel
theorem dX4_addFire_9 : decode cX4_addFire 9 = .ok (.iconst (-1), 1) := by decide +kernel
theorem dX4_addFire_10 : decode cX4_addFire 10 = .ok (.if_icmp .ne 13, 3) := by decide +kernel
theorem dX4_addFire_13 : decode cX4_addFire 13 = .ok (.new 23, 3) := by decide +kernel
theorem dX4_addFire_16 : decode cX4_addFire 16 = .ok (.dup, 1) := by decide +kernel
theorem dX4_addFire_17 : decode cX4_addFire 17 = .ok (.ldc 25, 2) := by decide +kernel
theorem dX4_addFire_19 : decode cX4_addFire 19 = .ok (.invokespecial 27, 3) := by decide +kernel
theorem dX4_addFire_22 : decode cX4_addFire 22 = .ok (.athrow, 1) := by decide +kernel
theorem dX4_addFire_23 : decode cX4_addFire 23 = .ok (.iload_n 1, 1) := by decide +kernel
theorem dX4_addFire_24 : decode cX4_addFire 24 = .ok (.ireturn, 1) := by decide +kernel
theorem dX4_layLogs_0 : decode cX4_layLogs 0 = .ok (.aload_n 0, 1) := by decide +kernel
theorem dX4_layLogs_1 : decode cX4_layLogs 1 = .ok (.iload_n 1, 1) := by decide +kernel
theorem dX4_layLogs_2 : decode cX4_layLogs 2 = .ok (.invokevirtual 30, 3) := by decide +kernel
theorem dX4_layLogs_5 : decode cX4_layLogs 5 = .ok (.astore_n 3, 1) := by decide +kernel
theorem dX4_layLogs_6 : decode cX4_layLogs 6 = .ok (.iload_n 2, 1) := by decide +kernel
theorem dX4_layLogs_7 : decode cX4_layLogs 7 = .ok (.iconst 1, 1) := by decide +kernel
theorem dX4_layLogs_8 : decode cX4_layLogs 8 = .ok (.if_icmp .lt 9, 3) := by decide +kernel
theorem dX4_layLogs_11 : decode cX4_layLogs 11 = .ok (.iload_n 2, 1) := by decide +kernel
theorem dX4_layLogs_12 : decode cX4_layLogs 12 = .ok (.bipush 40, 2) := by decide +kernel
theorem dX4_layLogs_14 : decode cX4_layLogs 14 = .ok (.if_icmp .le 13, 3) := by decide +kernel
theorem dX4_layLogs_17 : decode cX4_layLogs 17 = .ok (.new 34, 3) := by decide +kernel
theorem dX4_layLogs_20 : decode cX4_layLogs 20 = .ok (.dup, 1) := by decide +kernel
theorem dX4_layLogs_21 : decode cX4_layLogs 21 = .ok (.ldc 36, 2) := by decide +kernel
theorem dX4_layLogs_23 : decode cX4_layLogs 23 = .ok (.invokespecial 38, 3) := by decide +kernel
theorem dX4_layLogs_26 : decode cX4_layLogs 26 = .ok (.athrow, 1) := by decide +kernel
theorem dX4_layLogs_27 : decode cX4_layLogs 27 = .ok (.aload_n 3, 1) := by decide +kernel
theorem dX4_layLogs_28 : decode cX4_layLogs 28 = .ok (.bipush 40, 2) := by decide +kernel
theorem dX4_layLogs_30 : decode cX4_layLogs 30 = .ok (.aload_n 3, 1) := by decide +kernel
theorem dX4_layLogs_31 : decode cX4_layLogs 31 = .ok (.getfield 39, 3) := by decide +kernel
theorem dX4_layLogs_34 : decode cX4_layLogs 34 = .ok (.iload_n 2, 1) := by decide +kernel
theorem dX4_layLogs_35 : decode cX4_layLogs 35 = .ok (.iadd, 1) := by decide +kernel
theorem dX4_layLogs_36 : decode cX4_layLogs 36 = .ok (.invokestatic 45, 3) := by decide +kernel
theorem dX4_layLogs_39 : decode cX4_layLogs 39 = .ok (.putfield 39, 3) := by decide +kernel
theorem dX4_layLogs_42 : decode cX4_layLogs 42 = .ok (.aload_n 3, 1) := by decide +kernel
theorem dX4_layLogs_43 : decode cX4_layLogs 43 = .ok (.getfield 39, 3) := by decide +kernel
theorem dX4_layLogs_46 : decode cX4_layLogs 46 = .ok (.ireturn, 1) := by decide +kernel
theorem dX4_addSpit_0 : decode cX4_addSpit 0 = .ok (.aload_n 0, 1) := by decide +kernel
theorem dX4_addSpit_1 : decode cX4_addSpit 1 = .ok (.iload_n 1, 1) := by decide +kernel
theorem dX4_addSpit_2 : decode cX4_addSpit 2 = .ok (.invokevirtual 30, 3) := by decide +kernel
theorem dX4_addSpit_5 : decode cX4_addSpit 5 = .ok (.pop, 1) := by decide +kernel
theorem dX4_addSpit_6 : decode cX4_addSpit 6 = .ok (.iload_n 2, 1) := by decide +kernel
theorem dX4_addSpit_7 : decode cX4_addSpit 7 = .ok (.invokestatic 51, 3) := by decide +kernel
theorem dX4_addSpit_10 : decode cX4_addSpit 10 = .ok (.aload_n 0, 1) := by decide +kernel
theorem dX4_addSpit_11 : decode cX4_addSpit 11 = .ok (.getfield 10, 3) := by decide +kernel
theorem dX4_addSpit_14 : decode cX4_addSpit 14 = .ok (.iload_n 1, 1) := by decide +kernel
theorem dX4_addSpit_15 : decode cX4_addSpit 15 = .ok (.iload_n 2, 1) := by decide +kernel
theorem dX4_addSpit_16 : decode cX4_addSpit 16 = .ok (.invokevirtual 55, 3) := by decide +kernel
theorem dX4_addSpit_19 : decode cX4_addSpit 19 = .ok (.istore_n 3, 1) := by decide +kernel
theorem dX4_addSpit_20 : decode cX4_addSpit 20 = .ok (.iload_n 3, 1) := by decide +kernel
theorem dX4_addSpit_21 : decode cX4_addSpit 21 = .ok (.iconst (-1), 1) := by decide +kernel
theorem dX4_addSpit_22 : decode cX4_addSpit 22 = .ok (.if_icmp .ne 13, 3) := by decide +kernel
theorem dX4_addSpit_25 : decode cX4_addSpit 25 = .ok (.new 23, 3) := by decide +kernel
theorem dX4_addSpit_28 : decode cX4_addSpit 28 = .ok (.dup, 1) := by decide +kernel
theorem dX4_addSpit_29 : decode cX4_addSpit 29 = .ok (.ldc 58, 2) := by decide +kernel
theorem dX4_addSpit_31 : decode cX4_addSpit 31 = .ok (.invokespecial 27, 3) := by decide +kernel
theorem dX4_addSpit_34 : decode cX4_addSpit 34 = .ok (.athrow, 1) := by decide +kernel
theorem dX4_addSpit_35 : decode cX4_addSpit 35 = .ok (.iload_n 3, 1) := by decide +kernel
theorem dX4_addSpit_36 : decode cX4_addSpit 36 = .ok (.ireturn, 1) := by decide +kernel
theorem dX4_moveSpit_0 : decode cX4_moveSpit 0 = .ok (.aload_n 0, 1) := by decide +kernel
theorem dX4_moveSpit_1 : decode cX4_moveSpit 1 = .ok (.iload_n 1, 1) := by decide +kernel
theorem dX4_moveSpit_2 : decode cX4_moveSpit 2 = .ok (.invokevirtual 60, 3) := by decide +kernel
end
section
theorem dX4_moveSpit_5 : decode cX4_moveSpit 5 = .ok (.astore_n 3, 1) := by decide +kernel
theorem dX4_moveSpit_6 : decode cX4_moveSpit 6 = .ok (.iload_n 2, 1) := by decide +kernel
theorem dX4_moveSpit_7 : decode cX4_moveSpit 7 = .ok (.invokestatic 51, 3) := by decide +kernel
theorem dX4_moveSpit_10 : decode cX4_moveSpit 10 = .ok (.aload_n 3, 1) := by decide +kernel
theorem dX4_moveSpit_11 : decode cX4_moveSpit 11 = .ok (.getfield 64, 3) := by decide +kernel
theorem dX4_moveSpit_14 : decode cX4_moveSpit 14 = .ok (.istore 4, 2) := by decide +kernel
theorem dX4_moveSpit_16 : decode cX4_moveSpit 16 = .ok (.aload_n 3, 1) := by decide +kernel
theorem dX4_moveSpit_17 : decode cX4_moveSpit 17 = .ok (.iload_n 2, 1) := by decide +kernel
theorem dX4_moveSpit_18 : decode cX4_moveSpit 18 = .ok (.putfield 64, 3) := by decide +kernel
theorem dX4_moveSpit_21 : decode cX4_moveSpit 21 = .ok (.iload 4, 2) := by decide +kernel
theorem dX4_moveSpit_23 : decode cX4_moveSpit 23 = .ok (.ireturn, 1) := by decide +kernel
theorem dX4_turnEach_0 : decode cX4_turnEach 0 = .ok (.aload_n 0, 1) := by decide +kernel
theorem dX4_turnEach_1 : decode cX4_turnEach 1 = .ok (.iload_n 1, 1) := by decide +kernel
theorem dX4_turnEach_2 : decode cX4_turnEach 2 = .ok (.invokevirtual 60, 3) := by decide +kernel
theorem dX4_turnEach_5 : decode cX4_turnEach 5 = .ok (.astore_n 3, 1) := by decide +kernel
theorem dX4_turnEach_6 : decode cX4_turnEach 6 = .ok (.iload_n 2, 1) := by decide +kernel
theorem dX4_turnEach_7 : decode cX4_turnEach 7 = .ok (.ifCond .lt 9, 3) := by decide +kernel
theorem dX4_turnEach_10 : decode cX4_turnEach 10 = .ok (.iload_n 2, 1) := by decide +kernel
theorem dX4_turnEach_11 : decode cX4_turnEach 11 = .ok (.bipush 9, 2) := by decide +kernel
theorem dX4_turnEach_13 : decode cX4_turnEach 13 = .ok (.if_icmp .le 13, 3) := by decide +kernel
theorem dX4_turnEach_16 : decode cX4_turnEach 16 = .ok (.new 34, 3) := by decide +kernel
theorem dX4_turnEach_19 : decode cX4_turnEach 19 = .ok (.dup, 1) := by decide +kernel
theorem dX4_turnEach_20 : decode cX4_turnEach 20 = .ok (.ldc 69, 2) := by decide +kernel
theorem dX4_turnEach_22 : decode cX4_turnEach 22 = .ok (.invokespecial 38, 3) := by decide +kernel
theorem dX4_turnEach_25 : decode cX4_turnEach 25 = .ok (.athrow, 1) := by decide +kernel
theorem dX4_turnEach_26 : decode cX4_turnEach 26 = .ok (.aload_n 3, 1) := by decide +kernel
theorem dX4_turnEach_27 : decode cX4_turnEach 27 = .ok (.getfield 71, 3) := by decide +kernel
theorem dX4_turnEach_30 : decode cX4_turnEach 30 = .ok (.istore 4, 2) := by decide +kernel
theorem dX4_turnEach_32 : decode cX4_turnEach 32 = .ok (.aload_n 3, 1) := by decide +kernel
theorem dX4_turnEach_33 : decode cX4_turnEach 33 = .ok (.iload_n 2, 1) := by decide +kernel
theorem dX4_turnEach_34 : decode cX4_turnEach 34 = .ok (.invokevirtual 74, 3) := by decide +kernel
theorem dX4_turnEach_37 : decode cX4_turnEach 37 = .ok (.iload 4, 2) := by decide +kernel
theorem dX4_turnEach_39 : decode cX4_turnEach 39 = .ok (.ireturn, 1) := by decide +kernel
theorem dX4_setFeast_0 : decode cX4_setFeast 0 = .ok (.iload_n 1, 1) := by decide +kernel
theorem dX4_setFeast_1 : decode cX4_setFeast 1 = .ok (.ifCond .lt 10, 3) := by decide +kernel
theorem dX4_setFeast_4 : decode cX4_setFeast 4 = .ok (.iload_n 1, 1) := by decide +kernel
theorem dX4_setFeast_5 : decode cX4_setFeast 5 = .ok (.sipush 5000, 3) := by decide +kernel
theorem dX4_setFeast_8 : decode cX4_setFeast 8 = .ok (.if_icmp .le 13, 3) := by decide +kernel
theorem dX4_setFeast_11 : decode cX4_setFeast 11 = .ok (.new 34, 3) := by decide +kernel
theorem dX4_setFeast_14 : decode cX4_setFeast 14 = .ok (.dup, 1) := by decide +kernel
theorem dX4_setFeast_15 : decode cX4_setFeast 15 = .ok (.ldc 77, 2) := by decide +kernel
theorem dX4_setFeast_17 : decode cX4_setFeast 17 = .ok (.invokespecial 38, 3) := by decide +kernel
theorem dX4_setFeast_20 : decode cX4_setFeast 20 = .ok (.athrow, 1) := by decide +kernel
theorem dX4_setFeast_21 : decode cX4_setFeast 21 = .ok (.aload_n 0, 1) := by decide +kernel
theorem dX4_setFeast_22 : decode cX4_setFeast 22 = .ok (.getfield 10, 3) := by decide +kernel
theorem dX4_setFeast_25 : decode cX4_setFeast 25 = .ok (.getfield 79, 3) := by decide +kernel
theorem dX4_setFeast_28 : decode cX4_setFeast 28 = .ok (.istore_n 2, 1) := by decide +kernel
theorem dX4_setFeast_29 : decode cX4_setFeast 29 = .ok (.aload_n 0, 1) := by decide +kernel
theorem dX4_setFeast_30 : decode cX4_setFeast 30 = .ok (.getfield 10, 3) := by decide +kernel
theorem dX4_setFeast_33 : decode cX4_setFeast 33 = .ok (.iload_n 1, 1) := by decide +kernel
theorem dX4_setFeast_34 : decode cX4_setFeast 34 = .ok (.putfield 79, 3) := by decide +kernel
theorem dX4_setFeast_37 : decode cX4_setFeast 37 = .ok (.iload_n 2, 1) := by decide +kernel
theorem dX4_setFeast_38 : decode cX4_setFeast 38 = .ok (.ireturn, 1) := by decide +kernel
theorem dX4_hang_0 : decode cX4_hang 0 = .ok (.aload_n 0, 1) := by decide +kernel
theorem dX4_hang_1 : decode cX4_hang 1 = .ok (.iload_n 1, 1) := by decide +kernel
theorem dX4_hang_2 : decode cX4_hang 2 = .ok (.invokevirtual 60, 3) := by decide +kernel
theorem dX4_hang_5 : decode cX4_hang 5 = .ok (.pop, 1) := by decide +kernel
theorem dX4_hang_6 : decode cX4_hang 6 = .ok (.iload_n 2, 1) := by decide +kernel
theorem dX4_hang_7 : decode cX4_hang 7 = .ok (.invokestatic 82, 3) := by decide +kernel
theorem dX4_hang_10 : decode cX4_hang 10 = .ok (.aload_n 0, 1) := by decide +kernel
theorem dX4_hang_11 : decode cX4_hang 11 = .ok (.getfield 10, 3) := by decide +kernel
theorem dX4_hang_14 : decode cX4_hang 14 = .ok (.iload_n 1, 1) := by decide +kernel
theorem dX4_hang_15 : decode cX4_hang 15 = .ok (.iload_n 2, 1) := by decide +kernel
theorem dX4_hang_16 : decode cX4_hang 16 = .ok (.invokevirtual 85, 3) := by decide +kernel
theorem dX4_hang_19 : decode cX4_hang 19 = .ok (.istore_n 3, 1) := by decide +kernel
theorem dX4_hang_20 : decode cX4_hang 20 = .ok (.iload_n 3, 1) := by decide +kernel
theorem dX4_hang_21 : decode cX4_hang 21 = .ok (.iconst (-1), 1) := by decide +kernel
theorem dX4_hang_22 : decode cX4_hang 22 = .ok (.if_icmp .ne 13, 3) := by decide +kernel
theorem dX4_hang_25 : decode cX4_hang 25 = .ok (.new 23, 3) := by decide +kernel
theorem dX4_hang_28 : decode cX4_hang 28 = .ok (.dup, 1) := by decide +kernel
theorem dX4_hang_29 : decode cX4_hang 29 = .ok (.ldc 88, 2) := by decide +kernel
theorem dX4_hang_31 : decode cX4_hang 31 = .ok (.invokespecial 27, 3) := by decide +kernel
theorem dX4_hang_34 : decode cX4_hang 34 = .ok (.athrow, 1) := by decide +kernel
theorem dX4_hang_35 : decode cX4_hang 35 = .ok (.iload_n 3, 1) := by decide +kernel
theorem dX4_hang_36 : decode cX4_hang 36 = .ok (.ireturn, 1) := by decide +kernel
theorem dX4_turnNow_0 : decode cX4_turnNow 0 = .ok (.aload_n 0, 1) := by decide +kernel
theorem dX4_turnNow_1 : decode cX4_turnNow 1 = .ok (.aload_n 0, 1) := by decide +kernel
theorem dX4_turnNow_2 : decode cX4_turnNow 2 = .ok (.iload_n 1, 1) := by decide +kernel
theorem dX4_turnNow_3 : decode cX4_turnNow 3 = .ok (.invokevirtual 60, 3) := by decide +kernel
theorem dX4_turnNow_6 : decode cX4_turnNow 6 = .ok (.invokevirtual 90, 3) := by decide +kernel
theorem dX4_turnNow_9 : decode cX4_turnNow 9 = .ok (.astore_n 2, 1) := by decide +kernel
theorem dX4_turnNow_10 : decode cX4_turnNow 10 = .ok (.aload_n 2, 1) := by decide +kernel
theorem dX4_turnNow_11 : decode cX4_turnNow 11 = .ok (.invokevirtual 94, 3) := by decide +kernel
theorem dX4_turnNow_14 : decode cX4_turnNow 14 = .ok (.aload_n 2, 1) := by decide +kernel
theorem dX4_turnNow_15 : decode cX4_turnNow 15 = .ok (.getfield 99, 3) := by decide +kernel
theorem dX4_turnNow_18 : decode cX4_turnNow 18 = .ok (.ireturn, 1) := by decide +kernel
theorem dX4_baste_0 : decode cX4_baste 0 = .ok (.aload_n 0, 1) := by decide +kernel
theorem dX4_baste_1 : decode cX4_baste 1 = .ok (.iload_n 1, 1) := by decide +kernel
theorem dX4_baste_2 : decode cX4_baste 2 = .ok (.invokevirtual 60, 3) := by decide +kernel
theorem dX4_baste_5 : decode cX4_baste 5 = .ok (.astore_n 2, 1) := by decide +kernel
theorem dX4_baste_6 : decode cX4_baste 6 = .ok (.aload_n 0, 1) := by decide +kernel
theorem dX4_baste_7 : decode cX4_baste 7 = .ok (.aload_n 2, 1) := by decide +kernel
theorem dX4_baste_8 : decode cX4_baste 8 = .ok (.invokevirtual 90, 3) := by decide +kernel
theorem dX4_baste_11 : decode cX4_baste 11 = .ok (.astore_n 3, 1) := by decide +kernel
theorem dX4_baste_12 : decode cX4_baste 12 = .ok (.aload_n 2, 1) := by decide +kernel
theorem dX4_baste_13 : decode cX4_baste 13 = .ok (.getfield 102, 3) := by decide +kernel
theorem dX4_baste_16 : decode cX4_baste 16 = .ok (.iconst 2, 1) := by decide +kernel
theorem dX4_baste_17 : decode cX4_baste 17 = .ok (.if_icmp .ge 13, 3) := by decide +kernel
theorem dX4_baste_20 : decode cX4_baste 20 = .ok (.new 23, 3) := by decide +kernel
theorem dX4_baste_23 : decode cX4_baste 23 = .ok (.dup, 1) := by decide +kernel
theorem dX4_baste_24 : decode cX4_baste 24 = .ok (.ldc 105, 2) := by decide +kernel
theorem dX4_baste_26 : decode cX4_baste 26 = .ok (.invokespecial 27, 3) := by decide +kernel
theorem dX4_baste_29 : decode cX4_baste 29 = .ok (.athrow, 1) := by decide +kernel
theorem dX4_baste_30 : decode cX4_baste 30 = .ok (.aload_n 2, 1) := by decide +kernel
theorem dX4_baste_31 : decode cX4_baste 31 = .ok (.dup, 1) := by decide +kernel
theorem dX4_baste_32 : decode cX4_baste 32 = .ok (.getfield 102, 3) := by decide +kernel
theorem dX4_baste_35 : decode cX4_baste 35 = .ok (.iconst 2, 1) := by decide +kernel
theorem dX4_baste_36 : decode cX4_baste 36 = .ok (.isub, 1) := by decide +kernel
theorem dX4_baste_37 : decode cX4_baste 37 = .ok (.putfield 102, 3) := by decide +kernel
theorem dX4_baste_40 : decode cX4_baste 40 = .ok (.aload_n 3, 1) := by decide +kernel
theorem dX4_baste_41 : decode cX4_baste 41 = .ok (.iconst 3, 1) := by decide +kernel
theorem dX4_baste_42 : decode cX4_baste 42 = .ok (.putfield 107, 3) := by decide +kernel
theorem dX4_baste_45 : decode cX4_baste 45 = .ok (.aload_n 2, 1) := by decide +kernel
theorem dX4_baste_46 : decode cX4_baste 46 = .ok (.getfield 102, 3) := by decide +kernel
theorem dX4_baste_49 : decode cX4_baste 49 = .ok (.ireturn, 1) := by decide +kernel
theorem dX4_takeDown_0 : decode cX4_takeDown 0 = .ok (.aload_n 0, 1) := by decide +kernel
theorem dX4_takeDown_1 : decode cX4_takeDown 1 = .ok (.iload_n 1, 1) := by decide +kernel
theorem dX4_takeDown_2 : decode cX4_takeDown 2 = .ok (.invokevirtual 60, 3) := by decide +kernel
theorem dX4_takeDown_5 : decode cX4_takeDown 5 = .ok (.astore_n 2, 1) := by decide +kernel
theorem dX4_takeDown_6 : decode cX4_takeDown 6 = .ok (.aload_n 0, 1) := by decide +kernel
theorem dX4_takeDown_7 : decode cX4_takeDown 7 = .ok (.aload_n 2, 1) := by decide +kernel
theorem dX4_takeDown_8 : decode cX4_takeDown 8 = .ok (.invokevirtual 90, 3) := by decide +kernel
theorem dX4_takeDown_11 : decode cX4_takeDown 11 = .ok (.astore_n 3, 1) := by decide +kernel
theorem dX4_takeDown_12 : decode cX4_takeDown 12 = .ok (.aload_n 2, 1) := by decide +kernel
theorem dX4_takeDown_13 : decode cX4_takeDown 13 = .ok (.getfield 110, 3) := by decide +kernel
theorem dX4_takeDown_16 : decode cX4_takeDown 16 = .ok (.istore 4, 2) := by decide +kernel
theorem dX4_takeDown_18 : decode cX4_takeDown 18 = .ok (.aload_n 3, 1) := by decide +kernel
theorem dX4_takeDown_19 : decode cX4_takeDown 19 = .ok (.iconst (-1), 1) := by decide +kernel
theorem dX4_takeDown_20 : decode cX4_takeDown 20 = .ok (.putfield 113, 3) := by decide +kernel
theorem dX4_takeDown_23 : decode cX4_takeDown 23 = .ok (.aload_n 2, 1) := by decide +kernel
theorem dX4_takeDown_24 : decode cX4_takeDown 24 = .ok (.iconst (-1), 1) := by decide +kernel
theorem dX4_takeDown_25 : decode cX4_takeDown 25 = .ok (.putfield 110, 3) := by decide +kernel
theorem dX4_takeDown_28 : decode cX4_takeDown 28 = .ok (.iload 4, 2) := by decide +kernel
theorem dX4_takeDown_30 : decode cX4_takeDown 30 = .ok (.ireturn, 1) := by decide +kernel
theorem dX4_emptyPan_0 : decode cX4_emptyPan 0 = .ok (.aload_n 0, 1) := by decide +kernel
theorem dX4_emptyPan_1 : decode cX4_emptyPan 1 = .ok (.iload_n 1, 1) := by decide +kernel
theorem dX4_emptyPan_2 : decode cX4_emptyPan 2 = .ok (.invokevirtual 60, 3) := by decide +kernel
theorem dX4_emptyPan_5 : decode cX4_emptyPan 5 = .ok (.astore_n 2, 1) := by decide +kernel
theorem dX4_emptyPan_6 : decode cX4_emptyPan 6 = .ok (.aload_n 2, 1) := by decide +kernel
theorem dX4_emptyPan_7 : decode cX4_emptyPan 7 = .ok (.getfield 102, 3) := by decide +kernel
theorem dX4_emptyPan_10 : decode cX4_emptyPan 10 = .ok (.istore_n 3, 1) := by decide +kernel
theorem dX4_emptyPan_11 : decode cX4_emptyPan 11 = .ok (.aload_n 2, 1) := by decide +kernel
theorem dX4_emptyPan_12 : decode cX4_emptyPan 12 = .ok (.iconst 0, 1) := by decide +kernel
theorem dX4_emptyPan_13 : decode cX4_emptyPan 13 = .ok (.putfield 102, 3) := by decide +kernel
theorem dX4_emptyPan_16 : decode cX4_emptyPan 16 = .ok (.iload_n 3, 1) := by decide +kernel
theorem dX4_emptyPan_17 : decode cX4_emptyPan 17 = .ok (.ireturn, 1) := by decide +kernel
theorem dX4_pass_0 : decode cX4_pass 0 = .ok (.iload_n 1, 1) := by decide +kernel
theorem dX4_pass_1 : decode cX4_pass 1 = .ok (.iconst 1, 1) := by decide +kernel
theorem dX4_pass_2 : decode cX4_pass 2 = .ok (.if_icmp .lt 10, 3) := by decide +kernel
theorem dX4_pass_5 : decode cX4_pass 5 = .ok (.iload_n 1, 1) := by decide +kernel
theorem dX4_pass_6 : decode cX4_pass 6 = .ok (.sipush 200, 3) := by decide +kernel
theorem dX4_pass_9 : decode cX4_pass 9 = .ok (.if_icmp .le 13, 3) := by decide +kernel
theorem dX4_pass_12 : decode cX4_pass 12 = .ok (.new 34, 3) := by decide +kernel
theorem dX4_pass_15 : decode cX4_pass 15 = .ok (.dup, 1) := by decide +kernel
theorem dX4_pass_16 : decode cX4_pass 16 = .ok (.ldc 116, 2) := by decide +kernel
theorem dX4_pass_18 : decode cX4_pass 18 = .ok (.invokespecial 38, 3) := by decide +kernel
theorem dX4_pass_21 : decode cX4_pass 21 = .ok (.athrow, 1) := by decide +kernel
theorem dX4_pass_22 : decode cX4_pass 22 = .ok (.aload_n 0, 1) := by decide +kernel
theorem dX4_pass_23 : decode cX4_pass 23 = .ok (.getfield 10, 3) := by decide +kernel
theorem dX4_pass_26 : decode cX4_pass 26 = .ok (.iload_n 1, 1) := by decide +kernel
theorem dX4_pass_27 : decode cX4_pass 27 = .ok (.invokevirtual 118, 3) := by decide +kernel
theorem dX4_pass_30 : decode cX4_pass 30 = .ok (.ireturn, 1) := by decide +kernel
theorem dX4_minute_0 : decode cX4_minute 0 = .ok (.aload_n 0, 1) := by decide +kernel
theorem dX4_minute_1 : decode cX4_minute 1 = .ok (.getfield 10, 3) := by decide +kernel
theorem dX4_minute_4 : decode cX4_minute 4 = .ok (.getfield 122, 3) := by decide +kernel
theorem dX4_minute_7 : decode cX4_minute 7 = .ok (.ireturn, 1) := by decide +kernel
theorem dX4_feast_0 : decode cX4_feast 0 = .ok (.aload_n 0, 1) := by decide +kernel
theorem dX4_feast_1 : decode cX4_feast 1 = .ok (.getfield 10, 3) := by decide +kernel
theorem dX4_feast_4 : decode cX4_feast 4 = .ok (.getfield 79, 3) := by decide +kernel
theorem dX4_feast_7 : decode cX4_feast 7 = .ok (.ireturn, 1) := by decide +kernel
theorem dX4_fires_0 : decode cX4_fires 0 = .ok (.aload_n 0, 1) := by decide +kernel
theorem dX4_fires_1 : decode cX4_fires 1 = .ok (.getfield 10, 3) := by decide +kernel
theorem dX4_fires_4 : decode cX4_fires 4 = .ok (.getfield 125, 3) := by decide +kernel
theorem dX4_fires_7 : decode cX4_fires 7 = .ok (.ireturn, 1) := by decide +kernel
theorem dX4_logsOf_0 : decode cX4_logsOf 0 = .ok (.aload_n 0, 1) := by decide +kernel
theorem dX4_logsOf_1 : decode cX4_logsOf 1 = .ok (.iload_n 1, 1) := by decide +kernel
theorem dX4_logsOf_2 : decode cX4_logsOf 2 = .ok (.invokevirtual 30, 3) := by decide +kernel
theorem dX4_logsOf_5 : decode cX4_logsOf 5 = .ok (.getfield 39, 3) := by decide +kernel
theorem dX4_logsOf_8 : decode cX4_logsOf 8 = .ok (.ireturn, 1) := by decide +kernel
theorem dX4_heatOf_0 : decode cX4_heatOf 0 = .ok (.aload_n 0, 1) := by decide +kernel
theorem dX4_heatOf_1 : decode cX4_heatOf 1 = .ok (.iload_n 1, 1) := by decide +kernel
theorem dX4_heatOf_2 : decode cX4_heatOf 2 = .ok (.invokevirtual 30, 3) := by decide +kernel
theorem dX4_heatOf_5 : decode cX4_heatOf 5 = .ok (.getfield 128, 3) := by decide +kernel
theorem dX4_heatOf_8 : decode cX4_heatOf 8 = .ok (.ireturn, 1) := by decide +kernel
theorem dX4_spits_0 : decode cX4_spits 0 = .ok (.aload_n 0, 1) := by decide +kernel
theorem dX4_spits_1 : decode cX4_spits 1 = .ok (.getfield 10, 3) := by decide +kernel
theorem dX4_spits_4 : decode cX4_spits 4 = .ok (.getfield 131, 3) := by decide +kernel
theorem dX4_spits_7 : decode cX4_spits 7 = .ok (.ireturn, 1) := by decide +kernel
theorem dX4_fireOf_0 : decode cX4_fireOf 0 = .ok (.aload_n 0, 1) := by decide +kernel
theorem dX4_fireOf_1 : decode cX4_fireOf 1 = .ok (.iload_n 1, 1) := by decide +kernel
theorem dX4_fireOf_2 : decode cX4_fireOf 2 = .ok (.invokevirtual 60, 3) := by decide +kernel
theorem dX4_fireOf_5 : decode cX4_fireOf 5 = .ok (.getfield 134, 3) := by decide +kernel
theorem dX4_fireOf_8 : decode cX4_fireOf 8 = .ok (.ireturn, 1) := by decide +kernel
theorem dX4_feetOf_0 : decode cX4_feetOf 0 = .ok (.aload_n 0, 1) := by decide +kernel
theorem dX4_feetOf_1 : decode cX4_feetOf 1 = .ok (.iload_n 1, 1) := by decide +kernel
theorem dX4_feetOf_2 : decode cX4_feetOf 2 = .ok (.invokevirtual 60, 3) := by decide +kernel
theorem dX4_feetOf_5 : decode cX4_feetOf 5 = .ok (.getfield 64, 3) := by decide +kernel
theorem dX4_feetOf_8 : decode cX4_feetOf 8 = .ok (.ireturn, 1) := by decide +kernel
theorem dX4_glowAt_0 : decode cX4_glowAt 0 = .ok (.aload_n 0, 1) := by decide +kernel
theorem dX4_glowAt_1 : decode cX4_glowAt 1 = .ok (.getfield 10, 3) := by decide +kernel
theorem dX4_glowAt_4 : decode cX4_glowAt 4 = .ok (.aload_n 0, 1) := by decide +kernel
theorem dX4_glowAt_5 : decode cX4_glowAt 5 = .ok (.iload_n 1, 1) := by decide +kernel
theorem dX4_glowAt_6 : decode cX4_glowAt 6 = .ok (.invokevirtual 60, 3) := by decide +kernel
theorem dX4_glowAt_9 : decode cX4_glowAt 9 = .ok (.invokevirtual 137, 3) := by decide +kernel
theorem dX4_glowAt_12 : decode cX4_glowAt 12 = .ok (.ireturn, 1) := by decide +kernel
theorem dX4_turnedEach_0 : decode cX4_turnedEach 0 = .ok (.aload_n 0, 1) := by decide +kernel
theorem dX4_turnedEach_1 : decode cX4_turnedEach 1 = .ok (.iload_n 1, 1) := by decide +kernel
theorem dX4_turnedEach_2 : decode cX4_turnedEach 2 = .ok (.invokevirtual 60, 3) := by decide +kernel
theorem dX4_turnedEach_5 : decode cX4_turnedEach 5 = .ok (.getfield 71, 3) := by decide +kernel
theorem dX4_turnedEach_8 : decode cX4_turnedEach 8 = .ok (.ireturn, 1) := by decide +kernel
theorem dX4_drippingsOf_0 : decode cX4_drippingsOf 0 = .ok (.aload_n 0, 1) := by decide +kernel
theorem dX4_drippingsOf_1 : decode cX4_drippingsOf 1 = .ok (.iload_n 1, 1) := by decide +kernel
theorem dX4_drippingsOf_2 : decode cX4_drippingsOf 2 = .ok (.invokevirtual 60, 3) := by decide +kernel
theorem dX4_drippingsOf_5 : decode cX4_drippingsOf 5 = .ok (.getfield 102, 3) := by decide +kernel
theorem dX4_drippingsOf_8 : decode cX4_drippingsOf 8 = .ok (.ireturn, 1) := by decide +kernel
theorem dX4_roastOn_0 : decode cX4_roastOn 0 = .ok (.aload_n 0, 1) := by decide +kernel
theorem dX4_roastOn_1 : decode cX4_roastOn 1 = .ok (.iload_n 1, 1) := by decide +kernel
theorem dX4_roastOn_2 : decode cX4_roastOn 2 = .ok (.invokevirtual 60, 3) := by decide +kernel
theorem dX4_roastOn_5 : decode cX4_roastOn 5 = .ok (.getfield 110, 3) := by decide +kernel
theorem dX4_roastOn_8 : decode cX4_roastOn 8 = .ok (.ireturn, 1) := by decide +kernel
theorem dX4_roasts_0 : decode cX4_roasts 0 = .ok (.aload_n 0, 1) := by decide +kernel
theorem dX4_roasts_1 : decode cX4_roasts 1 = .ok (.getfield 10, 3) := by decide +kernel
theorem dX4_roasts_4 : decode cX4_roasts 4 = .ok (.getfield 141, 3) := by decide +kernel
theorem dX4_roasts_7 : decode cX4_roasts 7 = .ok (.ireturn, 1) := by decide +kernel
theorem dX4_poundsOf_0 : decode cX4_poundsOf 0 = .ok (.aload_n 0, 1) := by decide +kernel
theorem dX4_poundsOf_1 : decode cX4_poundsOf 1 = .ok (.iload_n 1, 1) := by decide +kernel
theorem dX4_poundsOf_2 : decode cX4_poundsOf 2 = .ok (.invokevirtual 144, 3) := by decide +kernel
theorem dX4_poundsOf_5 : decode cX4_poundsOf 5 = .ok (.getfield 148, 3) := by decide +kernel
theorem dX4_poundsOf_8 : decode cX4_poundsOf 8 = .ok (.ireturn, 1) := by decide +kernel
theorem dX4_spitOf_0 : decode cX4_spitOf 0 = .ok (.aload_n 0, 1) := by decide +kernel
theorem dX4_spitOf_1 : decode cX4_spitOf 1 = .ok (.iload_n 1, 1) := by decide +kernel
theorem dX4_spitOf_2 : decode cX4_spitOf 2 = .ok (.invokevirtual 144, 3) := by decide +kernel
theorem dX4_spitOf_5 : decode cX4_spitOf 5 = .ok (.getfield 113, 3) := by decide +kernel
theorem dX4_spitOf_8 : decode cX4_spitOf 8 = .ok (.ireturn, 1) := by decide +kernel
theorem dX4_sideToFire_0 : decode cX4_sideToFire 0 = .ok (.aload_n 0, 1) := by decide +kernel
theorem dX4_sideToFire_1 : decode cX4_sideToFire 1 = .ok (.iload_n 1, 1) := by decide +kernel
theorem dX4_sideToFire_2 : decode cX4_sideToFire 2 = .ok (.invokevirtual 144, 3) := by decide +kernel
theorem dX4_sideToFire_5 : decode cX4_sideToFire 5 = .ok (.getfield 99, 3) := by decide +kernel
theorem dX4_sideToFire_8 : decode cX4_sideToFire 8 = .ok (.ireturn, 1) := by decide +kernel
theorem dX4_brownOf_0 : decode cX4_brownOf 0 = .ok (.aload_n 0, 1) := by decide +kernel
theorem dX4_brownOf_1 : decode cX4_brownOf 1 = .ok (.iload_n 1, 1) := by decide +kernel
theorem dX4_brownOf_2 : decode cX4_brownOf 2 = .ok (.invokevirtual 144, 3) := by decide +kernel
theorem dX4_brownOf_5 : decode cX4_brownOf 5 = .ok (.astore_n 3, 1) := by decide +kernel
theorem dX4_brownOf_6 : decode cX4_brownOf 6 = .ok (.iload_n 2, 1) := by decide +kernel
theorem dX4_brownOf_7 : decode cX4_brownOf 7 = .ok (.ifCond .lt 12, 3) := by decide +kernel
theorem dX4_brownOf_10 : decode cX4_brownOf 10 = .ok (.iload_n 2, 1) := by decide +kernel
theorem dX4_brownOf_11 : decode cX4_brownOf 11 = .ok (.aload_n 3, 1) := by decide +kernel
theorem dX4_brownOf_12 : decode cX4_brownOf 12 = .ok (.getfield 151, 3) := by decide +kernel
theorem dX4_brownOf_15 : decode cX4_brownOf 15 = .ok (.arraylength, 1) := by decide +kernel
theorem dX4_brownOf_16 : decode cX4_brownOf 16 = .ok (.if_icmp .lt 13, 3) := by decide +kernel
theorem dX4_brownOf_19 : decode cX4_brownOf 19 = .ok (.new 155, 3) := by decide +kernel
theorem dX4_brownOf_22 : decode cX4_brownOf 22 = .ok (.dup, 1) := by decide +kernel
theorem dX4_brownOf_23 : decode cX4_brownOf 23 = .ok (.ldc 157, 2) := by decide +kernel
theorem dX4_brownOf_25 : decode cX4_brownOf 25 = .ok (.invokespecial 159, 3) := by decide +kernel
theorem dX4_brownOf_28 : decode cX4_brownOf 28 = .ok (.athrow, 1) := by decide +kernel
theorem dX4_brownOf_29 : decode cX4_brownOf 29 = .ok (.aload_n 3, 1) := by decide +kernel
theorem dX4_brownOf_30 : decode cX4_brownOf 30 = .ok (.getfield 151, 3) := by decide +kernel
theorem dX4_brownOf_33 : decode cX4_brownOf 33 = .ok (.iload_n 2, 1) := by decide +kernel
theorem dX4_brownOf_34 : decode cX4_brownOf 34 = .ok (.iaload, 1) := by decide +kernel
theorem dX4_brownOf_35 : decode cX4_brownOf 35 = .ok (.ireturn, 1) := by decide +kernel
theorem dX4_fatOf_0 : decode cX4_fatOf 0 = .ok (.aload_n 0, 1) := by decide +kernel
theorem dX4_fatOf_1 : decode cX4_fatOf 1 = .ok (.iload_n 1, 1) := by decide +kernel
theorem dX4_fatOf_2 : decode cX4_fatOf 2 = .ok (.invokevirtual 144, 3) := by decide +kernel
theorem dX4_fatOf_5 : decode cX4_fatOf 5 = .ok (.getfield 160, 3) := by decide +kernel
theorem dX4_fatOf_8 : decode cX4_fatOf 8 = .ok (.ireturn, 1) := by decide +kernel
theorem dX4_wetFor_0 : decode cX4_wetFor 0 = .ok (.aload_n 0, 1) := by decide +kernel
theorem dX4_wetFor_1 : decode cX4_wetFor 1 = .ok (.iload_n 1, 1) := by decide +kernel
theorem dX4_wetFor_2 : decode cX4_wetFor 2 = .ok (.invokevirtual 144, 3) := by decide +kernel
theorem dX4_wetFor_5 : decode cX4_wetFor 5 = .ok (.getfield 107, 3) := by decide +kernel
theorem dX4_wetFor_8 : decode cX4_wetFor 8 = .ok (.ireturn, 1) := by decide +kernel
theorem dX4_isDone_0 : decode cX4_isDone 0 = .ok (.aload_n 0, 1) := by decide +kernel
theorem dX4_isDone_1 : decode cX4_isDone 1 = .ok (.iload_n 1, 1) := by decide +kernel
theorem dX4_isDone_2 : decode cX4_isDone 2 = .ok (.invokevirtual 144, 3) := by decide +kernel
theorem dX4_isDone_5 : decode cX4_isDone 5 = .ok (.invokevirtual 163, 3) := by decide +kernel
theorem dX4_isDone_8 : decode cX4_isDone 8 = .ok (.ireturn, 1) := by decide +kernel
theorem dX4_isBurnt_0 : decode cX4_isBurnt 0 = .ok (.aload_n 0, 1) := by decide +kernel
theorem dX4_isBurnt_1 : decode cX4_isBurnt 1 = .ok (.iload_n 1, 1) := by decide +kernel
theorem dX4_isBurnt_2 : decode cX4_isBurnt 2 = .ok (.invokevirtual 144, 3) := by decide +kernel
theorem dX4_isBurnt_5 : decode cX4_isBurnt 5 = .ok (.invokevirtual 167, 3) := by decide +kernel
theorem dX4_isBurnt_8 : decode cX4_isBurnt 8 = .ok (.ireturn, 1) := by decide +kernel
theorem dX4_meanBrown_0 : decode cX4_meanBrown 0 = .ok (.aload_n 0, 1) := by decide +kernel
theorem dX4_meanBrown_1 : decode cX4_meanBrown 1 = .ok (.getfield 10, 3) := by decide +kernel
theorem dX4_meanBrown_4 : decode cX4_meanBrown 4 = .ok (.getfield 141, 3) := by decide +kernel
theorem dX4_meanBrown_7 : decode cX4_meanBrown 7 = .ok (.iconst 4, 1) := by decide +kernel
theorem dX4_meanBrown_8 : decode cX4_meanBrown 8 = .ok (.imul, 1) := by decide +kernel
theorem dX4_meanBrown_9 : decode cX4_meanBrown 9 = .ok (.istore_n 1, 1) := by decide +kernel
theorem dX4_meanBrown_10 : decode cX4_meanBrown 10 = .ok (.iload_n 1, 1) := by decide +kernel
theorem dX4_meanBrown_11 : decode cX4_meanBrown 11 = .ok (.ifCond .gt 5, 3) := by decide +kernel
theorem dX4_meanBrown_14 : decode cX4_meanBrown 14 = .ok (.dconst 0, 1) := by decide +kernel
theorem dX4_meanBrown_15 : decode cX4_meanBrown 15 = .ok (.dreturn, 1) := by decide +kernel
theorem dX4_meanBrown_16 : decode cX4_meanBrown 16 = .ok (.aload_n 0, 1) := by decide +kernel
theorem dX4_meanBrown_17 : decode cX4_meanBrown 17 = .ok (.getfield 10, 3) := by decide +kernel
theorem dX4_meanBrown_20 : decode cX4_meanBrown 20 = .ok (.invokevirtual 191, 3) := by decide +kernel
theorem dX4_meanBrown_23 : decode cX4_meanBrown 23 = .ok (.i2d, 1) := by decide +kernel
theorem dX4_meanBrown_24 : decode cX4_meanBrown 24 = .ok (.iload_n 1, 1) := by decide +kernel
theorem dX4_meanBrown_25 : decode cX4_meanBrown 25 = .ok (.i2d, 1) := by decide +kernel
theorem dX4_meanBrown_26 : decode cX4_meanBrown 26 = .ok (.ddiv, 1) := by decide +kernel
theorem dX4_meanBrown_27 : decode cX4_meanBrown 27 = .ok (.dreturn, 1) := by decide +kernel
theorem dX4_needFire_0 : decode cX4_needFire 0 = .ok (.aload_n 0, 1) := by decide +kernel
theorem dX4_needFire_1 : decode cX4_needFire 1 = .ok (.getfield 10, 3) := by decide +kernel
theorem dX4_needFire_4 : decode cX4_needFire 4 = .ok (.iload_n 1, 1) := by decide +kernel
theorem dX4_needFire_5 : decode cX4_needFire 5 = .ok (.invokevirtual 210, 3) := by decide +kernel
theorem dX4_needFire_8 : decode cX4_needFire 8 = .ok (.astore_n 2, 1) := by decide +kernel
theorem dX4_needFire_9 : decode cX4_needFire 9 = .ok (.aload_n 2, 1) := by decide +kernel
theorem dX4_needFire_10 : decode cX4_needFire 10 = .ok (.ifnonnull 13, 3) := by decide +kernel
theorem dX4_needFire_13 : decode cX4_needFire 13 = .ok (.new 155, 3) := by decide +kernel
theorem dX4_needFire_16 : decode cX4_needFire 16 = .ok (.dup, 1) := by decide +kernel
theorem dX4_needFire_17 : decode cX4_needFire 17 = .ok (.ldc 213, 2) := by decide +kernel
theorem dX4_needFire_19 : decode cX4_needFire 19 = .ok (.invokespecial 159, 3) := by decide +kernel
theorem dX4_needFire_22 : decode cX4_needFire 22 = .ok (.athrow, 1) := by decide +kernel
theorem dX4_needFire_23 : decode cX4_needFire 23 = .ok (.aload_n 2, 1) := by decide +kernel
theorem dX4_needFire_24 : decode cX4_needFire 24 = .ok (.areturn, 1) := by decide +kernel
theorem dX4_needSpit_0 : decode cX4_needSpit 0 = .ok (.aload_n 0, 1) := by decide +kernel
theorem dX4_needSpit_1 : decode cX4_needSpit 1 = .ok (.getfield 10, 3) := by decide +kernel
theorem dX4_needSpit_4 : decode cX4_needSpit 4 = .ok (.iload_n 1, 1) := by decide +kernel
theorem dX4_needSpit_5 : decode cX4_needSpit 5 = .ok (.invokevirtual 215, 3) := by decide +kernel
theorem dX4_needSpit_8 : decode cX4_needSpit 8 = .ok (.astore_n 2, 1) := by decide +kernel
theorem dX4_needSpit_9 : decode cX4_needSpit 9 = .ok (.aload_n 2, 1) := by decide +kernel
theorem dX4_needSpit_10 : decode cX4_needSpit 10 = .ok (.ifnonnull 13, 3) := by decide +kernel
theorem dX4_needSpit_13 : decode cX4_needSpit 13 = .ok (.new 155, 3) := by decide +kernel
theorem dX4_needSpit_16 : decode cX4_needSpit 16 = .ok (.dup, 1) := by decide +kernel
theorem dX4_needSpit_17 : decode cX4_needSpit 17 = .ok (.ldc 218, 2) := by decide +kernel
theorem dX4_needSpit_19 : decode cX4_needSpit 19 = .ok (.invokespecial 159, 3) := by decide +kernel
theorem dX4_needSpit_22 : decode cX4_needSpit 22 = .ok (.athrow, 1) := by decide +kernel
theorem dX4_needSpit_23 : decode cX4_needSpit 23 = .ok (.aload_n 2, 1) := by decide +kernel
theorem dX4_needSpit_24 : decode cX4_needSpit 24 = .ok (.areturn, 1) := by decide +kernel
theorem dX4_needRoast_0 : decode cX4_needRoast 0 = .ok (.aload_n 0, 1) := by decide +kernel
theorem dX4_needRoast_1 : decode cX4_needRoast 1 = .ok (.getfield 10, 3) := by decide +kernel
theorem dX4_needRoast_4 : decode cX4_needRoast 4 = .ok (.iload_n 1, 1) := by decide +kernel
theorem dX4_needRoast_5 : decode cX4_needRoast 5 = .ok (.invokevirtual 220, 3) := by decide +kernel
theorem dX4_needRoast_8 : decode cX4_needRoast 8 = .ok (.astore_n 2, 1) := by decide +kernel
theorem dX4_needRoast_9 : decode cX4_needRoast 9 = .ok (.aload_n 2, 1) := by decide +kernel
theorem dX4_needRoast_10 : decode cX4_needRoast 10 = .ok (.ifnonnull 13, 3) := by decide +kernel
theorem dX4_needRoast_13 : decode cX4_needRoast 13 = .ok (.new 155, 3) := by decide +kernel
theorem dX4_needRoast_16 : decode cX4_needRoast 16 = .ok (.dup, 1) := by decide +kernel
theorem dX4_needRoast_17 : decode cX4_needRoast 17 = .ok (.ldc 223, 2) := by decide +kernel
theorem dX4_needRoast_19 : decode cX4_needRoast 19 = .ok (.invokespecial 159, 3) := by decide +kernel
theorem dX4_needRoast_22 : decode cX4_needRoast 22 = .ok (.athrow, 1) := by decide +kernel
theorem dX4_needRoast_23 : decode cX4_needRoast 23 = .ok (.aload_n 2, 1) := by decide +kernel
theorem dX4_needRoast_24 : decode cX4_needRoast 24 = .ok (.areturn, 1) := by decide +kernel
theorem dX4_needRoastOf_0 : decode cX4_needRoastOf 0 = .ok (.aload_n 0, 1) := by decide +kernel
theorem dX4_needRoastOf_1 : decode cX4_needRoastOf 1 = .ok (.getfield 10, 3) := by decide +kernel
theorem dX4_needRoastOf_4 : decode cX4_needRoastOf 4 = .ok (.aload_n 1, 1) := by decide +kernel
theorem dX4_needRoastOf_5 : decode cX4_needRoastOf 5 = .ok (.getfield 110, 3) := by decide +kernel
theorem dX4_needRoastOf_8 : decode cX4_needRoastOf 8 = .ok (.invokevirtual 220, 3) := by decide +kernel
theorem dX4_needRoastOf_11 : decode cX4_needRoastOf 11 = .ok (.astore_n 2, 1) := by decide +kernel
theorem dX4_needRoastOf_12 : decode cX4_needRoastOf 12 = .ok (.aload_n 2, 1) := by decide +kernel
theorem dX4_needRoastOf_13 : decode cX4_needRoastOf 13 = .ok (.ifnonnull 13, 3) := by decide +kernel
theorem dX4_needRoastOf_16 : decode cX4_needRoastOf 16 = .ok (.new 23, 3) := by decide +kernel
theorem dX4_needRoastOf_19 : decode cX4_needRoastOf 19 = .ok (.dup, 1) := by decide +kernel
theorem dX4_needRoastOf_20 : decode cX4_needRoastOf 20 = .ok (.ldc 225, 2) := by decide +kernel
theorem dX4_needRoastOf_22 : decode cX4_needRoastOf 22 = .ok (.invokespecial 27, 3) := by decide +kernel
theorem dX4_needRoastOf_25 : decode cX4_needRoastOf 25 = .ok (.athrow, 1) := by decide +kernel
theorem dX4_needRoastOf_26 : decode cX4_needRoastOf 26 = .ok (.aload_n 2, 1) := by decide +kernel
theorem dX4_needRoastOf_27 : decode cX4_needRoastOf 27 = .ok (.areturn, 1) := by decide +kernel
theorem dX4_needFeet_0 : decode cX4_needFeet 0 = .ok (.iload_n 0, 1) := by decide +kernel
theorem dX4_needFeet_1 : decode cX4_needFeet 1 = .ok (.iconst 1, 1) := by decide +kernel
theorem dX4_needFeet_2 : decode cX4_needFeet 2 = .ok (.if_icmp .lt 8, 3) := by decide +kernel
theorem dX4_needFeet_5 : decode cX4_needFeet 5 = .ok (.iload_n 0, 1) := by decide +kernel
theorem dX4_needFeet_6 : decode cX4_needFeet 6 = .ok (.iconst 3, 1) := by decide +kernel
theorem dX4_needFeet_7 : decode cX4_needFeet 7 = .ok (.if_icmp .le 13, 3) := by decide +kernel
theorem dX4_needFeet_10 : decode cX4_needFeet 10 = .ok (.new 34, 3) := by decide +kernel
theorem dX4_needFeet_13 : decode cX4_needFeet 13 = .ok (.dup, 1) := by decide +kernel
theorem dX4_needFeet_14 : decode cX4_needFeet 14 = .ok (.ldc 227, 2) := by decide +kernel
theorem dX4_needFeet_16 : decode cX4_needFeet 16 = .ok (.invokespecial 38, 3) := by decide +kernel
theorem dX4_needFeet_19 : decode cX4_needFeet 19 = .ok (.athrow, 1) := by decide +kernel
theorem dX4_needFeet_20 : decode cX4_needFeet 20 = .ok (.return_, 1) := by decide +kernel
theorem dX4_needPounds_0 : decode cX4_needPounds 0 = .ok (.iload_n 0, 1) := by decide +kernel
theorem dX4_needPounds_1 : decode cX4_needPounds 1 = .ok (.iconst 1, 1) := by decide +kernel
theorem dX4_needPounds_2 : decode cX4_needPounds 2 = .ok (.if_icmp .lt 9, 3) := by decide +kernel
theorem dX4_needPounds_5 : decode cX4_needPounds 5 = .ok (.iload_n 0, 1) := by decide +kernel
theorem dX4_needPounds_6 : decode cX4_needPounds 6 = .ok (.bipush 12, 2) := by decide +kernel
theorem dX4_needPounds_8 : decode cX4_needPounds 8 = .ok (.if_icmp .le 13, 3) := by decide +kernel
theorem dX4_needPounds_11 : decode cX4_needPounds 11 = .ok (.new 34, 3) := by decide +kernel
theorem dX4_needPounds_14 : decode cX4_needPounds 14 = .ok (.dup, 1) := by decide +kernel
theorem dX4_needPounds_15 : decode cX4_needPounds 15 = .ok (.ldc 229, 2) := by decide +kernel
theorem dX4_needPounds_17 : decode cX4_needPounds 17 = .ok (.invokespecial 38, 3) := by decide +kernel
theorem dX4_needPounds_20 : decode cX4_needPounds 20 = .ok (.athrow, 1) := by decide +kernel
theorem dX4_needPounds_21 : decode cX4_needPounds 21 = .ok (.return_, 1) := by decide +kernel
theorem dX5_init_0 : decode cX5_init 0 = .ok (.aload_n 0, 1) := by decide +kernel
theorem dX5_init_1 : decode cX5_init 1 = .ok (.invokespecial 1, 3) := by decide +kernel
theorem dX5_init_4 : decode cX5_init 4 = .ok (.aload_n 0, 1) := by decide +kernel
theorem dX5_init_5 : decode cX5_init 5 = .ok (.iconst 4, 1) := by decide +kernel
theorem dX5_init_6 : decode cX5_init 6 = .ok (.newarray .int, 2) := by decide +kernel
theorem dX5_init_8 : decode cX5_init 8 = .ok (.putfield 7, 3) := by decide +kernel
theorem dX5_init_11 : decode cX5_init 11 = .ok (.return_, 1) := by decide +kernel
theorem dX5_isDone_0 : decode cX5_isDone 0 = .ok (.aload_n 0, 1) := by decide +kernel
theorem dX5_isDone_1 : decode cX5_isDone 1 = .ok (.getfield 7, 3) := by decide +kernel
theorem dX5_isDone_4 : decode cX5_isDone 4 = .ok (.astore_n 1, 1) := by decide +kernel
theorem dX5_isDone_5 : decode cX5_isDone 5 = .ok (.aload_n 1, 1) := by decide +kernel
theorem dX5_isDone_6 : decode cX5_isDone 6 = .ok (.arraylength, 1) := by decide +kernel
theorem dX5_isDone_7 : decode cX5_isDone 7 = .ok (.istore_n 2, 1) := by decide +kernel
theorem dX5_isDone_8 : decode cX5_isDone 8 = .ok (.iconst 0, 1) := by decide +kernel
theorem dX5_isDone_9 : decode cX5_isDone 9 = .ok (.istore_n 3, 1) := by decide +kernel
theorem dX5_isDone_10 : decode cX5_isDone 10 = .ok (.iload_n 3, 1) := by decide +kernel
theorem dX5_isDone_11 : decode cX5_isDone 11 = .ok (.iload_n 2, 1) := by decide +kernel
theorem dX5_isDone_12 : decode cX5_isDone 12 = .ok (.if_icmp .ge 41, 3) := by decide +kernel
theorem dX5_isDone_15 : decode cX5_isDone 15 = .ok (.aload_n 1, 1) := by decide +kernel
theorem dX5_isDone_16 : decode cX5_isDone 16 = .ok (.iload_n 3, 1) := by decide +kernel
theorem dX5_isDone_17 : decode cX5_isDone 17 = .ok (.iaload, 1) := by decide +kernel
theorem dX5_isDone_18 : decode cX5_isDone 18 = .ok (.istore 4, 2) := by decide +kernel
theorem dX5_isDone_20 : decode cX5_isDone 20 = .ok (.iload 4, 2) := by decide +kernel
theorem dX5_isDone_22 : decode cX5_isDone 22 = .ok (.iconst 3, 1) := by decide +kernel
theorem dX5_isDone_23 : decode cX5_isDone 23 = .ok (.aload_n 0, 1) := by decide +kernel
theorem dX5_isDone_24 : decode cX5_isDone 24 = .ok (.getfield 13, 3) := by decide +kernel
theorem dX5_isDone_27 : decode cX5_isDone 27 = .ok (.imul, 1) := by decide +kernel
theorem dX5_isDone_28 : decode cX5_isDone 28 = .ok (.if_icmp .lt 17, 3) := by decide +kernel
theorem dX5_isDone_31 : decode cX5_isDone 31 = .ok (.iload 4, 2) := by decide +kernel
theorem dX5_isDone_33 : decode cX5_isDone 33 = .ok (.iconst 3, 1) := by decide +kernel
theorem dX5_isDone_34 : decode cX5_isDone 34 = .ok (.aload_n 0, 1) := by decide +kernel
theorem dX5_isDone_35 : decode cX5_isDone 35 = .ok (.getfield 13, 3) := by decide +kernel
theorem dX5_isDone_38 : decode cX5_isDone 38 = .ok (.imul, 1) := by decide +kernel
theorem dX5_isDone_39 : decode cX5_isDone 39 = .ok (.bipush 30, 2) := by decide +kernel
theorem dX5_isDone_41 : decode cX5_isDone 41 = .ok (.iadd, 1) := by decide +kernel
theorem dX5_isDone_42 : decode cX5_isDone 42 = .ok (.if_icmp .le 5, 3) := by decide +kernel
theorem dX5_isDone_45 : decode cX5_isDone 45 = .ok (.iconst 0, 1) := by decide +kernel
theorem dX5_isDone_46 : decode cX5_isDone 46 = .ok (.ireturn, 1) := by decide +kernel
theorem dX5_isDone_47 : decode cX5_isDone 47 = .ok (.iinc 3 1, 3) := by decide +kernel
theorem dX5_isDone_50 : decode cX5_isDone 50 = .ok (.goto (-40), 3) := by decide +kernel
theorem dX5_isDone_53 : decode cX5_isDone 53 = .ok (.iconst 1, 1) := by decide +kernel
theorem dX5_isDone_54 : decode cX5_isDone 54 = .ok (.ireturn, 1) := by decide +kernel
theorem dX5_isBurnt_0 : decode cX5_isBurnt 0 = .ok (.aload_n 0, 1) := by decide +kernel
theorem dX5_isBurnt_1 : decode cX5_isBurnt 1 = .ok (.getfield 7, 3) := by decide +kernel
theorem dX5_isBurnt_4 : decode cX5_isBurnt 4 = .ok (.astore_n 1, 1) := by decide +kernel
theorem dX5_isBurnt_5 : decode cX5_isBurnt 5 = .ok (.aload_n 1, 1) := by decide +kernel
theorem dX5_isBurnt_6 : decode cX5_isBurnt 6 = .ok (.arraylength, 1) := by decide +kernel
theorem dX5_isBurnt_7 : decode cX5_isBurnt 7 = .ok (.istore_n 2, 1) := by decide +kernel
theorem dX5_isBurnt_8 : decode cX5_isBurnt 8 = .ok (.iconst 0, 1) := by decide +kernel
theorem dX5_isBurnt_9 : decode cX5_isBurnt 9 = .ok (.istore_n 3, 1) := by decide +kernel
theorem dX5_isBurnt_10 : decode cX5_isBurnt 10 = .ok (.iload_n 3, 1) := by decide +kernel
theorem dX5_isBurnt_11 : decode cX5_isBurnt 11 = .ok (.iload_n 2, 1) := by decide +kernel
theorem dX5_isBurnt_12 : decode cX5_isBurnt 12 = .ok (.if_icmp .ge 30, 3) := by decide +kernel
theorem dX5_isBurnt_15 : decode cX5_isBurnt 15 = .ok (.aload_n 1, 1) := by decide +kernel
theorem dX5_isBurnt_16 : decode cX5_isBurnt 16 = .ok (.iload_n 3, 1) := by decide +kernel
theorem dX5_isBurnt_17 : decode cX5_isBurnt 17 = .ok (.iaload, 1) := by decide +kernel
theorem dX5_isBurnt_18 : decode cX5_isBurnt 18 = .ok (.istore 4, 2) := by decide +kernel
theorem dX5_isBurnt_20 : decode cX5_isBurnt 20 = .ok (.iload 4, 2) := by decide +kernel
theorem dX5_isBurnt_22 : decode cX5_isBurnt 22 = .ok (.iconst 3, 1) := by decide +kernel
theorem dX5_isBurnt_23 : decode cX5_isBurnt 23 = .ok (.aload_n 0, 1) := by decide +kernel
theorem dX5_isBurnt_24 : decode cX5_isBurnt 24 = .ok (.getfield 13, 3) := by decide +kernel
theorem dX5_isBurnt_27 : decode cX5_isBurnt 27 = .ok (.imul, 1) := by decide +kernel
theorem dX5_isBurnt_28 : decode cX5_isBurnt 28 = .ok (.bipush 30, 2) := by decide +kernel
theorem dX5_isBurnt_30 : decode cX5_isBurnt 30 = .ok (.iadd, 1) := by decide +kernel
theorem dX5_isBurnt_31 : decode cX5_isBurnt 31 = .ok (.if_icmp .le 5, 3) := by decide +kernel
theorem dX5_isBurnt_34 : decode cX5_isBurnt 34 = .ok (.iconst 1, 1) := by decide +kernel
theorem dX5_isBurnt_35 : decode cX5_isBurnt 35 = .ok (.ireturn, 1) := by decide +kernel
theorem dX5_isBurnt_36 : decode cX5_isBurnt 36 = .ok (.iinc 3 1, 3) := by decide +kernel
theorem dX5_isBurnt_39 : decode cX5_isBurnt 39 = .ok (.goto (-29), 3) := by decide +kernel
theorem dX5_isBurnt_42 : decode cX5_isBurnt 42 = .ok (.iconst 0, 1) := by decide +kernel
theorem dX5_isBurnt_43 : decode cX5_isBurnt 43 = .ok (.ireturn, 1) := by decide +kernel
theorem dX5_tan_0 : decode cX5_tan 0 = .ok (.aload_n 0, 1) := by decide +kernel
theorem dX5_tan_1 : decode cX5_tan 1 = .ok (.getfield 7, 3) := by decide +kernel
theorem dX5_tan_4 : decode cX5_tan 4 = .ok (.iload_n 1, 1) := by decide +kernel
theorem dX5_tan_5 : decode cX5_tan 5 = .ok (.aload_n 0, 1) := by decide +kernel
theorem dX5_tan_6 : decode cX5_tan 6 = .ok (.getfield 7, 3) := by decide +kernel
theorem dX5_tan_9 : decode cX5_tan 9 = .ok (.iload_n 1, 1) := by decide +kernel
theorem dX5_tan_10 : decode cX5_tan 10 = .ok (.iaload, 1) := by decide +kernel
theorem dX5_tan_11 : decode cX5_tan 11 = .ok (.iload_n 2, 1) := by decide +kernel
theorem dX5_tan_12 : decode cX5_tan 12 = .ok (.iadd, 1) := by decide +kernel
theorem dX5_tan_13 : decode cX5_tan 13 = .ok (.bipush 99, 2) := by decide +kernel
theorem dX5_tan_15 : decode cX5_tan 15 = .ok (.if_icmp .le 8, 3) := by decide +kernel
theorem dX5_tan_18 : decode cX5_tan 18 = .ok (.bipush 99, 2) := by decide +kernel
theorem dX5_tan_20 : decode cX5_tan 20 = .ok (.goto 11, 3) := by decide +kernel
theorem dX5_tan_23 : decode cX5_tan 23 = .ok (.aload_n 0, 1) := by decide +kernel
theorem dX5_tan_24 : decode cX5_tan 24 = .ok (.getfield 7, 3) := by decide +kernel
theorem dX5_tan_27 : decode cX5_tan 27 = .ok (.iload_n 1, 1) := by decide +kernel
theorem dX5_tan_28 : decode cX5_tan 28 = .ok (.iaload, 1) := by decide +kernel
theorem dX5_tan_29 : decode cX5_tan 29 = .ok (.iload_n 2, 1) := by decide +kernel
theorem dX5_tan_30 : decode cX5_tan 30 = .ok (.iadd, 1) := by decide +kernel
theorem dX5_tan_31 : decode cX5_tan 31 = .ok (.iastore, 1) := by decide +kernel
theorem dX5_tan_32 : decode cX5_tan 32 = .ok (.return_, 1) := by decide +kernel
theorem dX5_gets_0 : decode cX5_gets 0 = .ok (.aload_n 0, 1) := by decide +kernel
theorem dX5_gets_1 : decode cX5_gets 1 = .ok (.aload_n 0, 1) := by decide +kernel
theorem dX5_gets_2 : decode cX5_gets 2 = .ok (.getfield 17, 3) := by decide +kernel
theorem dX5_gets_5 : decode cX5_gets 5 = .ok (.ifCond .le 18, 3) := by decide +kernel
theorem dX5_gets_8 : decode cX5_gets 8 = .ok (.iload_n 1, 1) := by decide +kernel
theorem dX5_gets_9 : decode cX5_gets 9 = .ok (.iconst 1, 1) := by decide +kernel
theorem dX5_gets_10 : decode cX5_gets 10 = .ok (.if_icmp .ge 7, 3) := by decide +kernel
theorem dX5_gets_13 : decode cX5_gets 13 = .ok (.iconst 0, 1) := by decide +kernel
theorem dX5_gets_14 : decode cX5_gets 14 = .ok (.goto 10, 3) := by decide +kernel
theorem dX5_gets_17 : decode cX5_gets 17 = .ok (.iload_n 1, 1) := by decide +kernel
theorem dX5_gets_18 : decode cX5_gets 18 = .ok (.iconst 1, 1) := by decide +kernel
theorem dX5_gets_19 : decode cX5_gets 19 = .ok (.isub, 1) := by decide +kernel
theorem dX5_gets_20 : decode cX5_gets 20 = .ok (.goto 4, 3) := by decide +kernel
theorem dX5_gets_23 : decode cX5_gets 23 = .ok (.iload_n 1, 1) := by decide +kernel
theorem dX5_gets_24 : decode cX5_gets 24 = .ok (.putfield 20, 3) := by decide +kernel
theorem dX5_gets_27 : decode cX5_gets 27 = .ok (.aload_n 0, 1) := by decide +kernel
theorem dX5_gets_28 : decode cX5_gets 28 = .ok (.getfield 17, 3) := by decide +kernel
theorem dX5_gets_31 : decode cX5_gets 31 = .ok (.ifCond .le 13, 3) := by decide +kernel
theorem dX5_gets_34 : decode cX5_gets 34 = .ok (.aload_n 0, 1) := by decide +kernel
theorem dX5_gets_35 : decode cX5_gets 35 = .ok (.dup, 1) := by decide +kernel
theorem dX5_gets_36 : decode cX5_gets 36 = .ok (.getfield 17, 3) := by decide +kernel
theorem dX5_gets_39 : decode cX5_gets 39 = .ok (.iconst 1, 1) := by decide +kernel
theorem dX5_gets_40 : decode cX5_gets 40 = .ok (.isub, 1) := by decide +kernel
theorem dX5_gets_41 : decode cX5_gets 41 = .ok (.putfield 17, 3) := by decide +kernel
theorem dX5_gets_44 : decode cX5_gets 44 = .ok (.aload_n 0, 1) := by decide +kernel
theorem dX5_gets_45 : decode cX5_gets 45 = .ok (.aload_n 0, 1) := by decide +kernel
theorem dX5_gets_46 : decode cX5_gets 46 = .ok (.getfield 23, 3) := by decide +kernel
theorem dX5_gets_49 : decode cX5_gets 49 = .ok (.aload_n 0, 1) := by decide +kernel
theorem dX5_gets_50 : decode cX5_gets 50 = .ok (.getfield 20, 3) := by decide +kernel
theorem dX5_gets_53 : decode cX5_gets 53 = .ok (.invokevirtual 26, 3) := by decide +kernel
theorem dX5_gets_56 : decode cX5_gets 56 = .ok (.aload_n 0, 1) := by decide +kernel
theorem dX5_gets_57 : decode cX5_gets 57 = .ok (.aload_n 0, 1) := by decide +kernel
theorem dX5_gets_58 : decode cX5_gets 58 = .ok (.getfield 23, 3) := by decide +kernel
theorem dX5_gets_61 : decode cX5_gets 61 = .ok (.iconst 3, 1) := by decide +kernel
theorem dX5_gets_62 : decode cX5_gets 62 = .ok (.if_icmp .ne 7, 3) := by decide +kernel
theorem dX5_gets_65 : decode cX5_gets 65 = .ok (.iconst 0, 1) := by decide +kernel
theorem dX5_gets_66 : decode cX5_gets 66 = .ok (.goto 9, 3) := by decide +kernel
theorem dX5_gets_69 : decode cX5_gets 69 = .ok (.aload_n 0, 1) := by decide +kernel
theorem dX5_gets_70 : decode cX5_gets 70 = .ok (.getfield 23, 3) := by decide +kernel
theorem dX5_gets_73 : decode cX5_gets 73 = .ok (.iconst 1, 1) := by decide +kernel
theorem dX5_gets_74 : decode cX5_gets 74 = .ok (.iadd, 1) := by decide +kernel
theorem dX5_gets_75 : decode cX5_gets 75 = .ok (.aload_n 0, 1) := by decide +kernel
theorem dX5_gets_76 : decode cX5_gets 76 = .ok (.getfield 20, 3) := by decide +kernel
theorem dX5_gets_79 : decode cX5_gets 79 = .ok (.iconst 3, 1) := by decide +kernel
theorem dX5_gets_80 : decode cX5_gets 80 = .ok (.idiv, 1) := by decide +kernel
theorem dX5_gets_81 : decode cX5_gets 81 = .ok (.invokevirtual 26, 3) := by decide +kernel
theorem dX5_gets_84 : decode cX5_gets 84 = .ok (.aload_n 0, 1) := by decide +kernel
theorem dX5_gets_85 : decode cX5_gets 85 = .ok (.aload_n 0, 1) := by decide +kernel
theorem dX5_gets_86 : decode cX5_gets 86 = .ok (.getfield 23, 3) := by decide +kernel
theorem dX5_gets_89 : decode cX5_gets 89 = .ok (.ifCond .ne 7, 3) := by decide +kernel
theorem dX5_gets_92 : decode cX5_gets 92 = .ok (.iconst 3, 1) := by decide +kernel
theorem dX5_gets_93 : decode cX5_gets 93 = .ok (.goto 9, 3) := by decide +kernel
theorem dX5_gets_96 : decode cX5_gets 96 = .ok (.aload_n 0, 1) := by decide +kernel
theorem dX5_gets_97 : decode cX5_gets 97 = .ok (.getfield 23, 3) := by decide +kernel
theorem dX5_gets_100 : decode cX5_gets 100 = .ok (.iconst 1, 1) := by decide +kernel
theorem dX5_gets_101 : decode cX5_gets 101 = .ok (.isub, 1) := by decide +kernel
theorem dX5_gets_102 : decode cX5_gets 102 = .ok (.aload_n 0, 1) := by decide +kernel
theorem dX5_gets_103 : decode cX5_gets 103 = .ok (.getfield 20, 3) := by decide +kernel
theorem dX5_gets_106 : decode cX5_gets 106 = .ok (.iconst 3, 1) := by decide +kernel
theorem dX5_gets_107 : decode cX5_gets 107 = .ok (.idiv, 1) := by decide +kernel
theorem dX5_gets_108 : decode cX5_gets 108 = .ok (.invokevirtual 26, 3) := by decide +kernel
theorem dX5_gets_111 : decode cX5_gets 111 = .ok (.return_, 1) := by decide +kernel
theorem dX6_init_0 : decode cX6_init 0 = .ok (.aload_n 0, 1) := by decide +kernel
theorem dX6_init_1 : decode cX6_init 1 = .ok (.invokespecial 1, 3) := by decide +kernel
theorem dX6_init_4 : decode cX6_init 4 = .ok (.aload_n 0, 1) := by decide +kernel
theorem dX6_init_5 : decode cX6_init 5 = .ok (.bipush 120, 2) := by decide +kernel
theorem dX6_init_7 : decode cX6_init 7 = .ok (.putfield 7, 3) := by decide +kernel
theorem dX6_init_10 : decode cX6_init 10 = .ok (.aload_n 0, 1) := by decide +kernel
theorem dX6_init_11 : decode cX6_init 11 = .ok (.iconst 0, 1) := by decide +kernel
theorem dX6_init_12 : decode cX6_init 12 = .ok (.anewarray 13, 3) := by decide +kernel
theorem dX6_init_15 : decode cX6_init 15 = .ok (.putfield 15, 3) := by decide +kernel
theorem dX6_init_18 : decode cX6_init 18 = .ok (.aload_n 0, 1) := by decide +kernel
theorem dX6_init_19 : decode cX6_init 19 = .ok (.iconst 0, 1) := by decide +kernel
theorem dX6_init_20 : decode cX6_init 20 = .ok (.anewarray 13, 3) := by decide +kernel
theorem dX6_init_23 : decode cX6_init 23 = .ok (.putfield 19, 3) := by decide +kernel
theorem dX6_init_26 : decode cX6_init 26 = .ok (.aload_n 0, 1) := by decide +kernel
theorem dX6_init_27 : decode cX6_init 27 = .ok (.iconst 0, 1) := by decide +kernel
theorem dX6_init_28 : decode cX6_init 28 = .ok (.anewarray 22, 3) := by decide +kernel
theorem dX6_init_31 : decode cX6_init 31 = .ok (.putfield 24, 3) := by decide +kernel
theorem dX6_init_34 : decode cX6_init 34 = .ok (.return_, 1) := by decide +kernel
theorem dX6_with_0 : decode cX6_with 0 = .ok (.aload_n 0, 1) := by decide +kernel
theorem dX6_with_1 : decode cX6_with 1 = .ok (.arraylength, 1) := by decide +kernel
theorem dX6_with_2 : decode cX6_with 2 = .ok (.iconst 1, 1) := by decide +kernel
theorem dX6_with_3 : decode cX6_with 3 = .ok (.iadd, 1) := by decide +kernel
theorem dX6_with_4 : decode cX6_with 4 = .ok (.anewarray 13, 3) := by decide +kernel
theorem dX6_with_7 : decode cX6_with 7 = .ok (.astore_n 2, 1) := by decide +kernel
theorem dX6_with_8 : decode cX6_with 8 = .ok (.iconst 0, 1) := by decide +kernel
theorem dX6_with_9 : decode cX6_with 9 = .ok (.istore_n 3, 1) := by decide +kernel
theorem dX6_with_10 : decode cX6_with 10 = .ok (.iload_n 3, 1) := by decide +kernel
theorem dX6_with_11 : decode cX6_with 11 = .ok (.aload_n 0, 1) := by decide +kernel
theorem dX6_with_12 : decode cX6_with 12 = .ok (.arraylength, 1) := by decide +kernel
theorem dX6_with_13 : decode cX6_with 13 = .ok (.if_icmp .ge 15, 3) := by decide +kernel
theorem dX6_with_16 : decode cX6_with 16 = .ok (.aload_n 2, 1) := by decide +kernel
theorem dX6_with_17 : decode cX6_with 17 = .ok (.iload_n 3, 1) := by decide +kernel
theorem dX6_with_18 : decode cX6_with 18 = .ok (.aload_n 0, 1) := by decide +kernel
theorem dX6_with_19 : decode cX6_with 19 = .ok (.iload_n 3, 1) := by decide +kernel
theorem dX6_with_20 : decode cX6_with 20 = .ok (.aaload, 1) := by decide +kernel
theorem dX6_with_21 : decode cX6_with 21 = .ok (.aastore, 1) := by decide +kernel
theorem dX6_with_22 : decode cX6_with 22 = .ok (.iinc 3 1, 3) := by decide +kernel
theorem dX6_with_25 : decode cX6_with 25 = .ok (.goto (-15), 3) := by decide +kernel
theorem dX6_with_28 : decode cX6_with 28 = .ok (.aload_n 2, 1) := by decide +kernel
theorem dX6_with_29 : decode cX6_with 29 = .ok (.aload_n 0, 1) := by decide +kernel
theorem dX6_with_30 : decode cX6_with 30 = .ok (.arraylength, 1) := by decide +kernel
theorem dX6_with_31 : decode cX6_with 31 = .ok (.aload_n 1, 1) := by decide +kernel
theorem dX6_with_32 : decode cX6_with 32 = .ok (.aastore, 1) := by decide +kernel
theorem dX6_with_33 : decode cX6_with 33 = .ok (.aload_n 2, 1) := by decide +kernel
theorem dX6_with_34 : decode cX6_with 34 = .ok (.areturn, 1) := by decide +kernel
theorem dX6_hang_0 : decode cX6_hang 0 = .ok (.aload_n 0, 1) := by decide +kernel
theorem dX6_hang_1 : decode cX6_hang 1 = .ok (.getfield 24, 3) := by decide +kernel
theorem dX6_hang_4 : decode cX6_hang 4 = .ok (.arraylength, 1) := by decide +kernel
theorem dX6_hang_5 : decode cX6_hang 5 = .ok (.iconst 1, 1) := by decide +kernel
theorem dX6_hang_6 : decode cX6_hang 6 = .ok (.iadd, 1) := by decide +kernel
theorem dX6_hang_7 : decode cX6_hang 7 = .ok (.anewarray 22, 3) := by decide +kernel
theorem dX6_hang_10 : decode cX6_hang 10 = .ok (.astore_n 3, 1) := by decide +kernel
theorem dX6_hang_11 : decode cX6_hang 11 = .ok (.iconst 0, 1) := by decide +kernel
theorem dX6_hang_12 : decode cX6_hang 12 = .ok (.istore 4, 2) := by decide +kernel
theorem dX6_hang_14 : decode cX6_hang 14 = .ok (.iload 4, 2) := by decide +kernel
theorem dX6_hang_16 : decode cX6_hang 16 = .ok (.aload_n 0, 1) := by decide +kernel
theorem dX6_hang_17 : decode cX6_hang 17 = .ok (.getfield 24, 3) := by decide +kernel
theorem dX6_hang_20 : decode cX6_hang 20 = .ok (.arraylength, 1) := by decide +kernel
theorem dX6_hang_21 : decode cX6_hang 21 = .ok (.if_icmp .ge 20, 3) := by decide +kernel
theorem dX6_hang_24 : decode cX6_hang 24 = .ok (.aload_n 3, 1) := by decide +kernel
theorem dX6_hang_25 : decode cX6_hang 25 = .ok (.iload 4, 2) := by decide +kernel
theorem dX6_hang_27 : decode cX6_hang 27 = .ok (.aload_n 0, 1) := by decide +kernel
theorem dX6_hang_28 : decode cX6_hang 28 = .ok (.getfield 24, 3) := by decide +kernel
theorem dX6_hang_31 : decode cX6_hang 31 = .ok (.iload 4, 2) := by decide +kernel
theorem dX6_hang_33 : decode cX6_hang 33 = .ok (.aaload, 1) := by decide +kernel
theorem dX6_hang_34 : decode cX6_hang 34 = .ok (.aastore, 1) := by decide +kernel
theorem dX6_hang_35 : decode cX6_hang 35 = .ok (.iinc 4 1, 3) := by decide +kernel
theorem dX6_hang_38 : decode cX6_hang 38 = .ok (.goto (-24), 3) := by decide +kernel
theorem dX6_hang_41 : decode cX6_hang 41 = .ok (.new 22, 3) := by decide +kernel
theorem dX6_hang_44 : decode cX6_hang 44 = .ok (.dup, 1) := by decide +kernel
theorem dX6_hang_45 : decode cX6_hang 45 = .ok (.invokespecial 28, 3) := by decide +kernel
theorem dX6_hang_48 : decode cX6_hang 48 = .ok (.astore 4, 2) := by decide +kernel
theorem dX6_hang_50 : decode cX6_hang 50 = .ok (.aload 4, 2) := by decide +kernel
theorem dX6_hang_52 : decode cX6_hang 52 = .ok (.iload_n 2, 1) := by decide +kernel
theorem dX6_hang_53 : decode cX6_hang 53 = .ok (.putfield 29, 3) := by decide +kernel
theorem dX6_hang_56 : decode cX6_hang 56 = .ok (.aload 4, 2) := by decide +kernel
theorem dX6_hang_58 : decode cX6_hang 58 = .ok (.iload_n 1, 1) := by decide +kernel
theorem dX6_hang_59 : decode cX6_hang 59 = .ok (.putfield 32, 3) := by decide +kernel
theorem dX6_hang_62 : decode cX6_hang 62 = .ok (.aload 4, 2) := by decide +kernel
theorem dX6_hang_64 : decode cX6_hang 64 = .ok (.iconst 3, 1) := by decide +kernel
theorem dX6_hang_65 : decode cX6_hang 65 = .ok (.iload_n 2, 1) := by decide +kernel
theorem dX6_hang_66 : decode cX6_hang 66 = .ok (.imul, 1) := by decide +kernel
theorem dX6_hang_67 : decode cX6_hang 67 = .ok (.putfield 35, 3) := by decide +kernel
theorem dX6_hang_70 : decode cX6_hang 70 = .ok (.aload_n 3, 1) := by decide +kernel
theorem dX6_hang_71 : decode cX6_hang 71 = .ok (.aload_n 0, 1) := by decide +kernel
theorem dX6_hang_72 : decode cX6_hang 72 = .ok (.getfield 24, 3) := by decide +kernel
theorem dX6_hang_75 : decode cX6_hang 75 = .ok (.arraylength, 1) := by decide +kernel
theorem dX6_hang_76 : decode cX6_hang 76 = .ok (.aload 4, 2) := by decide +kernel
theorem dX6_hang_78 : decode cX6_hang 78 = .ok (.aastore, 1) := by decide +kernel
theorem dX6_hang_79 : decode cX6_hang 79 = .ok (.aload_n 0, 1) := by decide +kernel
theorem dX6_hang_80 : decode cX6_hang 80 = .ok (.getfield 19, 3) := by decide +kernel
theorem dX6_hang_83 : decode cX6_hang 83 = .ok (.iload_n 1, 1) := by decide +kernel
theorem dX6_hang_84 : decode cX6_hang 84 = .ok (.aaload, 1) := by decide +kernel
theorem dX6_hang_85 : decode cX6_hang 85 = .ok (.iconst 3, 1) := by decide +kernel
theorem dX6_hang_86 : decode cX6_hang 86 = .ok (.aload_n 0, 1) := by decide +kernel
theorem dX6_hang_87 : decode cX6_hang 87 = .ok (.getfield 24, 3) := by decide +kernel
theorem dX6_hang_90 : decode cX6_hang 90 = .ok (.arraylength, 1) := by decide +kernel
theorem dX6_hang_91 : decode cX6_hang 91 = .ok (.iastore, 1) := by decide +kernel
theorem dX6_hang_92 : decode cX6_hang 92 = .ok (.aload_n 0, 1) := by decide +kernel
theorem dX6_hang_93 : decode cX6_hang 93 = .ok (.getfield 19, 3) := by decide +kernel
theorem dX6_hang_96 : decode cX6_hang 96 = .ok (.iload_n 1, 1) := by decide +kernel
theorem dX6_hang_97 : decode cX6_hang 97 = .ok (.aaload, 1) := by decide +kernel
theorem dX6_hang_98 : decode cX6_hang 98 = .ok (.iconst 4, 1) := by decide +kernel
theorem dX6_hang_99 : decode cX6_hang 99 = .ok (.iconst 0, 1) := by decide +kernel
theorem dX6_hang_100 : decode cX6_hang 100 = .ok (.iastore, 1) := by decide +kernel
theorem dX6_hang_101 : decode cX6_hang 101 = .ok (.aload_n 0, 1) := by decide +kernel
theorem dX6_hang_102 : decode cX6_hang 102 = .ok (.aload_n 3, 1) := by decide +kernel
theorem dX6_hang_103 : decode cX6_hang 103 = .ok (.putfield 24, 3) := by decide +kernel
theorem dX6_hang_106 : decode cX6_hang 106 = .ok (.aload_n 3, 1) := by decide +kernel
theorem dX6_hang_107 : decode cX6_hang 107 = .ok (.arraylength, 1) := by decide +kernel
theorem dX6_hang_108 : decode cX6_hang 108 = .ok (.iconst 1, 1) := by decide +kernel
theorem dX6_hang_109 : decode cX6_hang 109 = .ok (.isub, 1) := by decide +kernel
theorem dX6_hang_110 : decode cX6_hang 110 = .ok (.ireturn, 1) := by decide +kernel
theorem dX6_glow_0 : decode cX6_glow 0 = .ok (.aload_n 0, 1) := by decide +kernel
theorem dX6_glow_1 : decode cX6_glow 1 = .ok (.getfield 15, 3) := by decide +kernel
theorem dX6_glow_4 : decode cX6_glow 4 = .ok (.aload_n 0, 1) := by decide +kernel
theorem dX6_glow_5 : decode cX6_glow 5 = .ok (.getfield 19, 3) := by decide +kernel
theorem dX6_glow_8 : decode cX6_glow 8 = .ok (.iload_n 1, 1) := by decide +kernel
theorem dX6_glow_9 : decode cX6_glow 9 = .ok (.aaload, 1) := by decide +kernel
theorem dX6_glow_10 : decode cX6_glow 10 = .ok (.iconst 0, 1) := by decide +kernel
theorem dX6_glow_11 : decode cX6_glow 11 = .ok (.iaload, 1) := by decide +kernel
theorem dX6_glow_12 : decode cX6_glow 12 = .ok (.aaload, 1) := by decide +kernel
theorem dX6_glow_13 : decode cX6_glow 13 = .ok (.iconst 1, 1) := by decide +kernel
theorem dX6_glow_14 : decode cX6_glow 14 = .ok (.iaload, 1) := by decide +kernel
theorem dX6_glow_15 : decode cX6_glow 15 = .ok (.aload_n 0, 1) := by decide +kernel
theorem dX6_glow_16 : decode cX6_glow 16 = .ok (.getfield 19, 3) := by decide +kernel
theorem dX6_glow_19 : decode cX6_glow 19 = .ok (.iload_n 1, 1) := by decide +kernel
theorem dX6_glow_20 : decode cX6_glow 20 = .ok (.aaload, 1) := by decide +kernel
theorem dX6_glow_21 : decode cX6_glow 21 = .ok (.iconst 1, 1) := by decide +kernel
theorem dX6_glow_22 : decode cX6_glow 22 = .ok (.iaload, 1) := by decide +kernel
theorem dX6_glow_23 : decode cX6_glow 23 = .ok (.idiv, 1) := by decide +kernel
theorem dX6_glow_24 : decode cX6_glow 24 = .ok (.ireturn, 1) := by decide +kernel
theorem dX6_pass_0 : decode cX6_pass 0 = .ok (.aload_n 0, 1) := by decide +kernel
theorem dX6_pass_1 : decode cX6_pass 1 = .ok (.getfield 19, 3) := by decide +kernel
theorem dX6_pass_4 : decode cX6_pass 4 = .ok (.arraylength, 1) := by decide +kernel
theorem dX6_pass_5 : decode cX6_pass 5 = .ok (.newarray .int, 2) := by decide +kernel
theorem dX6_pass_7 : decode cX6_pass 7 = .ok (.astore_n 1, 1) := by decide +kernel
theorem dX6_pass_8 : decode cX6_pass 8 = .ok (.iconst 0, 1) := by decide +kernel
theorem dX6_pass_9 : decode cX6_pass 9 = .ok (.istore_n 2, 1) := by decide +kernel
theorem dX6_pass_10 : decode cX6_pass 10 = .ok (.iload_n 2, 1) := by decide +kernel
theorem dX6_pass_11 : decode cX6_pass 11 = .ok (.aload_n 0, 1) := by decide +kernel
theorem dX6_pass_12 : decode cX6_pass 12 = .ok (.getfield 19, 3) := by decide +kernel
theorem dX6_pass_15 : decode cX6_pass 15 = .ok (.arraylength, 1) := by decide +kernel
theorem dX6_pass_16 : decode cX6_pass 16 = .ok (.if_icmp .ge 17, 3) := by decide +kernel
theorem dX6_pass_19 : decode cX6_pass 19 = .ok (.aload_n 1, 1) := by decide +kernel
theorem dX6_pass_20 : decode cX6_pass 20 = .ok (.iload_n 2, 1) := by decide +kernel
theorem dX6_pass_21 : decode cX6_pass 21 = .ok (.aload_n 0, 1) := by decide +kernel
theorem dX6_pass_22 : decode cX6_pass 22 = .ok (.iload_n 2, 1) := by decide +kernel
theorem dX6_pass_23 : decode cX6_pass 23 = .ok (.invokevirtual 50, 3) := by decide +kernel
theorem dX6_pass_26 : decode cX6_pass 26 = .ok (.iastore, 1) := by decide +kernel
theorem dX6_pass_27 : decode cX6_pass 27 = .ok (.iinc 2 1, 3) := by decide +kernel
theorem dX6_pass_30 : decode cX6_pass 30 = .ok (.goto (-20), 3) := by decide +kernel
theorem dX6_pass_33 : decode cX6_pass 33 = .ok (.aload_n 0, 1) := by decide +kernel
theorem dX6_pass_34 : decode cX6_pass 34 = .ok (.getfield 24, 3) := by decide +kernel
theorem dX6_pass_37 : decode cX6_pass 37 = .ok (.astore_n 2, 1) := by decide +kernel
theorem dX6_pass_38 : decode cX6_pass 38 = .ok (.aload_n 2, 1) := by decide +kernel
theorem dX6_pass_39 : decode cX6_pass 39 = .ok (.arraylength, 1) := by decide +kernel
theorem dX6_pass_40 : decode cX6_pass 40 = .ok (.istore_n 3, 1) := by decide +kernel
theorem dX6_pass_41 : decode cX6_pass 41 = .ok (.iconst 0, 1) := by decide +kernel
theorem dX6_pass_42 : decode cX6_pass 42 = .ok (.istore 4, 2) := by decide +kernel
theorem dX6_pass_44 : decode cX6_pass 44 = .ok (.iload 4, 2) := by decide +kernel
theorem dX6_pass_46 : decode cX6_pass 46 = .ok (.iload_n 3, 1) := by decide +kernel
theorem dX6_pass_47 : decode cX6_pass 47 = .ok (.if_icmp .ge 35, 3) := by decide +kernel
theorem dX6_pass_50 : decode cX6_pass 50 = .ok (.aload_n 2, 1) := by decide +kernel
theorem dX6_pass_51 : decode cX6_pass 51 = .ok (.iload 4, 2) := by decide +kernel
theorem dX6_pass_53 : decode cX6_pass 53 = .ok (.aaload, 1) := by decide +kernel
theorem dX6_pass_54 : decode cX6_pass 54 = .ok (.astore 5, 2) := by decide +kernel
theorem dX6_pass_56 : decode cX6_pass 56 = .ok (.aload 5, 2) := by decide +kernel
theorem dX6_pass_58 : decode cX6_pass 58 = .ok (.getfield 32, 3) := by decide +kernel
theorem dX6_pass_61 : decode cX6_pass 61 = .ok (.ifCond .lt 15, 3) := by decide +kernel
theorem dX6_pass_64 : decode cX6_pass 64 = .ok (.aload 5, 2) := by decide +kernel
theorem dX6_pass_66 : decode cX6_pass 66 = .ok (.aload_n 1, 1) := by decide +kernel
theorem dX6_pass_67 : decode cX6_pass 67 = .ok (.aload 5, 2) := by decide +kernel
theorem dX6_pass_69 : decode cX6_pass 69 = .ok (.getfield 32, 3) := by decide +kernel
theorem dX6_pass_72 : decode cX6_pass 72 = .ok (.iaload, 1) := by decide +kernel
theorem dX6_pass_73 : decode cX6_pass 73 = .ok (.invokevirtual 54, 3) := by decide +kernel
theorem dX6_pass_76 : decode cX6_pass 76 = .ok (.iinc 4 1, 3) := by decide +kernel
theorem dX6_pass_79 : decode cX6_pass 79 = .ok (.goto (-35), 3) := by decide +kernel
theorem dX6_pass_82 : decode cX6_pass 82 = .ok (.aload_n 0, 1) := by decide +kernel
theorem dX6_pass_83 : decode cX6_pass 83 = .ok (.getfield 15, 3) := by decide +kernel
theorem dX6_pass_86 : decode cX6_pass 86 = .ok (.arraylength, 1) := by decide +kernel
theorem dX6_pass_87 : decode cX6_pass 87 = .ok (.newarray .int, 2) := by decide +kernel
theorem dX6_pass_89 : decode cX6_pass 89 = .ok (.astore_n 2, 1) := by decide +kernel
theorem dX6_pass_90 : decode cX6_pass 90 = .ok (.iconst 0, 1) := by decide +kernel
theorem dX6_pass_91 : decode cX6_pass 91 = .ok (.istore_n 3, 1) := by decide +kernel
theorem dX6_pass_92 : decode cX6_pass 92 = .ok (.aload_n 0, 1) := by decide +kernel
theorem dX6_pass_93 : decode cX6_pass 93 = .ok (.getfield 24, 3) := by decide +kernel
theorem dX6_pass_96 : decode cX6_pass 96 = .ok (.astore 4, 2) := by decide +kernel
theorem dX6_pass_98 : decode cX6_pass 98 = .ok (.aload 4, 2) := by decide +kernel
theorem dX6_pass_100 : decode cX6_pass 100 = .ok (.arraylength, 1) := by decide +kernel
theorem dX6_pass_101 : decode cX6_pass 101 = .ok (.istore 5, 2) := by decide +kernel
theorem dX6_pass_103 : decode cX6_pass 103 = .ok (.iconst 0, 1) := by decide +kernel
theorem dX6_pass_104 : decode cX6_pass 104 = .ok (.istore 6, 2) := by decide +kernel
theorem dX6_pass_106 : decode cX6_pass 106 = .ok (.iload 6, 2) := by decide +kernel
theorem dX6_pass_108 : decode cX6_pass 108 = .ok (.iload 5, 2) := by decide +kernel
theorem dX6_pass_110 : decode cX6_pass 110 = .ok (.if_icmp .ge 100, 3) := by decide +kernel
theorem dX6_pass_113 : decode cX6_pass 113 = .ok (.aload 4, 2) := by decide +kernel
theorem dX6_pass_115 : decode cX6_pass 115 = .ok (.iload 6, 2) := by decide +kernel
theorem dX6_pass_117 : decode cX6_pass 117 = .ok (.aaload, 1) := by decide +kernel
theorem dX6_pass_118 : decode cX6_pass 118 = .ok (.astore 7, 2) := by decide +kernel
theorem dX6_pass_120 : decode cX6_pass 120 = .ok (.aload 7, 2) := by decide +kernel
theorem dX6_pass_122 : decode cX6_pass 122 = .ok (.getfield 32, 3) := by decide +kernel
theorem dX6_pass_125 : decode cX6_pass 125 = .ok (.ifCond .lt 79, 3) := by decide +kernel
theorem dX6_pass_128 : decode cX6_pass 128 = .ok (.aload 7, 2) := by decide +kernel
theorem dX6_pass_130 : decode cX6_pass 130 = .ok (.getfield 58, 3) := by decide +kernel
theorem dX6_pass_133 : decode cX6_pass 133 = .ok (.iconst 2, 1) := by decide +kernel
theorem dX6_pass_134 : decode cX6_pass 134 = .ok (.if_icmp .lt 70, 3) := by decide +kernel
theorem dX6_pass_137 : decode cX6_pass 137 = .ok (.aload 7, 2) := by decide +kernel
theorem dX6_pass_139 : decode cX6_pass 139 = .ok (.getfield 35, 3) := by decide +kernel
theorem dX6_pass_142 : decode cX6_pass 142 = .ok (.ifCond .ne 6, 3) := by decide +kernel
theorem dX6_pass_145 : decode cX6_pass 145 = .ok (.goto 59, 3) := by decide +kernel
theorem dX6_pass_148 : decode cX6_pass 148 = .ok (.aload 7, 2) := by decide +kernel
end
section
theorem dX6_pass_150 : decode cX6_pass 150 = .ok (.dup, 1) := by decide +kernel
theorem dX6_pass_151 : decode cX6_pass 151 = .ok (.getfield 35, 3) := by decide +kernel
theorem dX6_pass_154 : decode cX6_pass 154 = .ok (.iconst 1, 1) := by decide +kernel
theorem dX6_pass_155 : decode cX6_pass 155 = .ok (.isub, 1) := by decide +kernel
theorem dX6_pass_156 : decode cX6_pass 156 = .ok (.putfield 35, 3) := by decide +kernel
theorem dX6_pass_159 : decode cX6_pass 159 = .ok (.aload_n 0, 1) := by decide +kernel
theorem dX6_pass_160 : decode cX6_pass 160 = .ok (.getfield 19, 3) := by decide +kernel
theorem dX6_pass_163 : decode cX6_pass 163 = .ok (.aload 7, 2) := by decide +kernel
theorem dX6_pass_165 : decode cX6_pass 165 = .ok (.getfield 32, 3) := by decide +kernel
theorem dX6_pass_168 : decode cX6_pass 168 = .ok (.aaload, 1) := by decide +kernel
theorem dX6_pass_169 : decode cX6_pass 169 = .ok (.astore 8, 2) := by decide +kernel
theorem dX6_pass_171 : decode cX6_pass 171 = .ok (.aload 8, 2) := by decide +kernel
theorem dX6_pass_173 : decode cX6_pass 173 = .ok (.iconst 2, 1) := by decide +kernel
theorem dX6_pass_174 : decode cX6_pass 174 = .ok (.iaload, 1) := by decide +kernel
theorem dX6_pass_175 : decode cX6_pass 175 = .ok (.bipush 20, 2) := by decide +kernel
theorem dX6_pass_177 : decode cX6_pass 177 = .ok (.if_icmp .ge 14, 3) := by decide +kernel
theorem dX6_pass_180 : decode cX6_pass 180 = .ok (.aload 8, 2) := by decide +kernel
theorem dX6_pass_182 : decode cX6_pass 182 = .ok (.iconst 2, 1) := by decide +kernel
theorem dX6_pass_183 : decode cX6_pass 183 = .ok (.dup2, 1) := by decide +kernel
theorem dX6_pass_184 : decode cX6_pass 184 = .ok (.iaload, 1) := by decide +kernel
theorem dX6_pass_185 : decode cX6_pass 185 = .ok (.iconst 1, 1) := by decide +kernel
theorem dX6_pass_186 : decode cX6_pass 186 = .ok (.iadd, 1) := by decide +kernel
theorem dX6_pass_187 : decode cX6_pass 187 = .ok (.iastore, 1) := by decide +kernel
theorem dX6_pass_188 : decode cX6_pass 188 = .ok (.goto 16, 3) := by decide +kernel
theorem dX6_pass_191 : decode cX6_pass 191 = .ok (.aload_n 2, 1) := by decide +kernel
theorem dX6_pass_192 : decode cX6_pass 192 = .ok (.aload 8, 2) := by decide +kernel
theorem dX6_pass_194 : decode cX6_pass 194 = .ok (.iconst 0, 1) := by decide +kernel
theorem dX6_pass_195 : decode cX6_pass 195 = .ok (.iaload, 1) := by decide +kernel
theorem dX6_pass_196 : decode cX6_pass 196 = .ok (.dup2, 1) := by decide +kernel
theorem dX6_pass_197 : decode cX6_pass 197 = .ok (.iaload, 1) := by decide +kernel
theorem dX6_pass_198 : decode cX6_pass 198 = .ok (.iconst 1, 1) := by decide +kernel
theorem dX6_pass_199 : decode cX6_pass 199 = .ok (.iadd, 1) := by decide +kernel
theorem dX6_pass_200 : decode cX6_pass 200 = .ok (.iastore, 1) := by decide +kernel
theorem dX6_pass_201 : decode cX6_pass 201 = .ok (.iinc 3 1, 3) := by decide +kernel
theorem dX6_pass_204 : decode cX6_pass 204 = .ok (.iinc 6 1, 3) := by decide +kernel
theorem dX6_pass_207 : decode cX6_pass 207 = .ok (.goto (-101), 3) := by decide +kernel
theorem dX6_pass_210 : decode cX6_pass 210 = .ok (.aload_n 0, 1) := by decide +kernel
theorem dX6_pass_211 : decode cX6_pass 211 = .ok (.getfield 19, 3) := by decide +kernel
theorem dX6_pass_214 : decode cX6_pass 214 = .ok (.astore 4, 2) := by decide +kernel
theorem dX6_pass_216 : decode cX6_pass 216 = .ok (.aload 4, 2) := by decide +kernel
theorem dX6_pass_218 : decode cX6_pass 218 = .ok (.arraylength, 1) := by decide +kernel
theorem dX6_pass_219 : decode cX6_pass 219 = .ok (.istore 5, 2) := by decide +kernel
theorem dX6_pass_221 : decode cX6_pass 221 = .ok (.iconst 0, 1) := by decide +kernel
theorem dX6_pass_222 : decode cX6_pass 222 = .ok (.istore 6, 2) := by decide +kernel
theorem dX6_pass_224 : decode cX6_pass 224 = .ok (.iload 6, 2) := by decide +kernel
theorem dX6_pass_226 : decode cX6_pass 226 = .ok (.iload 5, 2) := by decide +kernel
theorem dX6_pass_228 : decode cX6_pass 228 = .ok (.if_icmp .ge 81, 3) := by decide +kernel
theorem dX6_pass_231 : decode cX6_pass 231 = .ok (.aload 4, 2) := by decide +kernel
theorem dX6_pass_233 : decode cX6_pass 233 = .ok (.iload 6, 2) := by decide +kernel
theorem dX6_pass_235 : decode cX6_pass 235 = .ok (.aaload, 1) := by decide +kernel
theorem dX6_pass_236 : decode cX6_pass 236 = .ok (.astore 7, 2) := by decide +kernel
theorem dX6_pass_238 : decode cX6_pass 238 = .ok (.aload 7, 2) := by decide +kernel
theorem dX6_pass_240 : decode cX6_pass 240 = .ok (.iconst 3, 1) := by decide +kernel
theorem dX6_pass_241 : decode cX6_pass 241 = .ok (.iaload, 1) := by decide +kernel
theorem dX6_pass_242 : decode cX6_pass 242 = .ok (.ifCond .ge 6, 3) := by decide +kernel
theorem dX6_pass_245 : decode cX6_pass 245 = .ok (.goto 58, 3) := by decide +kernel
theorem dX6_pass_248 : decode cX6_pass 248 = .ok (.aload 7, 2) := by decide +kernel
theorem dX6_pass_250 : decode cX6_pass 250 = .ok (.iconst 4, 1) := by decide +kernel
theorem dX6_pass_251 : decode cX6_pass 251 = .ok (.dup2, 1) := by decide +kernel
theorem dX6_pass_252 : decode cX6_pass 252 = .ok (.iaload, 1) := by decide +kernel
theorem dX6_pass_253 : decode cX6_pass 253 = .ok (.iconst 1, 1) := by decide +kernel
theorem dX6_pass_254 : decode cX6_pass 254 = .ok (.iadd, 1) := by decide +kernel
theorem dX6_pass_255 : decode cX6_pass 255 = .ok (.iastore, 1) := by decide +kernel
theorem dX6_pass_256 : decode cX6_pass 256 = .ok (.aload 7, 2) := by decide +kernel
theorem dX6_pass_258 : decode cX6_pass 258 = .ok (.iconst 5, 1) := by decide +kernel
theorem dX6_pass_259 : decode cX6_pass 259 = .ok (.iaload, 1) := by decide +kernel
theorem dX6_pass_260 : decode cX6_pass 260 = .ok (.ifCond .le 43, 3) := by decide +kernel
theorem dX6_pass_263 : decode cX6_pass 263 = .ok (.aload 7, 2) := by decide +kernel
theorem dX6_pass_265 : decode cX6_pass 265 = .ok (.iconst 4, 1) := by decide +kernel
theorem dX6_pass_266 : decode cX6_pass 266 = .ok (.iaload, 1) := by decide +kernel
theorem dX6_pass_267 : decode cX6_pass 267 = .ok (.aload 7, 2) := by decide +kernel
theorem dX6_pass_269 : decode cX6_pass 269 = .ok (.iconst 5, 1) := by decide +kernel
theorem dX6_pass_270 : decode cX6_pass 270 = .ok (.iaload, 1) := by decide +kernel
theorem dX6_pass_271 : decode cX6_pass 271 = .ok (.irem, 1) := by decide +kernel
theorem dX6_pass_272 : decode cX6_pass 272 = .ok (.ifCond .ne 31, 3) := by decide +kernel
theorem dX6_pass_275 : decode cX6_pass 275 = .ok (.aload_n 0, 1) := by decide +kernel
theorem dX6_pass_276 : decode cX6_pass 276 = .ok (.getfield 24, 3) := by decide +kernel
theorem dX6_pass_279 : decode cX6_pass 279 = .ok (.aload 7, 2) := by decide +kernel
theorem dX6_pass_281 : decode cX6_pass 281 = .ok (.iconst 3, 1) := by decide +kernel
theorem dX6_pass_282 : decode cX6_pass 282 = .ok (.iaload, 1) := by decide +kernel
theorem dX6_pass_283 : decode cX6_pass 283 = .ok (.aaload, 1) := by decide +kernel
theorem dX6_pass_284 : decode cX6_pass 284 = .ok (.aload_n 0, 1) := by decide +kernel
theorem dX6_pass_285 : decode cX6_pass 285 = .ok (.getfield 24, 3) := by decide +kernel
theorem dX6_pass_288 : decode cX6_pass 288 = .ok (.aload 7, 2) := by decide +kernel
theorem dX6_pass_290 : decode cX6_pass 290 = .ok (.iconst 3, 1) := by decide +kernel
theorem dX6_pass_291 : decode cX6_pass 291 = .ok (.iaload, 1) := by decide +kernel
theorem dX6_pass_292 : decode cX6_pass 292 = .ok (.aaload, 1) := by decide +kernel
theorem dX6_pass_293 : decode cX6_pass 293 = .ok (.getfield 61, 3) := by decide +kernel
theorem dX6_pass_296 : decode cX6_pass 296 = .ok (.iconst 1, 1) := by decide +kernel
theorem dX6_pass_297 : decode cX6_pass 297 = .ok (.iadd, 1) := by decide +kernel
theorem dX6_pass_298 : decode cX6_pass 298 = .ok (.iconst 4, 1) := by decide +kernel
theorem dX6_pass_299 : decode cX6_pass 299 = .ok (.irem, 1) := by decide +kernel
theorem dX6_pass_300 : decode cX6_pass 300 = .ok (.putfield 61, 3) := by decide +kernel
theorem dX6_pass_303 : decode cX6_pass 303 = .ok (.iinc 6 1, 3) := by decide +kernel
theorem dX6_pass_306 : decode cX6_pass 306 = .ok (.goto (-82), 3) := by decide +kernel
theorem dX6_pass_309 : decode cX6_pass 309 = .ok (.iconst 0, 1) := by decide +kernel
theorem dX6_pass_310 : decode cX6_pass 310 = .ok (.istore 4, 2) := by decide +kernel
theorem dX6_pass_312 : decode cX6_pass 312 = .ok (.iload 4, 2) := by decide +kernel
theorem dX6_pass_314 : decode cX6_pass 314 = .ok (.aload_n 0, 1) := by decide +kernel
theorem dX6_pass_315 : decode cX6_pass 315 = .ok (.getfield 15, 3) := by decide +kernel
theorem dX6_pass_318 : decode cX6_pass 318 = .ok (.arraylength, 1) := by decide +kernel
theorem dX6_pass_319 : decode cX6_pass 319 = .ok (.if_icmp .ge 109, 3) := by decide +kernel
theorem dX6_pass_322 : decode cX6_pass 322 = .ok (.aload_n 0, 1) := by decide +kernel
theorem dX6_pass_323 : decode cX6_pass 323 = .ok (.getfield 15, 3) := by decide +kernel
theorem dX6_pass_326 : decode cX6_pass 326 = .ok (.iload 4, 2) := by decide +kernel
theorem dX6_pass_328 : decode cX6_pass 328 = .ok (.aaload, 1) := by decide +kernel
theorem dX6_pass_329 : decode cX6_pass 329 = .ok (.iconst 1, 1) := by decide +kernel
theorem dX6_pass_330 : decode cX6_pass 330 = .ok (.iaload, 1) := by decide +kernel
theorem dX6_pass_331 : decode cX6_pass 331 = .ok (.aload_n 2, 1) := by decide +kernel
theorem dX6_pass_332 : decode cX6_pass 332 = .ok (.iload 4, 2) := by decide +kernel
theorem dX6_pass_334 : decode cX6_pass 334 = .ok (.iaload, 1) := by decide +kernel
theorem dX6_pass_335 : decode cX6_pass 335 = .ok (.iadd, 1) := by decide +kernel
theorem dX6_pass_336 : decode cX6_pass 336 = .ok (.aload_n 0, 1) := by decide +kernel
theorem dX6_pass_337 : decode cX6_pass 337 = .ok (.getfield 15, 3) := by decide +kernel
theorem dX6_pass_340 : decode cX6_pass 340 = .ok (.iload 4, 2) := by decide +kernel
theorem dX6_pass_342 : decode cX6_pass 342 = .ok (.aaload, 1) := by decide +kernel
theorem dX6_pass_343 : decode cX6_pass 343 = .ok (.iconst 0, 1) := by decide +kernel
theorem dX6_pass_344 : decode cX6_pass 344 = .ok (.iaload, 1) := by decide +kernel
theorem dX6_pass_345 : decode cX6_pass 345 = .ok (.ifCond .le 7, 3) := by decide +kernel
theorem dX6_pass_348 : decode cX6_pass 348 = .ok (.iconst 1, 1) := by decide +kernel
theorem dX6_pass_349 : decode cX6_pass 349 = .ok (.goto 4, 3) := by decide +kernel
theorem dX6_pass_352 : decode cX6_pass 352 = .ok (.iconst (-1), 1) := by decide +kernel
theorem dX6_pass_353 : decode cX6_pass 353 = .ok (.iadd, 1) := by decide +kernel
theorem dX6_pass_354 : decode cX6_pass 354 = .ok (.istore 5, 2) := by decide +kernel
theorem dX6_pass_356 : decode cX6_pass 356 = .ok (.aload_n 0, 1) := by decide +kernel
theorem dX6_pass_357 : decode cX6_pass 357 = .ok (.getfield 15, 3) := by decide +kernel
theorem dX6_pass_360 : decode cX6_pass 360 = .ok (.iload 4, 2) := by decide +kernel
theorem dX6_pass_362 : decode cX6_pass 362 = .ok (.aaload, 1) := by decide +kernel
theorem dX6_pass_363 : decode cX6_pass 363 = .ok (.iconst 0, 1) := by decide +kernel
theorem dX6_pass_364 : decode cX6_pass 364 = .ok (.iaload, 1) := by decide +kernel
theorem dX6_pass_365 : decode cX6_pass 365 = .ok (.ifCond .le 25, 3) := by decide +kernel
theorem dX6_pass_368 : decode cX6_pass 368 = .ok (.aload_n 0, 1) := by decide +kernel
theorem dX6_pass_369 : decode cX6_pass 369 = .ok (.getfield 39, 3) := by decide +kernel
theorem dX6_pass_372 : decode cX6_pass 372 = .ok (.iconst 5, 1) := by decide +kernel
theorem dX6_pass_373 : decode cX6_pass 373 = .ok (.irem, 1) := by decide +kernel
theorem dX6_pass_374 : decode cX6_pass 374 = .ok (.ifCond .ne 16, 3) := by decide +kernel
theorem dX6_pass_377 : decode cX6_pass 377 = .ok (.aload_n 0, 1) := by decide +kernel
theorem dX6_pass_378 : decode cX6_pass 378 = .ok (.getfield 15, 3) := by decide +kernel
theorem dX6_pass_381 : decode cX6_pass 381 = .ok (.iload 4, 2) := by decide +kernel
theorem dX6_pass_383 : decode cX6_pass 383 = .ok (.aaload, 1) := by decide +kernel
theorem dX6_pass_384 : decode cX6_pass 384 = .ok (.iconst 0, 1) := by decide +kernel
theorem dX6_pass_385 : decode cX6_pass 385 = .ok (.dup2, 1) := by decide +kernel
theorem dX6_pass_386 : decode cX6_pass 386 = .ok (.iaload, 1) := by decide +kernel
theorem dX6_pass_387 : decode cX6_pass 387 = .ok (.iconst 1, 1) := by decide +kernel
theorem dX6_pass_388 : decode cX6_pass 388 = .ok (.isub, 1) := by decide +kernel
theorem dX6_pass_389 : decode cX6_pass 389 = .ok (.iastore, 1) := by decide +kernel
theorem dX6_pass_390 : decode cX6_pass 390 = .ok (.aload_n 0, 1) := by decide +kernel
theorem dX6_pass_391 : decode cX6_pass 391 = .ok (.getfield 15, 3) := by decide +kernel
theorem dX6_pass_394 : decode cX6_pass 394 = .ok (.iload 4, 2) := by decide +kernel
theorem dX6_pass_396 : decode cX6_pass 396 = .ok (.aaload, 1) := by decide +kernel
theorem dX6_pass_397 : decode cX6_pass 397 = .ok (.iconst 1, 1) := by decide +kernel
theorem dX6_pass_398 : decode cX6_pass 398 = .ok (.iload 5, 2) := by decide +kernel
theorem dX6_pass_400 : decode cX6_pass 400 = .ok (.ifCond .ge 7, 3) := by decide +kernel
theorem dX6_pass_403 : decode cX6_pass 403 = .ok (.iconst 0, 1) := by decide +kernel
theorem dX6_pass_404 : decode cX6_pass 404 = .ok (.goto 17, 3) := by decide +kernel
theorem dX6_pass_407 : decode cX6_pass 407 = .ok (.iload 5, 2) := by decide +kernel
theorem dX6_pass_409 : decode cX6_pass 409 = .ok (.bipush 9, 2) := by decide +kernel
theorem dX6_pass_411 : decode cX6_pass 411 = .ok (.if_icmp .le 8, 3) := by decide +kernel
theorem dX6_pass_414 : decode cX6_pass 414 = .ok (.bipush 9, 2) := by decide +kernel
theorem dX6_pass_416 : decode cX6_pass 416 = .ok (.goto 5, 3) := by decide +kernel
theorem dX6_pass_419 : decode cX6_pass 419 = .ok (.iload 5, 2) := by decide +kernel
theorem dX6_pass_421 : decode cX6_pass 421 = .ok (.iastore, 1) := by decide +kernel
theorem dX6_pass_422 : decode cX6_pass 422 = .ok (.iinc 4 1, 3) := by decide +kernel
theorem dX6_pass_425 : decode cX6_pass 425 = .ok (.goto (-113), 3) := by decide +kernel
theorem dX6_pass_428 : decode cX6_pass 428 = .ok (.aload_n 0, 1) := by decide +kernel
theorem dX6_pass_429 : decode cX6_pass 429 = .ok (.dup, 1) := by decide +kernel
theorem dX6_pass_430 : decode cX6_pass 430 = .ok (.getfield 39, 3) := by decide +kernel
theorem dX6_pass_433 : decode cX6_pass 433 = .ok (.iconst 1, 1) := by decide +kernel
theorem dX6_pass_434 : decode cX6_pass 434 = .ok (.iadd, 1) := by decide +kernel
theorem dX6_pass_435 : decode cX6_pass 435 = .ok (.putfield 39, 3) := by decide +kernel
theorem dX6_pass_438 : decode cX6_pass 438 = .ok (.iload_n 3, 1) := by decide +kernel
theorem dX6_pass_439 : decode cX6_pass 439 = .ok (.ireturn, 1) := by decide +kernel
theorem dX6_isSame_0 : decode cX6_isSame 0 = .ok (.aload_n 1, 1) := by decide +kernel
theorem dX6_isSame_1 : decode cX6_isSame 1 = .ok (.invokevirtual 75, 3) := by decide +kernel
theorem dX6_isSame_4 : decode cX6_isSame 4 = .ok (.aload_n 0, 1) := by decide +kernel
theorem dX6_isSame_5 : decode cX6_isSame 5 = .ok (.getfield 39, 3) := by decide +kernel
theorem dX6_isSame_8 : decode cX6_isSame 8 = .ok (.if_icmp .ne 50, 3) := by decide +kernel
theorem dX6_isSame_11 : decode cX6_isSame 11 = .ok (.aload_n 1, 1) := by decide +kernel
theorem dX6_isSame_12 : decode cX6_isSame 12 = .ok (.invokevirtual 79, 3) := by decide +kernel
theorem dX6_isSame_15 : decode cX6_isSame 15 = .ok (.aload_n 0, 1) := by decide +kernel
theorem dX6_isSame_16 : decode cX6_isSame 16 = .ok (.getfield 7, 3) := by decide +kernel
theorem dX6_isSame_19 : decode cX6_isSame 19 = .ok (.if_icmp .ne 39, 3) := by decide +kernel
theorem dX6_isSame_22 : decode cX6_isSame 22 = .ok (.aload_n 1, 1) := by decide +kernel
theorem dX6_isSame_23 : decode cX6_isSame 23 = .ok (.invokevirtual 81, 3) := by decide +kernel
theorem dX6_isSame_26 : decode cX6_isSame 26 = .ok (.aload_n 0, 1) := by decide +kernel
theorem dX6_isSame_27 : decode cX6_isSame 27 = .ok (.getfield 15, 3) := by decide +kernel
theorem dX6_isSame_30 : decode cX6_isSame 30 = .ok (.arraylength, 1) := by decide +kernel
theorem dX6_isSame_31 : decode cX6_isSame 31 = .ok (.if_icmp .ne 27, 3) := by decide +kernel
theorem dX6_isSame_34 : decode cX6_isSame 34 = .ok (.aload_n 1, 1) := by decide +kernel
theorem dX6_isSame_35 : decode cX6_isSame 35 = .ok (.invokevirtual 83, 3) := by decide +kernel
theorem dX6_isSame_38 : decode cX6_isSame 38 = .ok (.aload_n 0, 1) := by decide +kernel
theorem dX6_isSame_39 : decode cX6_isSame 39 = .ok (.getfield 19, 3) := by decide +kernel
theorem dX6_isSame_42 : decode cX6_isSame 42 = .ok (.arraylength, 1) := by decide +kernel
theorem dX6_isSame_43 : decode cX6_isSame 43 = .ok (.if_icmp .ne 15, 3) := by decide +kernel
theorem dX6_isSame_46 : decode cX6_isSame 46 = .ok (.aload_n 1, 1) := by decide +kernel
theorem dX6_isSame_47 : decode cX6_isSame 47 = .ok (.invokevirtual 85, 3) := by decide +kernel
theorem dX6_isSame_50 : decode cX6_isSame 50 = .ok (.aload_n 0, 1) := by decide +kernel
theorem dX6_isSame_51 : decode cX6_isSame 51 = .ok (.getfield 24, 3) := by decide +kernel
theorem dX6_isSame_54 : decode cX6_isSame 54 = .ok (.arraylength, 1) := by decide +kernel
theorem dX6_isSame_55 : decode cX6_isSame 55 = .ok (.if_icmp .eq 5, 3) := by decide +kernel
theorem dX6_isSame_58 : decode cX6_isSame 58 = .ok (.iconst 0, 1) := by decide +kernel
theorem dX6_isSame_59 : decode cX6_isSame 59 = .ok (.ireturn, 1) := by decide +kernel
theorem dX6_isSame_60 : decode cX6_isSame 60 = .ok (.iconst 0, 1) := by decide +kernel
theorem dX6_isSame_61 : decode cX6_isSame 61 = .ok (.istore_n 2, 1) := by decide +kernel
theorem dX6_isSame_62 : decode cX6_isSame 62 = .ok (.iload_n 2, 1) := by decide +kernel
theorem dX6_isSame_63 : decode cX6_isSame 63 = .ok (.aload_n 0, 1) := by decide +kernel
theorem dX6_isSame_64 : decode cX6_isSame 64 = .ok (.getfield 15, 3) := by decide +kernel
theorem dX6_isSame_67 : decode cX6_isSame 67 = .ok (.arraylength, 1) := by decide +kernel
theorem dX6_isSame_68 : decode cX6_isSame 68 = .ok (.if_icmp .ge 43, 3) := by decide +kernel
theorem dX6_isSame_71 : decode cX6_isSame 71 = .ok (.aload_n 1, 1) := by decide +kernel
theorem dX6_isSame_72 : decode cX6_isSame 72 = .ok (.iload_n 2, 1) := by decide +kernel
theorem dX6_isSame_73 : decode cX6_isSame 73 = .ok (.invokevirtual 87, 3) := by decide +kernel
theorem dX6_isSame_76 : decode cX6_isSame 76 = .ok (.aload_n 0, 1) := by decide +kernel
theorem dX6_isSame_77 : decode cX6_isSame 77 = .ok (.getfield 15, 3) := by decide +kernel
theorem dX6_isSame_80 : decode cX6_isSame 80 = .ok (.iload_n 2, 1) := by decide +kernel
theorem dX6_isSame_81 : decode cX6_isSame 81 = .ok (.aaload, 1) := by decide +kernel
theorem dX6_isSame_82 : decode cX6_isSame 82 = .ok (.iconst 0, 1) := by decide +kernel
theorem dX6_isSame_83 : decode cX6_isSame 83 = .ok (.iaload, 1) := by decide +kernel
theorem dX6_isSame_84 : decode cX6_isSame 84 = .ok (.if_icmp .ne 19, 3) := by decide +kernel
theorem dX6_isSame_87 : decode cX6_isSame 87 = .ok (.aload_n 1, 1) := by decide +kernel
theorem dX6_isSame_88 : decode cX6_isSame 88 = .ok (.iload_n 2, 1) := by decide +kernel
theorem dX6_isSame_89 : decode cX6_isSame 89 = .ok (.invokevirtual 90, 3) := by decide +kernel
theorem dX6_isSame_92 : decode cX6_isSame 92 = .ok (.aload_n 0, 1) := by decide +kernel
theorem dX6_isSame_93 : decode cX6_isSame 93 = .ok (.getfield 15, 3) := by decide +kernel
theorem dX6_isSame_96 : decode cX6_isSame 96 = .ok (.iload_n 2, 1) := by decide +kernel
theorem dX6_isSame_97 : decode cX6_isSame 97 = .ok (.aaload, 1) := by decide +kernel
theorem dX6_isSame_98 : decode cX6_isSame 98 = .ok (.iconst 1, 1) := by decide +kernel
theorem dX6_isSame_99 : decode cX6_isSame 99 = .ok (.iaload, 1) := by decide +kernel
theorem dX6_isSame_100 : decode cX6_isSame 100 = .ok (.if_icmp .eq 5, 3) := by decide +kernel
theorem dX6_isSame_103 : decode cX6_isSame 103 = .ok (.iconst 0, 1) := by decide +kernel
theorem dX6_isSame_104 : decode cX6_isSame 104 = .ok (.ireturn, 1) := by decide +kernel
theorem dX6_isSame_105 : decode cX6_isSame 105 = .ok (.iinc 2 1, 3) := by decide +kernel
theorem dX6_isSame_108 : decode cX6_isSame 108 = .ok (.goto (-46), 3) := by decide +kernel
theorem dX6_isSame_111 : decode cX6_isSame 111 = .ok (.iconst 0, 1) := by decide +kernel
theorem dX6_isSame_112 : decode cX6_isSame 112 = .ok (.istore_n 2, 1) := by decide +kernel
theorem dX6_isSame_113 : decode cX6_isSame 113 = .ok (.iload_n 2, 1) := by decide +kernel
theorem dX6_isSame_114 : decode cX6_isSame 114 = .ok (.aload_n 0, 1) := by decide +kernel
theorem dX6_isSame_115 : decode cX6_isSame 115 = .ok (.getfield 19, 3) := by decide +kernel
theorem dX6_isSame_118 : decode cX6_isSame 118 = .ok (.arraylength, 1) := by decide +kernel
theorem dX6_isSame_119 : decode cX6_isSame 119 = .ok (.if_icmp .ge 104, 3) := by decide +kernel
theorem dX6_isSame_122 : decode cX6_isSame 122 = .ok (.aload_n 1, 1) := by decide +kernel
theorem dX6_isSame_123 : decode cX6_isSame 123 = .ok (.iload_n 2, 1) := by decide +kernel
theorem dX6_isSame_124 : decode cX6_isSame 124 = .ok (.invokevirtual 93, 3) := by decide +kernel
theorem dX6_isSame_127 : decode cX6_isSame 127 = .ok (.aload_n 0, 1) := by decide +kernel
theorem dX6_isSame_128 : decode cX6_isSame 128 = .ok (.getfield 19, 3) := by decide +kernel
theorem dX6_isSame_131 : decode cX6_isSame 131 = .ok (.iload_n 2, 1) := by decide +kernel
theorem dX6_isSame_132 : decode cX6_isSame 132 = .ok (.aaload, 1) := by decide +kernel
theorem dX6_isSame_133 : decode cX6_isSame 133 = .ok (.iconst 0, 1) := by decide +kernel
theorem dX6_isSame_134 : decode cX6_isSame 134 = .ok (.iaload, 1) := by decide +kernel
theorem dX6_isSame_135 : decode cX6_isSame 135 = .ok (.if_icmp .ne 80, 3) := by decide +kernel
theorem dX6_isSame_138 : decode cX6_isSame 138 = .ok (.aload_n 1, 1) := by decide +kernel
theorem dX6_isSame_139 : decode cX6_isSame 139 = .ok (.iload_n 2, 1) := by decide +kernel
theorem dX6_isSame_140 : decode cX6_isSame 140 = .ok (.invokevirtual 96, 3) := by decide +kernel
theorem dX6_isSame_143 : decode cX6_isSame 143 = .ok (.aload_n 0, 1) := by decide +kernel
theorem dX6_isSame_144 : decode cX6_isSame 144 = .ok (.getfield 19, 3) := by decide +kernel
theorem dX6_isSame_147 : decode cX6_isSame 147 = .ok (.iload_n 2, 1) := by decide +kernel
theorem dX6_isSame_148 : decode cX6_isSame 148 = .ok (.aaload, 1) := by decide +kernel
theorem dX6_isSame_149 : decode cX6_isSame 149 = .ok (.iconst 1, 1) := by decide +kernel
theorem dX6_isSame_150 : decode cX6_isSame 150 = .ok (.iaload, 1) := by decide +kernel
theorem dX6_isSame_151 : decode cX6_isSame 151 = .ok (.if_icmp .ne 64, 3) := by decide +kernel
theorem dX6_isSame_154 : decode cX6_isSame 154 = .ok (.aload_n 1, 1) := by decide +kernel
theorem dX6_isSame_155 : decode cX6_isSame 155 = .ok (.iload_n 2, 1) := by decide +kernel
theorem dX6_isSame_156 : decode cX6_isSame 156 = .ok (.invokevirtual 99, 3) := by decide +kernel
theorem dX6_isSame_159 : decode cX6_isSame 159 = .ok (.aload_n 0, 1) := by decide +kernel
theorem dX6_isSame_160 : decode cX6_isSame 160 = .ok (.iload_n 2, 1) := by decide +kernel
theorem dX6_isSame_161 : decode cX6_isSame 161 = .ok (.invokevirtual 50, 3) := by decide +kernel
theorem dX6_isSame_164 : decode cX6_isSame 164 = .ok (.if_icmp .ne 51, 3) := by decide +kernel
theorem dX6_isSame_167 : decode cX6_isSame 167 = .ok (.aload_n 1, 1) := by decide +kernel
theorem dX6_isSame_168 : decode cX6_isSame 168 = .ok (.iload_n 2, 1) := by decide +kernel
theorem dX6_isSame_169 : decode cX6_isSame 169 = .ok (.invokevirtual 102, 3) := by decide +kernel
theorem dX6_isSame_172 : decode cX6_isSame 172 = .ok (.aload_n 0, 1) := by decide +kernel
theorem dX6_isSame_173 : decode cX6_isSame 173 = .ok (.getfield 19, 3) := by decide +kernel
theorem dX6_isSame_176 : decode cX6_isSame 176 = .ok (.iload_n 2, 1) := by decide +kernel
theorem dX6_isSame_177 : decode cX6_isSame 177 = .ok (.aaload, 1) := by decide +kernel
theorem dX6_isSame_178 : decode cX6_isSame 178 = .ok (.iconst 2, 1) := by decide +kernel
theorem dX6_isSame_179 : decode cX6_isSame 179 = .ok (.iaload, 1) := by decide +kernel
theorem dX6_isSame_180 : decode cX6_isSame 180 = .ok (.if_icmp .ne 35, 3) := by decide +kernel
theorem dX6_isSame_183 : decode cX6_isSame 183 = .ok (.aload_n 1, 1) := by decide +kernel
theorem dX6_isSame_184 : decode cX6_isSame 184 = .ok (.iload_n 2, 1) := by decide +kernel
theorem dX6_isSame_185 : decode cX6_isSame 185 = .ok (.invokevirtual 105, 3) := by decide +kernel
theorem dX6_isSame_188 : decode cX6_isSame 188 = .ok (.aload_n 0, 1) := by decide +kernel
theorem dX6_isSame_189 : decode cX6_isSame 189 = .ok (.getfield 19, 3) := by decide +kernel
theorem dX6_isSame_192 : decode cX6_isSame 192 = .ok (.iload_n 2, 1) := by decide +kernel
theorem dX6_isSame_193 : decode cX6_isSame 193 = .ok (.aaload, 1) := by decide +kernel
theorem dX6_isSame_194 : decode cX6_isSame 194 = .ok (.iconst 3, 1) := by decide +kernel
theorem dX6_isSame_195 : decode cX6_isSame 195 = .ok (.iaload, 1) := by decide +kernel
theorem dX6_isSame_196 : decode cX6_isSame 196 = .ok (.if_icmp .ne 19, 3) := by decide +kernel
theorem dX6_isSame_199 : decode cX6_isSame 199 = .ok (.aload_n 1, 1) := by decide +kernel
theorem dX6_isSame_200 : decode cX6_isSame 200 = .ok (.iload_n 2, 1) := by decide +kernel
theorem dX6_isSame_201 : decode cX6_isSame 201 = .ok (.invokevirtual 108, 3) := by decide +kernel
theorem dX6_isSame_204 : decode cX6_isSame 204 = .ok (.aload_n 0, 1) := by decide +kernel
theorem dX6_isSame_205 : decode cX6_isSame 205 = .ok (.getfield 19, 3) := by decide +kernel
theorem dX6_isSame_208 : decode cX6_isSame 208 = .ok (.iload_n 2, 1) := by decide +kernel
theorem dX6_isSame_209 : decode cX6_isSame 209 = .ok (.aaload, 1) := by decide +kernel
theorem dX6_isSame_210 : decode cX6_isSame 210 = .ok (.iconst 5, 1) := by decide +kernel
theorem dX6_isSame_211 : decode cX6_isSame 211 = .ok (.iaload, 1) := by decide +kernel
theorem dX6_isSame_212 : decode cX6_isSame 212 = .ok (.if_icmp .eq 5, 3) := by decide +kernel
theorem dX6_isSame_215 : decode cX6_isSame 215 = .ok (.iconst 0, 1) := by decide +kernel
theorem dX6_isSame_216 : decode cX6_isSame 216 = .ok (.ireturn, 1) := by decide +kernel
theorem dX6_isSame_217 : decode cX6_isSame 217 = .ok (.iinc 2 1, 3) := by decide +kernel
theorem dX6_isSame_220 : decode cX6_isSame 220 = .ok (.goto (-107), 3) := by decide +kernel
theorem dX6_isSame_223 : decode cX6_isSame 223 = .ok (.iconst 0, 1) := by decide +kernel
theorem dX6_isSame_224 : decode cX6_isSame 224 = .ok (.istore_n 2, 1) := by decide +kernel
theorem dX6_isSame_225 : decode cX6_isSame 225 = .ok (.iconst 0, 1) := by decide +kernel
theorem dX6_isSame_226 : decode cX6_isSame 226 = .ok (.istore_n 3, 1) := by decide +kernel
theorem dX6_isSame_227 : decode cX6_isSame 227 = .ok (.iload_n 3, 1) := by decide +kernel
theorem dX6_isSame_228 : decode cX6_isSame 228 = .ok (.aload_n 0, 1) := by decide +kernel
theorem dX6_isSame_229 : decode cX6_isSame 229 = .ok (.getfield 24, 3) := by decide +kernel
theorem dX6_isSame_232 : decode cX6_isSame 232 = .ok (.arraylength, 1) := by decide +kernel
theorem dX6_isSame_233 : decode cX6_isSame 233 = .ok (.if_icmp .ge 156, 3) := by decide +kernel
theorem dX6_isSame_236 : decode cX6_isSame 236 = .ok (.aload_n 0, 1) := by decide +kernel
theorem dX6_isSame_237 : decode cX6_isSame 237 = .ok (.getfield 24, 3) := by decide +kernel
theorem dX6_isSame_240 : decode cX6_isSame 240 = .ok (.iload_n 3, 1) := by decide +kernel
theorem dX6_isSame_241 : decode cX6_isSame 241 = .ok (.aaload, 1) := by decide +kernel
theorem dX6_isSame_242 : decode cX6_isSame 242 = .ok (.astore 4, 2) := by decide +kernel
theorem dX6_isSame_244 : decode cX6_isSame 244 = .ok (.aload_n 1, 1) := by decide +kernel
theorem dX6_isSame_245 : decode cX6_isSame 245 = .ok (.iload_n 3, 1) := by decide +kernel
theorem dX6_isSame_246 : decode cX6_isSame 246 = .ok (.invokevirtual 111, 3) := by decide +kernel
theorem dX6_isSame_249 : decode cX6_isSame 249 = .ok (.aload 4, 2) := by decide +kernel
theorem dX6_isSame_251 : decode cX6_isSame 251 = .ok (.getfield 29, 3) := by decide +kernel
theorem dX6_isSame_254 : decode cX6_isSame 254 = .ok (.if_icmp .ne 81, 3) := by decide +kernel
theorem dX6_isSame_257 : decode cX6_isSame 257 = .ok (.aload_n 1, 1) := by decide +kernel
theorem dX6_isSame_258 : decode cX6_isSame 258 = .ok (.iload_n 3, 1) := by decide +kernel
theorem dX6_isSame_259 : decode cX6_isSame 259 = .ok (.invokevirtual 114, 3) := by decide +kernel
theorem dX6_isSame_262 : decode cX6_isSame 262 = .ok (.aload 4, 2) := by decide +kernel
theorem dX6_isSame_264 : decode cX6_isSame 264 = .ok (.getfield 32, 3) := by decide +kernel
theorem dX6_isSame_267 : decode cX6_isSame 267 = .ok (.if_icmp .ne 68, 3) := by decide +kernel
theorem dX6_isSame_270 : decode cX6_isSame 270 = .ok (.aload_n 1, 1) := by decide +kernel
theorem dX6_isSame_271 : decode cX6_isSame 271 = .ok (.iload_n 3, 1) := by decide +kernel
theorem dX6_isSame_272 : decode cX6_isSame 272 = .ok (.invokevirtual 117, 3) := by decide +kernel
theorem dX6_isSame_275 : decode cX6_isSame 275 = .ok (.aload 4, 2) := by decide +kernel
theorem dX6_isSame_277 : decode cX6_isSame 277 = .ok (.getfield 61, 3) := by decide +kernel
theorem dX6_isSame_280 : decode cX6_isSame 280 = .ok (.if_icmp .ne 55, 3) := by decide +kernel
theorem dX6_isSame_283 : decode cX6_isSame 283 = .ok (.aload_n 1, 1) := by decide +kernel
theorem dX6_isSame_284 : decode cX6_isSame 284 = .ok (.iload_n 3, 1) := by decide +kernel
theorem dX6_isSame_285 : decode cX6_isSame 285 = .ok (.invokevirtual 120, 3) := by decide +kernel
theorem dX6_isSame_288 : decode cX6_isSame 288 = .ok (.aload 4, 2) := by decide +kernel
theorem dX6_isSame_290 : decode cX6_isSame 290 = .ok (.getfield 35, 3) := by decide +kernel
theorem dX6_isSame_293 : decode cX6_isSame 293 = .ok (.if_icmp .ne 42, 3) := by decide +kernel
theorem dX6_isSame_296 : decode cX6_isSame 296 = .ok (.aload_n 1, 1) := by decide +kernel
theorem dX6_isSame_297 : decode cX6_isSame 297 = .ok (.iload_n 3, 1) := by decide +kernel
theorem dX6_isSame_298 : decode cX6_isSame 298 = .ok (.invokevirtual 123, 3) := by decide +kernel
theorem dX6_isSame_301 : decode cX6_isSame 301 = .ok (.aload 4, 2) := by decide +kernel
theorem dX6_isSame_303 : decode cX6_isSame 303 = .ok (.getfield 126, 3) := by decide +kernel
theorem dX6_isSame_306 : decode cX6_isSame 306 = .ok (.if_icmp .ne 29, 3) := by decide +kernel
theorem dX6_isSame_309 : decode cX6_isSame 309 = .ok (.aload_n 1, 1) := by decide +kernel
theorem dX6_isSame_310 : decode cX6_isSame 310 = .ok (.iload_n 3, 1) := by decide +kernel
theorem dX6_isSame_311 : decode cX6_isSame 311 = .ok (.invokevirtual 129, 3) := by decide +kernel
theorem dX6_isSame_314 : decode cX6_isSame 314 = .ok (.aload 4, 2) := by decide +kernel
theorem dX6_isSame_316 : decode cX6_isSame 316 = .ok (.invokevirtual 68, 3) := by decide +kernel
theorem dX6_isSame_319 : decode cX6_isSame 319 = .ok (.if_icmp .ne 16, 3) := by decide +kernel
theorem dX6_isSame_322 : decode cX6_isSame 322 = .ok (.aload_n 1, 1) := by decide +kernel
theorem dX6_isSame_323 : decode cX6_isSame 323 = .ok (.iload_n 3, 1) := by decide +kernel
theorem dX6_isSame_324 : decode cX6_isSame 324 = .ok (.invokevirtual 132, 3) := by decide +kernel
theorem dX6_isSame_327 : decode cX6_isSame 327 = .ok (.aload 4, 2) := by decide +kernel
theorem dX6_isSame_329 : decode cX6_isSame 329 = .ok (.invokevirtual 64, 3) := by decide +kernel
theorem dX6_isSame_332 : decode cX6_isSame 332 = .ok (.if_icmp .eq 5, 3) := by decide +kernel
theorem dX6_isSame_335 : decode cX6_isSame 335 = .ok (.iconst 0, 1) := by decide +kernel
theorem dX6_isSame_336 : decode cX6_isSame 336 = .ok (.ireturn, 1) := by decide +kernel
theorem dX6_isSame_337 : decode cX6_isSame 337 = .ok (.iconst 0, 1) := by decide +kernel
theorem dX6_isSame_338 : decode cX6_isSame 338 = .ok (.istore 5, 2) := by decide +kernel
theorem dX6_isSame_340 : decode cX6_isSame 340 = .ok (.iload 5, 2) := by decide +kernel
theorem dX6_isSame_342 : decode cX6_isSame 342 = .ok (.iconst 4, 1) := by decide +kernel
theorem dX6_isSame_343 : decode cX6_isSame 343 = .ok (.if_icmp .ge 40, 3) := by decide +kernel
theorem dX6_isSame_346 : decode cX6_isSame 346 = .ok (.aload_n 1, 1) := by decide +kernel
theorem dX6_isSame_347 : decode cX6_isSame 347 = .ok (.iload_n 3, 1) := by decide +kernel
theorem dX6_isSame_348 : decode cX6_isSame 348 = .ok (.iload 5, 2) := by decide +kernel
theorem dX6_isSame_350 : decode cX6_isSame 350 = .ok (.invokevirtual 134, 3) := by decide +kernel
theorem dX6_isSame_353 : decode cX6_isSame 353 = .ok (.aload 4, 2) := by decide +kernel
theorem dX6_isSame_355 : decode cX6_isSame 355 = .ok (.getfield 138, 3) := by decide +kernel
theorem dX6_isSame_358 : decode cX6_isSame 358 = .ok (.iload 5, 2) := by decide +kernel
theorem dX6_isSame_360 : decode cX6_isSame 360 = .ok (.iaload, 1) := by decide +kernel
theorem dX6_isSame_361 : decode cX6_isSame 361 = .ok (.if_icmp .eq 5, 3) := by decide +kernel
theorem dX6_isSame_364 : decode cX6_isSame 364 = .ok (.iconst 0, 1) := by decide +kernel
theorem dX6_isSame_365 : decode cX6_isSame 365 = .ok (.ireturn, 1) := by decide +kernel
theorem dX6_isSame_366 : decode cX6_isSame 366 = .ok (.iload_n 2, 1) := by decide +kernel
theorem dX6_isSame_367 : decode cX6_isSame 367 = .ok (.aload 4, 2) := by decide +kernel
theorem dX6_isSame_369 : decode cX6_isSame 369 = .ok (.getfield 138, 3) := by decide +kernel
theorem dX6_isSame_372 : decode cX6_isSame 372 = .ok (.iload 5, 2) := by decide +kernel
theorem dX6_isSame_374 : decode cX6_isSame 374 = .ok (.iaload, 1) := by decide +kernel
theorem dX6_isSame_375 : decode cX6_isSame 375 = .ok (.iadd, 1) := by decide +kernel
theorem dX6_isSame_376 : decode cX6_isSame 376 = .ok (.istore_n 2, 1) := by decide +kernel
theorem dX6_isSame_377 : decode cX6_isSame 377 = .ok (.iinc 5 1, 3) := by decide +kernel
theorem dX6_isSame_380 : decode cX6_isSame 380 = .ok (.goto (-40), 3) := by decide +kernel
theorem dX6_isSame_383 : decode cX6_isSame 383 = .ok (.iinc 3 1, 3) := by decide +kernel
theorem dX6_isSame_386 : decode cX6_isSame 386 = .ok (.goto (-159), 3) := by decide +kernel
theorem dX6_isSame_389 : decode cX6_isSame 389 = .ok (.aload_n 1, 1) := by decide +kernel
theorem dX6_isSame_390 : decode cX6_isSame 390 = .ok (.invokevirtual 141, 3) := by decide +kernel
theorem dX6_isSame_393 : decode cX6_isSame 393 = .ok (.aload_n 0, 1) := by decide +kernel
theorem dX6_isSame_394 : decode cX6_isSame 394 = .ok (.getfield 24, 3) := by decide +kernel
theorem dX6_isSame_397 : decode cX6_isSame 397 = .ok (.arraylength, 1) := by decide +kernel
theorem dX6_isSame_398 : decode cX6_isSame 398 = .ok (.ifCond .ne 7, 3) := by decide +kernel
theorem dX6_isSame_401 : decode cX6_isSame 401 = .ok (.dconst 0, 1) := by decide +kernel
theorem dX6_isSame_402 : decode cX6_isSame 402 = .ok (.goto 16, 3) := by decide +kernel
theorem dX6_isSame_405 : decode cX6_isSame 405 = .ok (.iload_n 2, 1) := by decide +kernel
theorem dX6_isSame_406 : decode cX6_isSame 406 = .ok (.i2d, 1) := by decide +kernel
theorem dX6_isSame_407 : decode cX6_isSame 407 = .ok (.ldc2_w 145, 3) := by decide +kernel
theorem dX6_isSame_410 : decode cX6_isSame 410 = .ok (.aload_n 0, 1) := by decide +kernel
theorem dX6_isSame_411 : decode cX6_isSame 411 = .ok (.getfield 24, 3) := by decide +kernel
theorem dX6_isSame_414 : decode cX6_isSame 414 = .ok (.arraylength, 1) := by decide +kernel
theorem dX6_isSame_415 : decode cX6_isSame 415 = .ok (.i2d, 1) := by decide +kernel
theorem dX6_isSame_416 : decode cX6_isSame 416 = .ok (.dmul, 1) := by decide +kernel
theorem dX6_isSame_417 : decode cX6_isSame 417 = .ok (.ddiv, 1) := by decide +kernel
theorem dX6_isSame_418 : decode cX6_isSame 418 = .ok (.dcmp .l, 1) := by decide +kernel
theorem dX6_isSame_419 : decode cX6_isSame 419 = .ok (.ifCond .ne 7, 3) := by decide +kernel
theorem dX6_isSame_422 : decode cX6_isSame 422 = .ok (.iconst 1, 1) := by decide +kernel
theorem dX6_isSame_423 : decode cX6_isSame 423 = .ok (.goto 4, 3) := by decide +kernel
theorem dX6_isSame_426 : decode cX6_isSame 426 = .ok (.iconst 0, 1) := by decide +kernel
theorem dX6_isSame_427 : decode cX6_isSame 427 = .ok (.ireturn, 1) := by decide +kernel
theorem dJ9_max_7cf53_0 : decode cJ9_max_7cf53 0 = .ok (.iload_n 0, 1) := by decide +kernel
theorem dJ9_max_7cf53_1 : decode cJ9_max_7cf53 1 = .ok (.iload_n 1, 1) := by decide +kernel
theorem dJ9_max_7cf53_2 : decode cJ9_max_7cf53 2 = .ok (.if_icmp .lt 7, 3) := by decide +kernel
theorem dJ9_max_7cf53_5 : decode cJ9_max_7cf53 5 = .ok (.iload_n 0, 1) := by decide +kernel
theorem dJ9_max_7cf53_6 : decode cJ9_max_7cf53 6 = .ok (.goto 4, 3) := by decide +kernel
theorem dJ9_max_7cf53_9 : decode cJ9_max_7cf53 9 = .ok (.iload_n 1, 1) := by decide +kernel
theorem dJ9_max_7cf53_10 : decode cJ9_max_7cf53 10 = .ok (.ireturn, 1) := by decide +kernel
theorem dJ9_min_7cf53_0 : decode cJ9_min_7cf53 0 = .ok (.iload_n 0, 1) := by decide +kernel
theorem dJ9_min_7cf53_1 : decode cJ9_min_7cf53 1 = .ok (.iload_n 1, 1) := by decide +kernel
theorem dJ9_min_7cf53_2 : decode cJ9_min_7cf53 2 = .ok (.if_icmp .gt 7, 3) := by decide +kernel
theorem dJ9_min_7cf53_5 : decode cJ9_min_7cf53 5 = .ok (.iload_n 0, 1) := by decide +kernel
theorem dJ9_min_7cf53_6 : decode cJ9_min_7cf53 6 = .ok (.goto 4, 3) := by decide +kernel
theorem dJ9_min_7cf53_9 : decode cJ9_min_7cf53 9 = .ok (.iload_n 1, 1) := by decide +kernel
theorem dJ9_min_7cf53_10 : decode cJ9_min_7cf53 10 = .ok (.ireturn, 1) := by decide +kernel
theorem dL_below_0 : decode cL_below 0 = .ok (.iload_n 0, 1) := by decide +kernel
theorem dL_below_1 : decode cL_below 1 = .ok (.ldc 7, 2) := by decide +kernel
theorem dL_below_3 : decode cL_below 3 = .ok (.iand, 1) := by decide +kernel
theorem dL_below_4 : decode cL_below 4 = .ok (.iload_n 1, 1) := by decide +kernel
theorem dL_below_5 : decode cL_below 5 = .ok (.irem, 1) := by decide +kernel
theorem dL_below_6 : decode cL_below 6 = .ok (.ireturn, 1) := by decide +kernel
theorem dL_cell_0 : decode cL_cell 0 = .ok (.iload_n 1, 1) := by decide +kernel
theorem dL_cell_1 : decode cL_cell 1 = .ok (.aload_n 0, 1) := by decide +kernel
theorem dL_cell_2 : decode cL_cell 2 = .ok (.arraylength, 1) := by decide +kernel
theorem dL_cell_3 : decode cL_cell 3 = .ok (.if_icmp .ge 9, 3) := by decide +kernel
theorem dL_cell_6 : decode cL_cell 6 = .ok (.aload_n 0, 1) := by decide +kernel
theorem dL_cell_7 : decode cL_cell 7 = .ok (.iload_n 1, 1) := by decide +kernel
theorem dL_cell_8 : decode cL_cell 8 = .ok (.iaload, 1) := by decide +kernel
theorem dL_cell_9 : decode cL_cell 9 = .ok (.goto 9, 3) := by decide +kernel
theorem dL_cell_12 : decode cL_cell 12 = .ok (.ldc 8, 2) := by decide +kernel
theorem dL_cell_14 : decode cL_cell 14 = .ok (.iload_n 1, 1) := by decide +kernel
theorem dL_cell_15 : decode cL_cell 15 = .ok (.iconst 3, 1) := by decide +kernel
theorem dL_cell_16 : decode cL_cell 16 = .ok (.iadd, 1) := by decide +kernel
theorem dL_cell_17 : decode cL_cell 17 = .ok (.imul, 1) := by decide +kernel
theorem dL_cell_18 : decode cL_cell 18 = .ok (.ireturn, 1) := by decide +kernel
theorem dL_act_0 : decode cL_act 0 = .ok (.aload_n 1, 1) := by decide +kernel
theorem dL_act_1 : decode cL_act 1 = .ok (.getfield 9, 3) := by decide +kernel
theorem dL_act_4 : decode cL_act 4 = .ok (.arraylength, 1) := by decide +kernel
theorem dL_act_5 : decode cL_act 5 = .ok (.istore_n 3, 1) := by decide +kernel
theorem dL_act_6 : decode cL_act 6 = .ok (.iload_n 2, 1) := by decide +kernel
theorem dL_act_7 : decode cL_act 7 = .ok (.bipush 9, 2) := by decide +kernel
theorem dL_act_9 : decode cL_act 9 = .ok (.ishr, 1) := by decide +kernel
theorem dL_act_10 : decode cL_act 10 = .ok (.bipush 24, 2) := by decide +kernel
theorem dL_act_12 : decode cL_act 12 = .ok (.invokestatic 15, 3) := by decide +kernel
theorem dL_act_15 : decode cL_act 15 = .ok (.istore 4, 2) := by decide +kernel
theorem dL_act_17 : decode cL_act 17 = .ok (.iload_n 3, 1) := by decide +kernel
theorem dL_act_18 : decode cL_act 18 = .ok (.ifCond .eq 8, 3) := by decide +kernel
theorem dL_act_21 : decode cL_act 21 = .ok (.iload 4, 2) := by decide +kernel
theorem dL_act_23 : decode cL_act 23 = .ok (.ifCond .ne 46, 3) := by decide +kernel
theorem dL_act_26 : decode cL_act 26 = .ok (.iload_n 3, 1) := by decide +kernel
theorem dL_act_27 : decode cL_act 27 = .ok (.iconst 3, 1) := by decide +kernel
theorem dL_act_28 : decode cL_act 28 = .ok (.if_icmp .ne 5, 3) := by decide +kernel
theorem dL_act_31 : decode cL_act 31 = .ok (.iconst 1, 1) := by decide +kernel
theorem dL_act_32 : decode cL_act 32 = .ok (.ireturn, 1) := by decide +kernel
theorem dL_act_33 : decode cL_act 33 = .ok (.aload_n 1, 1) := by decide +kernel
theorem dL_act_34 : decode cL_act 34 = .ok (.aload_n 1, 1) := by decide +kernel
theorem dL_act_35 : decode cL_act 35 = .ok (.getfield 9, 3) := by decide +kernel
theorem dL_act_38 : decode cL_act 38 = .ok (.iconst 2, 1) := by decide +kernel
theorem dL_act_39 : decode cL_act 39 = .ok (.newarray .int, 2) := by decide +kernel
theorem dL_act_41 : decode cL_act 41 = .ok (.dup, 1) := by decide +kernel
theorem dL_act_42 : decode cL_act 42 = .ok (.iconst 0, 1) := by decide +kernel
theorem dL_act_43 : decode cL_act 43 = .ok (.iconst 0, 1) := by decide +kernel
theorem dL_act_44 : decode cL_act 44 = .ok (.iastore, 1) := by decide +kernel
theorem dL_act_45 : decode cL_act 45 = .ok (.dup, 1) := by decide +kernel
theorem dL_act_46 : decode cL_act 46 = .ok (.iconst 1, 1) := by decide +kernel
theorem dL_act_47 : decode cL_act 47 = .ok (.iconst 0, 1) := by decide +kernel
theorem dL_act_48 : decode cL_act 48 = .ok (.iastore, 1) := by decide +kernel
theorem dL_act_49 : decode cL_act 49 = .ok (.invokestatic 21, 3) := by decide +kernel
theorem dL_act_52 : decode cL_act 52 = .ok (.putfield 9, 3) := by decide +kernel
theorem dL_act_55 : decode cL_act 55 = .ok (.aload_n 0, 1) := by decide +kernel
theorem dL_act_56 : decode cL_act 56 = .ok (.invokevirtual 25, 3) := by decide +kernel
theorem dL_act_59 : decode cL_act 59 = .ok (.iload_n 3, 1) := by decide +kernel
theorem dL_act_60 : decode cL_act 60 = .ok (.if_icmp .ne 7, 3) := by decide +kernel
theorem dL_act_63 : decode cL_act 63 = .ok (.iconst 1, 1) := by decide +kernel
theorem dL_act_64 : decode cL_act 64 = .ok (.goto 4, 3) := by decide +kernel
theorem dL_act_67 : decode cL_act 67 = .ok (.iconst 0, 1) := by decide +kernel
theorem dL_act_68 : decode cL_act 68 = .ok (.ireturn, 1) := by decide +kernel
theorem dL_act_69 : decode cL_act 69 = .ok (.iload_n 2, 1) := by decide +kernel
theorem dL_act_70 : decode cL_act 70 = .ok (.iconst 1, 1) := by decide +kernel
theorem dL_act_71 : decode cL_act 71 = .ok (.ishr, 1) := by decide +kernel
theorem dL_act_72 : decode cL_act 72 = .ok (.iload_n 3, 1) := by decide +kernel
theorem dL_act_73 : decode cL_act 73 = .ok (.invokestatic 15, 3) := by decide +kernel
theorem dL_act_76 : decode cL_act 76 = .ok (.istore 5, 2) := by decide +kernel
theorem dL_act_78 : decode cL_act 78 = .ok (.aload_n 1, 1) := by decide +kernel
theorem dL_act_79 : decode cL_act 79 = .ok (.getfield 31, 3) := by decide +kernel
theorem dL_act_82 : decode cL_act 82 = .ok (.arraylength, 1) := by decide +kernel
theorem dL_act_83 : decode cL_act 83 = .ok (.istore 6, 2) := by decide +kernel
theorem dL_act_85 : decode cL_act 85 = .ok (.iload 6, 2) := by decide +kernel
theorem dL_act_87 : decode cL_act 87 = .ok (.ifCond .eq 9, 3) := by decide +kernel
theorem dL_act_90 : decode cL_act 90 = .ok (.iload 4, 2) := by decide +kernel
theorem dL_act_92 : decode cL_act 92 = .ok (.iconst 3, 1) := by decide +kernel
theorem dL_act_93 : decode cL_act 93 = .ok (.if_icmp .ge 86, 3) := by decide +kernel
theorem dL_act_96 : decode cL_act 96 = .ok (.iload 6, 2) := by decide +kernel
theorem dL_act_98 : decode cL_act 98 = .ok (.bipush 6, 2) := by decide +kernel
theorem dL_act_100 : decode cL_act 100 = .ok (.if_icmp .ne 5, 3) := by decide +kernel
theorem dL_act_103 : decode cL_act 103 = .ok (.iconst 1, 1) := by decide +kernel
theorem dL_act_104 : decode cL_act 104 = .ok (.ireturn, 1) := by decide +kernel
theorem dL_act_105 : decode cL_act 105 = .ok (.aload_n 1, 1) := by decide +kernel
theorem dL_act_106 : decode cL_act 106 = .ok (.aload_n 1, 1) := by decide +kernel
theorem dL_act_107 : decode cL_act 107 = .ok (.getfield 31, 3) := by decide +kernel
theorem dL_act_110 : decode cL_act 110 = .ok (.bipush 6, 2) := by decide +kernel
theorem dL_act_112 : decode cL_act 112 = .ok (.newarray .int, 2) := by decide +kernel
theorem dL_act_114 : decode cL_act 114 = .ok (.dup, 1) := by decide +kernel
theorem dL_act_115 : decode cL_act 115 = .ok (.iconst 0, 1) := by decide +kernel
theorem dL_act_116 : decode cL_act 116 = .ok (.iload 5, 2) := by decide +kernel
theorem dL_act_118 : decode cL_act 118 = .ok (.iastore, 1) := by decide +kernel
theorem dL_act_119 : decode cL_act 119 = .ok (.dup, 1) := by decide +kernel
theorem dL_act_120 : decode cL_act 120 = .ok (.iconst 1, 1) := by decide +kernel
theorem dL_act_121 : decode cL_act 121 = .ok (.iconst 1, 1) := by decide +kernel
theorem dL_act_122 : decode cL_act 122 = .ok (.iload_n 2, 1) := by decide +kernel
theorem dL_act_123 : decode cL_act 123 = .ok (.iconst 3, 1) := by decide +kernel
theorem dL_act_124 : decode cL_act 124 = .ok (.ishr, 1) := by decide +kernel
theorem dL_act_125 : decode cL_act 125 = .ok (.iconst 3, 1) := by decide +kernel
theorem dL_act_126 : decode cL_act 126 = .ok (.invokestatic 15, 3) := by decide +kernel
theorem dL_act_129 : decode cL_act 129 = .ok (.iadd, 1) := by decide +kernel
theorem dL_act_130 : decode cL_act 130 = .ok (.iastore, 1) := by decide +kernel
theorem dL_act_131 : decode cL_act 131 = .ok (.dup, 1) := by decide +kernel
theorem dL_act_132 : decode cL_act 132 = .ok (.iconst 2, 1) := by decide +kernel
theorem dL_act_133 : decode cL_act 133 = .ok (.iconst 0, 1) := by decide +kernel
theorem dL_act_134 : decode cL_act 134 = .ok (.iastore, 1) := by decide +kernel
theorem dL_act_135 : decode cL_act 135 = .ok (.dup, 1) := by decide +kernel
theorem dL_act_136 : decode cL_act 136 = .ok (.iconst 3, 1) := by decide +kernel
theorem dL_act_137 : decode cL_act 137 = .ok (.iconst (-1), 1) := by decide +kernel
theorem dL_act_138 : decode cL_act 138 = .ok (.iastore, 1) := by decide +kernel
theorem dL_act_139 : decode cL_act 139 = .ok (.dup, 1) := by decide +kernel
theorem dL_act_140 : decode cL_act 140 = .ok (.iconst 4, 1) := by decide +kernel
theorem dL_act_141 : decode cL_act 141 = .ok (.iconst 0, 1) := by decide +kernel
theorem dL_act_142 : decode cL_act 142 = .ok (.iastore, 1) := by decide +kernel
theorem dL_act_143 : decode cL_act 143 = .ok (.dup, 1) := by decide +kernel
theorem dL_act_144 : decode cL_act 144 = .ok (.iconst 5, 1) := by decide +kernel
theorem dL_act_145 : decode cL_act 145 = .ok (.iconst 0, 1) := by decide +kernel
theorem dL_act_146 : decode cL_act 146 = .ok (.iastore, 1) := by decide +kernel
theorem dL_act_147 : decode cL_act 147 = .ok (.invokestatic 21, 3) := by decide +kernel
theorem dL_act_150 : decode cL_act 150 = .ok (.putfield 31, 3) := by decide +kernel
theorem dL_act_153 : decode cL_act 153 = .ok (.aload_n 0, 1) := by decide +kernel
theorem dL_act_154 : decode cL_act 154 = .ok (.iload 5, 2) := by decide +kernel
theorem dL_act_156 : decode cL_act 156 = .ok (.iconst 1, 1) := by decide +kernel
theorem dL_act_157 : decode cL_act 157 = .ok (.iload_n 2, 1) := by decide +kernel
theorem dL_act_158 : decode cL_act 158 = .ok (.iconst 3, 1) := by decide +kernel
theorem dL_act_159 : decode cL_act 159 = .ok (.ishr, 1) := by decide +kernel
theorem dL_act_160 : decode cL_act 160 = .ok (.iconst 3, 1) := by decide +kernel
theorem dL_act_161 : decode cL_act 161 = .ok (.invokestatic 15, 3) := by decide +kernel
theorem dL_act_164 : decode cL_act 164 = .ok (.iadd, 1) := by decide +kernel
theorem dL_act_165 : decode cL_act 165 = .ok (.invokevirtual 34, 3) := by decide +kernel
theorem dL_act_168 : decode cL_act 168 = .ok (.iload 6, 2) := by decide +kernel
theorem dL_act_170 : decode cL_act 170 = .ok (.if_icmp .ne 7, 3) := by decide +kernel
theorem dL_act_173 : decode cL_act 173 = .ok (.iconst 1, 1) := by decide +kernel
theorem dL_act_174 : decode cL_act 174 = .ok (.goto 4, 3) := by decide +kernel
theorem dL_act_177 : decode cL_act 177 = .ok (.iconst 0, 1) := by decide +kernel
theorem dL_act_178 : decode cL_act 178 = .ok (.ireturn, 1) := by decide +kernel
theorem dL_act_179 : decode cL_act 179 = .ok (.iload_n 2, 1) := by decide +kernel
theorem dL_act_180 : decode cL_act 180 = .ok (.iconst 2, 1) := by decide +kernel
theorem dL_act_181 : decode cL_act 181 = .ok (.ishr, 1) := by decide +kernel
theorem dL_act_182 : decode cL_act 182 = .ok (.iload 6, 2) := by decide +kernel
theorem dL_act_184 : decode cL_act 184 = .ok (.invokestatic 15, 3) := by decide +kernel
theorem dL_act_187 : decode cL_act 187 = .ok (.istore 7, 2) := by decide +kernel
theorem dL_act_189 : decode cL_act 189 = .ok (.aload_n 1, 1) := by decide +kernel
theorem dL_act_190 : decode cL_act 190 = .ok (.getfield 31, 3) := by decide +kernel
theorem dL_act_193 : decode cL_act 193 = .ok (.iload 7, 2) := by decide +kernel
theorem dL_act_195 : decode cL_act 195 = .ok (.aaload, 1) := by decide +kernel
theorem dL_act_196 : decode cL_act 196 = .ok (.astore 8, 2) := by decide +kernel
theorem dL_act_198 : decode cL_act 198 = .ok (.iload 4, 2) := by decide +kernel
theorem dL_act_200 : decode cL_act 200 = .ok (.tableswitch 566 3 18 #[80, 80, 80, 157, 197, 197, 197, 241, 293, 293, 293, 361, 415, 415, 472, 528], 80) := by decide +kernel
theorem dL_act_280 : decode cL_act 280 = .ok (.iconst 1, 1) := by decide +kernel
theorem dL_act_281 : decode cL_act 281 = .ok (.iload_n 2, 1) := by decide +kernel
theorem dL_act_282 : decode cL_act 282 = .ok (.iconst 4, 1) := by decide +kernel
theorem dL_act_283 : decode cL_act 283 = .ok (.ishr, 1) := by decide +kernel
theorem dL_act_284 : decode cL_act 284 = .ok (.iload_n 2, 1) := by decide +kernel
theorem dL_act_285 : decode cL_act 285 = .ok (.iconst 3, 1) := by decide +kernel
theorem dL_act_286 : decode cL_act 286 = .ok (.invokestatic 15, 3) := by decide +kernel
theorem dL_act_289 : decode cL_act 289 = .ok (.ifCond .ne 8, 3) := by decide +kernel
theorem dL_act_292 : decode cL_act 292 = .ok (.bipush 40, 2) := by decide +kernel
theorem dL_act_294 : decode cL_act 294 = .ok (.goto 5, 3) := by decide +kernel
theorem dL_act_297 : decode cL_act 297 = .ok (.bipush 12, 2) := by decide +kernel
theorem dL_act_299 : decode cL_act 299 = .ok (.invokestatic 15, 3) := by decide +kernel
theorem dL_act_302 : decode cL_act 302 = .ok (.iadd, 1) := by decide +kernel
theorem dL_act_303 : decode cL_act 303 = .ok (.istore 9, 2) := by decide +kernel
theorem dL_act_305 : decode cL_act 305 = .ok (.aload_n 1, 1) := by decide +kernel
theorem dL_act_306 : decode cL_act 306 = .ok (.getfield 9, 3) := by decide +kernel
theorem dL_act_309 : decode cL_act 309 = .ok (.iload 5, 2) := by decide +kernel
theorem dL_act_311 : decode cL_act 311 = .ok (.aaload, 1) := by decide +kernel
theorem dL_act_312 : decode cL_act 312 = .ok (.iconst 0, 1) := by decide +kernel
theorem dL_act_313 : decode cL_act 313 = .ok (.bipush 40, 2) := by decide +kernel
theorem dL_act_315 : decode cL_act 315 = .ok (.aload_n 1, 1) := by decide +kernel
theorem dL_act_316 : decode cL_act 316 = .ok (.getfield 9, 3) := by decide +kernel
theorem dL_act_319 : decode cL_act 319 = .ok (.iload 5, 2) := by decide +kernel
theorem dL_act_321 : decode cL_act 321 = .ok (.aaload, 1) := by decide +kernel
theorem dL_act_322 : decode cL_act 322 = .ok (.iconst 0, 1) := by decide +kernel
theorem dL_act_323 : decode cL_act 323 = .ok (.iaload, 1) := by decide +kernel
theorem dL_act_324 : decode cL_act 324 = .ok (.iload 9, 2) := by decide +kernel
theorem dL_act_326 : decode cL_act 326 = .ok (.iadd, 1) := by decide +kernel
theorem dL_act_327 : decode cL_act 327 = .ok (.invokestatic 37, 3) := by decide +kernel
theorem dL_act_330 : decode cL_act 330 = .ok (.iastore, 1) := by decide +kernel
theorem dL_act_331 : decode cL_act 331 = .ok (.aload_n 0, 1) := by decide +kernel
theorem dL_act_332 : decode cL_act 332 = .ok (.iload 5, 2) := by decide +kernel
theorem dL_act_334 : decode cL_act 334 = .ok (.iload 9, 2) := by decide +kernel
theorem dL_act_336 : decode cL_act 336 = .ok (.invokevirtual 42, 3) := by decide +kernel
theorem dL_act_339 : decode cL_act 339 = .ok (.aload_n 1, 1) := by decide +kernel
theorem dL_act_340 : decode cL_act 340 = .ok (.getfield 9, 3) := by decide +kernel
theorem dL_act_343 : decode cL_act 343 = .ok (.iload 5, 2) := by decide +kernel
theorem dL_act_345 : decode cL_act 345 = .ok (.aaload, 1) := by decide +kernel
theorem dL_act_346 : decode cL_act 346 = .ok (.iconst 0, 1) := by decide +kernel
theorem dL_act_347 : decode cL_act 347 = .ok (.iaload, 1) := by decide +kernel
theorem dL_act_348 : decode cL_act 348 = .ok (.if_icmp .ne 7, 3) := by decide +kernel
theorem dL_act_351 : decode cL_act 351 = .ok (.iconst 1, 1) := by decide +kernel
theorem dL_act_352 : decode cL_act 352 = .ok (.goto 4, 3) := by decide +kernel
theorem dL_act_355 : decode cL_act 355 = .ok (.iconst 0, 1) := by decide +kernel
theorem dL_act_356 : decode cL_act 356 = .ok (.ireturn, 1) := by decide +kernel
theorem dL_act_357 : decode cL_act 357 = .ok (.aload 8, 2) := by decide +kernel
theorem dL_act_359 : decode cL_act 359 = .ok (.iconst 1, 1) := by decide +kernel
theorem dL_act_360 : decode cL_act 360 = .ok (.iaload, 1) := by decide +kernel
theorem dL_act_361 : decode cL_act 361 = .ok (.istore 10, 2) := by decide +kernel
theorem dL_act_363 : decode cL_act 363 = .ok (.aload 8, 2) := by decide +kernel
theorem dL_act_365 : decode cL_act 365 = .ok (.iconst 1, 1) := by decide +kernel
theorem dL_act_366 : decode cL_act 366 = .ok (.iconst 1, 1) := by decide +kernel
theorem dL_act_367 : decode cL_act 367 = .ok (.iload_n 2, 1) := by decide +kernel
theorem dL_act_368 : decode cL_act 368 = .ok (.iconst 4, 1) := by decide +kernel
theorem dL_act_369 : decode cL_act 369 = .ok (.ishr, 1) := by decide +kernel
theorem dL_act_370 : decode cL_act 370 = .ok (.iconst 3, 1) := by decide +kernel
theorem dL_act_371 : decode cL_act 371 = .ok (.invokestatic 15, 3) := by decide +kernel
theorem dL_act_374 : decode cL_act 374 = .ok (.iadd, 1) := by decide +kernel
theorem dL_act_375 : decode cL_act 375 = .ok (.iastore, 1) := by decide +kernel
theorem dL_act_376 : decode cL_act 376 = .ok (.aload_n 0, 1) := by decide +kernel
theorem dL_act_377 : decode cL_act 377 = .ok (.iload 7, 2) := by decide +kernel
theorem dL_act_379 : decode cL_act 379 = .ok (.aload 8, 2) := by decide +kernel
theorem dL_act_381 : decode cL_act 381 = .ok (.iconst 1, 1) := by decide +kernel
theorem dL_act_382 : decode cL_act 382 = .ok (.iaload, 1) := by decide +kernel
theorem dL_act_383 : decode cL_act 383 = .ok (.invokevirtual 45, 3) := by decide +kernel
theorem dL_act_386 : decode cL_act 386 = .ok (.iload 10, 2) := by decide +kernel
theorem dL_act_388 : decode cL_act 388 = .ok (.if_icmp .ne 7, 3) := by decide +kernel
theorem dL_act_391 : decode cL_act 391 = .ok (.iconst 1, 1) := by decide +kernel
theorem dL_act_392 : decode cL_act 392 = .ok (.goto 4, 3) := by decide +kernel
theorem dL_act_395 : decode cL_act 395 = .ok (.iconst 0, 1) := by decide +kernel
theorem dL_act_396 : decode cL_act 396 = .ok (.ireturn, 1) := by decide +kernel
theorem dL_act_397 : decode cL_act 397 = .ok (.aload 8, 2) := by decide +kernel
theorem dL_act_399 : decode cL_act 399 = .ok (.iconst 5, 1) := by decide +kernel
theorem dL_act_400 : decode cL_act 400 = .ok (.iaload, 1) := by decide +kernel
theorem dL_act_401 : decode cL_act 401 = .ok (.istore 11, 2) := by decide +kernel
theorem dL_act_403 : decode cL_act 403 = .ok (.aload 8, 2) := by decide +kernel
theorem dL_act_405 : decode cL_act 405 = .ok (.iconst 5, 1) := by decide +kernel
theorem dL_act_406 : decode cL_act 406 = .ok (.iload_n 2, 1) := by decide +kernel
theorem dL_act_407 : decode cL_act 407 = .ok (.iconst 4, 1) := by decide +kernel
theorem dL_act_408 : decode cL_act 408 = .ok (.ishr, 1) := by decide +kernel
theorem dL_act_409 : decode cL_act 409 = .ok (.bipush 10, 2) := by decide +kernel
theorem dL_act_411 : decode cL_act 411 = .ok (.invokestatic 15, 3) := by decide +kernel
theorem dL_act_414 : decode cL_act 414 = .ok (.iastore, 1) := by decide +kernel
theorem dL_act_415 : decode cL_act 415 = .ok (.aload 8, 2) := by decide +kernel
theorem dL_act_417 : decode cL_act 417 = .ok (.iconst 4, 1) := by decide +kernel
theorem dL_act_418 : decode cL_act 418 = .ok (.iconst 0, 1) := by decide +kernel
theorem dL_act_419 : decode cL_act 419 = .ok (.iastore, 1) := by decide +kernel
theorem dL_act_420 : decode cL_act 420 = .ok (.aload_n 0, 1) := by decide +kernel
theorem dL_act_421 : decode cL_act 421 = .ok (.iload 7, 2) := by decide +kernel
theorem dL_act_423 : decode cL_act 423 = .ok (.aload 8, 2) := by decide +kernel
theorem dL_act_425 : decode cL_act 425 = .ok (.iconst 5, 1) := by decide +kernel
theorem dL_act_426 : decode cL_act 426 = .ok (.iaload, 1) := by decide +kernel
theorem dL_act_427 : decode cL_act 427 = .ok (.invokevirtual 48, 3) := by decide +kernel
theorem dL_act_430 : decode cL_act 430 = .ok (.iload 11, 2) := by decide +kernel
theorem dL_act_432 : decode cL_act 432 = .ok (.if_icmp .ne 7, 3) := by decide +kernel
theorem dL_act_435 : decode cL_act 435 = .ok (.iconst 1, 1) := by decide +kernel
theorem dL_act_436 : decode cL_act 436 = .ok (.goto 4, 3) := by decide +kernel
theorem dL_act_439 : decode cL_act 439 = .ok (.iconst 0, 1) := by decide +kernel
theorem dL_act_440 : decode cL_act 440 = .ok (.ireturn, 1) := by decide +kernel
theorem dL_act_441 : decode cL_act 441 = .ok (.aload_n 1, 1) := by decide +kernel
theorem dL_act_442 : decode cL_act 442 = .ok (.getfield 51, 3) := by decide +kernel
theorem dL_act_445 : decode cL_act 445 = .ok (.istore 12, 2) := by decide +kernel
theorem dL_act_447 : decode cL_act 447 = .ok (.aload_n 1, 1) := by decide +kernel
theorem dL_act_448 : decode cL_act 448 = .ok (.iload_n 2, 1) := by decide +kernel
theorem dL_act_449 : decode cL_act 449 = .ok (.iconst 3, 1) := by decide +kernel
theorem dL_act_450 : decode cL_act 450 = .ok (.ishr, 1) := by decide +kernel
theorem dL_act_451 : decode cL_act 451 = .ok (.iload_n 2, 1) := by decide +kernel
theorem dL_act_452 : decode cL_act 452 = .ok (.iconst 2, 1) := by decide +kernel
theorem dL_act_453 : decode cL_act 453 = .ok (.invokestatic 15, 3) := by decide +kernel
theorem dL_act_456 : decode cL_act 456 = .ok (.ifCond .ne 9, 3) := by decide +kernel
theorem dL_act_459 : decode cL_act 459 = .ok (.sipush 5001, 3) := by decide +kernel
theorem dL_act_462 : decode cL_act 462 = .ok (.goto 6, 3) := by decide +kernel
theorem dL_act_465 : decode cL_act 465 = .ok (.sipush 400, 3) := by decide +kernel
theorem dL_act_468 : decode cL_act 468 = .ok (.invokestatic 15, 3) := by decide +kernel
theorem dL_act_471 : decode cL_act 471 = .ok (.putfield 51, 3) := by decide +kernel
theorem dL_act_474 : decode cL_act 474 = .ok (.aload_n 0, 1) := by decide +kernel
theorem dL_act_475 : decode cL_act 475 = .ok (.aload_n 1, 1) := by decide +kernel
theorem dL_act_476 : decode cL_act 476 = .ok (.getfield 51, 3) := by decide +kernel
theorem dL_act_479 : decode cL_act 479 = .ok (.invokevirtual 55, 3) := by decide +kernel
theorem dL_act_482 : decode cL_act 482 = .ok (.iload 12, 2) := by decide +kernel
theorem dL_act_484 : decode cL_act 484 = .ok (.if_icmp .ne 7, 3) := by decide +kernel
theorem dL_act_487 : decode cL_act 487 = .ok (.iconst 1, 1) := by decide +kernel
theorem dL_act_488 : decode cL_act 488 = .ok (.goto 4, 3) := by decide +kernel
theorem dL_act_491 : decode cL_act 491 = .ok (.iconst 0, 1) := by decide +kernel
theorem dL_act_492 : decode cL_act 492 = .ok (.ireturn, 1) := by decide +kernel
theorem dL_act_493 : decode cL_act 493 = .ok (.aload 8, 2) := by decide +kernel
theorem dL_act_495 : decode cL_act 495 = .ok (.iconst 3, 1) := by decide +kernel
theorem dL_act_496 : decode cL_act 496 = .ok (.iaload, 1) := by decide +kernel
theorem dL_act_497 : decode cL_act 497 = .ok (.ifCond .ge 13, 3) := by decide +kernel
theorem dL_act_500 : decode cL_act 500 = .ok (.aload_n 1, 1) := by decide +kernel
theorem dL_act_501 : decode cL_act 501 = .ok (.getfield 59, 3) := by decide +kernel
theorem dL_act_504 : decode cL_act 504 = .ok (.arraylength, 1) := by decide +kernel
theorem dL_act_505 : decode cL_act 505 = .ok (.bipush 16, 2) := by decide +kernel
theorem dL_act_507 : decode cL_act 507 = .ok (.if_icmp .ne 5, 3) := by decide +kernel
theorem dL_act_510 : decode cL_act 510 = .ok (.iconst 1, 1) := by decide +kernel
theorem dL_act_511 : decode cL_act 511 = .ok (.ireturn, 1) := by decide +kernel
theorem dL_act_512 : decode cL_act 512 = .ok (.iconst 1, 1) := by decide +kernel
theorem dL_act_513 : decode cL_act 513 = .ok (.iload_n 2, 1) := by decide +kernel
theorem dL_act_514 : decode cL_act 514 = .ok (.iconst 4, 1) := by decide +kernel
theorem dL_act_515 : decode cL_act 515 = .ok (.ishr, 1) := by decide +kernel
theorem dL_act_516 : decode cL_act 516 = .ok (.iload_n 2, 1) := by decide +kernel
theorem dL_act_517 : decode cL_act 517 = .ok (.iconst 2, 1) := by decide +kernel
theorem dL_act_518 : decode cL_act 518 = .ok (.invokestatic 15, 3) := by decide +kernel
theorem dL_act_521 : decode cL_act 521 = .ok (.ifCond .ne 8, 3) := by decide +kernel
theorem dL_act_524 : decode cL_act 524 = .ok (.bipush 12, 2) := by decide +kernel
theorem dL_act_526 : decode cL_act 526 = .ok (.goto 4, 3) := by decide +kernel
theorem dL_act_529 : decode cL_act 529 = .ok (.iconst 4, 1) := by decide +kernel
theorem dL_act_530 : decode cL_act 530 = .ok (.invokestatic 15, 3) := by decide +kernel
theorem dL_act_533 : decode cL_act 533 = .ok (.iadd, 1) := by decide +kernel
theorem dL_act_534 : decode cL_act 534 = .ok (.istore 13, 2) := by decide +kernel
theorem dL_act_536 : decode cL_act 536 = .ok (.aload_n 0, 1) := by decide +kernel
theorem dL_act_537 : decode cL_act 537 = .ok (.iload 7, 2) := by decide +kernel
theorem dL_act_539 : decode cL_act 539 = .ok (.iload 13, 2) := by decide +kernel
theorem dL_act_541 : decode cL_act 541 = .ok (.invokevirtual 63, 3) := by decide +kernel
theorem dL_act_544 : decode cL_act 544 = .ok (.aload_n 1, 1) := by decide +kernel
theorem dL_act_545 : decode cL_act 545 = .ok (.iload 7, 2) := by decide +kernel
theorem dL_act_547 : decode cL_act 547 = .ok (.iload 13, 2) := by decide +kernel
theorem dL_act_549 : decode cL_act 549 = .ok (.invokevirtual 66, 3) := by decide +kernel
theorem dL_act_552 : decode cL_act 552 = .ok (.if_icmp .ne 7, 3) := by decide +kernel
theorem dL_act_555 : decode cL_act 555 = .ok (.iconst 1, 1) := by decide +kernel
theorem dL_act_556 : decode cL_act 556 = .ok (.goto 4, 3) := by decide +kernel
theorem dL_act_559 : decode cL_act 559 = .ok (.iconst 0, 1) := by decide +kernel
theorem dL_act_560 : decode cL_act 560 = .ok (.ireturn, 1) := by decide +kernel
theorem dL_act_561 : decode cL_act 561 = .ok (.aload 8, 2) := by decide +kernel
theorem dL_act_563 : decode cL_act 563 = .ok (.iconst 3, 1) := by decide +kernel
theorem dL_act_564 : decode cL_act 564 = .ok (.iaload, 1) := by decide +kernel
theorem dL_act_565 : decode cL_act 565 = .ok (.ifCond .ge 5, 3) := by decide +kernel
theorem dL_act_568 : decode cL_act 568 = .ok (.iconst 1, 1) := by decide +kernel
theorem dL_act_569 : decode cL_act 569 = .ok (.ireturn, 1) := by decide +kernel
theorem dL_act_570 : decode cL_act 570 = .ok (.aload_n 1, 1) := by decide +kernel
theorem dL_act_571 : decode cL_act 571 = .ok (.getfield 59, 3) := by decide +kernel
theorem dL_act_574 : decode cL_act 574 = .ok (.aload 8, 2) := by decide +kernel
theorem dL_act_576 : decode cL_act 576 = .ok (.iconst 3, 1) := by decide +kernel
theorem dL_act_577 : decode cL_act 577 = .ok (.iaload, 1) := by decide +kernel
end
section
theorem dL_act_578 : decode cL_act 578 = .ok (.aaload, 1) := by decide +kernel
theorem dL_act_579 : decode cL_act 579 = .ok (.astore 14, 2) := by decide +kernel
theorem dL_act_581 : decode cL_act 581 = .ok (.aload 14, 2) := by decide +kernel
theorem dL_act_583 : decode cL_act 583 = .ok (.aload 14, 2) := by decide +kernel
theorem dL_act_585 : decode cL_act 585 = .ok (.getfield 67, 3) := by decide +kernel
theorem dL_act_588 : decode cL_act 588 = .ok (.iconst 1, 1) := by decide +kernel
theorem dL_act_589 : decode cL_act 589 = .ok (.iadd, 1) := by decide +kernel
theorem dL_act_590 : decode cL_act 590 = .ok (.iconst 4, 1) := by decide +kernel
theorem dL_act_591 : decode cL_act 591 = .ok (.irem, 1) := by decide +kernel
theorem dL_act_592 : decode cL_act 592 = .ok (.putfield 67, 3) := by decide +kernel
theorem dL_act_595 : decode cL_act 595 = .ok (.aload_n 0, 1) := by decide +kernel
theorem dL_act_596 : decode cL_act 596 = .ok (.iload 7, 2) := by decide +kernel
theorem dL_act_598 : decode cL_act 598 = .ok (.invokevirtual 72, 3) := by decide +kernel
theorem dL_act_601 : decode cL_act 601 = .ok (.aload 14, 2) := by decide +kernel
theorem dL_act_603 : decode cL_act 603 = .ok (.getfield 67, 3) := by decide +kernel
theorem dL_act_606 : decode cL_act 606 = .ok (.if_icmp .ne 7, 3) := by decide +kernel
theorem dL_act_609 : decode cL_act 609 = .ok (.iconst 1, 1) := by decide +kernel
theorem dL_act_610 : decode cL_act 610 = .ok (.goto 4, 3) := by decide +kernel
theorem dL_act_613 : decode cL_act 613 = .ok (.iconst 0, 1) := by decide +kernel
theorem dL_act_614 : decode cL_act 614 = .ok (.ireturn, 1) := by decide +kernel
theorem dL_act_615 : decode cL_act 615 = .ok (.aload 8, 2) := by decide +kernel
theorem dL_act_617 : decode cL_act 617 = .ok (.iconst 3, 1) := by decide +kernel
theorem dL_act_618 : decode cL_act 618 = .ok (.iaload, 1) := by decide +kernel
theorem dL_act_619 : decode cL_act 619 = .ok (.ifCond .lt 11, 3) := by decide +kernel
theorem dL_act_622 : decode cL_act 622 = .ok (.aload 8, 2) := by decide +kernel
theorem dL_act_624 : decode cL_act 624 = .ok (.iconst 2, 1) := by decide +kernel
theorem dL_act_625 : decode cL_act 625 = .ok (.iaload, 1) := by decide +kernel
theorem dL_act_626 : decode cL_act 626 = .ok (.iconst 2, 1) := by decide +kernel
theorem dL_act_627 : decode cL_act 627 = .ok (.if_icmp .ge 5, 3) := by decide +kernel
theorem dL_act_630 : decode cL_act 630 = .ok (.iconst 1, 1) := by decide +kernel
theorem dL_act_631 : decode cL_act 631 = .ok (.ireturn, 1) := by decide +kernel
theorem dL_act_632 : decode cL_act 632 = .ok (.aload 8, 2) := by decide +kernel
theorem dL_act_634 : decode cL_act 634 = .ok (.iconst 2, 1) := by decide +kernel
theorem dL_act_635 : decode cL_act 635 = .ok (.dup2, 1) := by decide +kernel
theorem dL_act_636 : decode cL_act 636 = .ok (.iaload, 1) := by decide +kernel
theorem dL_act_637 : decode cL_act 637 = .ok (.iconst 2, 1) := by decide +kernel
theorem dL_act_638 : decode cL_act 638 = .ok (.isub, 1) := by decide +kernel
theorem dL_act_639 : decode cL_act 639 = .ok (.iastore, 1) := by decide +kernel
theorem dL_act_640 : decode cL_act 640 = .ok (.aload_n 1, 1) := by decide +kernel
theorem dL_act_641 : decode cL_act 641 = .ok (.getfield 59, 3) := by decide +kernel
theorem dL_act_644 : decode cL_act 644 = .ok (.aload 8, 2) := by decide +kernel
theorem dL_act_646 : decode cL_act 646 = .ok (.iconst 3, 1) := by decide +kernel
theorem dL_act_647 : decode cL_act 647 = .ok (.iaload, 1) := by decide +kernel
theorem dL_act_648 : decode cL_act 648 = .ok (.aaload, 1) := by decide +kernel
theorem dL_act_649 : decode cL_act 649 = .ok (.iconst 3, 1) := by decide +kernel
theorem dL_act_650 : decode cL_act 650 = .ok (.putfield 75, 3) := by decide +kernel
theorem dL_act_653 : decode cL_act 653 = .ok (.aload_n 0, 1) := by decide +kernel
theorem dL_act_654 : decode cL_act 654 = .ok (.iload 7, 2) := by decide +kernel
theorem dL_act_656 : decode cL_act 656 = .ok (.invokevirtual 78, 3) := by decide +kernel
theorem dL_act_659 : decode cL_act 659 = .ok (.aload 8, 2) := by decide +kernel
theorem dL_act_661 : decode cL_act 661 = .ok (.iconst 2, 1) := by decide +kernel
theorem dL_act_662 : decode cL_act 662 = .ok (.iaload, 1) := by decide +kernel
theorem dL_act_663 : decode cL_act 663 = .ok (.if_icmp .ne 7, 3) := by decide +kernel
theorem dL_act_666 : decode cL_act 666 = .ok (.iconst 1, 1) := by decide +kernel
theorem dL_act_667 : decode cL_act 667 = .ok (.goto 4, 3) := by decide +kernel
theorem dL_act_670 : decode cL_act 670 = .ok (.iconst 0, 1) := by decide +kernel
theorem dL_act_671 : decode cL_act 671 = .ok (.ireturn, 1) := by decide +kernel
theorem dL_act_672 : decode cL_act 672 = .ok (.aload 8, 2) := by decide +kernel
theorem dL_act_674 : decode cL_act 674 = .ok (.iconst 3, 1) := by decide +kernel
theorem dL_act_675 : decode cL_act 675 = .ok (.iaload, 1) := by decide +kernel
theorem dL_act_676 : decode cL_act 676 = .ok (.ifCond .lt 11, 3) := by decide +kernel
theorem dL_act_679 : decode cL_act 679 = .ok (.iload_n 2, 1) := by decide +kernel
theorem dL_act_680 : decode cL_act 680 = .ok (.iconst 2, 1) := by decide +kernel
theorem dL_act_681 : decode cL_act 681 = .ok (.invokestatic 15, 3) := by decide +kernel
theorem dL_act_684 : decode cL_act 684 = .ok (.ifCond .ne 5, 3) := by decide +kernel
theorem dL_act_687 : decode cL_act 687 = .ok (.iconst 1, 1) := by decide +kernel
theorem dL_act_688 : decode cL_act 688 = .ok (.ireturn, 1) := by decide +kernel
theorem dL_act_689 : decode cL_act 689 = .ok (.aload 8, 2) := by decide +kernel
theorem dL_act_691 : decode cL_act 691 = .ok (.iconst 3, 1) := by decide +kernel
theorem dL_act_692 : decode cL_act 692 = .ok (.iaload, 1) := by decide +kernel
theorem dL_act_693 : decode cL_act 693 = .ok (.istore 15, 2) := by decide +kernel
theorem dL_act_695 : decode cL_act 695 = .ok (.aload_n 1, 1) := by decide +kernel
theorem dL_act_696 : decode cL_act 696 = .ok (.getfield 59, 3) := by decide +kernel
theorem dL_act_699 : decode cL_act 699 = .ok (.iload 15, 2) := by decide +kernel
theorem dL_act_701 : decode cL_act 701 = .ok (.aaload, 1) := by decide +kernel
theorem dL_act_702 : decode cL_act 702 = .ok (.iconst (-1), 1) := by decide +kernel
theorem dL_act_703 : decode cL_act 703 = .ok (.putfield 81, 3) := by decide +kernel
theorem dL_act_706 : decode cL_act 706 = .ok (.aload 8, 2) := by decide +kernel
theorem dL_act_708 : decode cL_act 708 = .ok (.iconst 3, 1) := by decide +kernel
theorem dL_act_709 : decode cL_act 709 = .ok (.iconst (-1), 1) := by decide +kernel
theorem dL_act_710 : decode cL_act 710 = .ok (.iastore, 1) := by decide +kernel
theorem dL_act_711 : decode cL_act 711 = .ok (.aload_n 0, 1) := by decide +kernel
theorem dL_act_712 : decode cL_act 712 = .ok (.iload 7, 2) := by decide +kernel
theorem dL_act_714 : decode cL_act 714 = .ok (.invokevirtual 84, 3) := by decide +kernel
theorem dL_act_717 : decode cL_act 717 = .ok (.iload 15, 2) := by decide +kernel
theorem dL_act_719 : decode cL_act 719 = .ok (.if_icmp .ne 7, 3) := by decide +kernel
theorem dL_act_722 : decode cL_act 722 = .ok (.iconst 1, 1) := by decide +kernel
theorem dL_act_723 : decode cL_act 723 = .ok (.goto 4, 3) := by decide +kernel
theorem dL_act_726 : decode cL_act 726 = .ok (.iconst 0, 1) := by decide +kernel
theorem dL_act_727 : decode cL_act 727 = .ok (.ireturn, 1) := by decide +kernel
theorem dL_act_728 : decode cL_act 728 = .ok (.iload_n 2, 1) := by decide +kernel
theorem dL_act_729 : decode cL_act 729 = .ok (.iconst 3, 1) := by decide +kernel
theorem dL_act_730 : decode cL_act 730 = .ok (.invokestatic 15, 3) := by decide +kernel
theorem dL_act_733 : decode cL_act 733 = .ok (.ifCond .le 5, 3) := by decide +kernel
theorem dL_act_736 : decode cL_act 736 = .ok (.iconst 1, 1) := by decide +kernel
theorem dL_act_737 : decode cL_act 737 = .ok (.ireturn, 1) := by decide +kernel
theorem dL_act_738 : decode cL_act 738 = .ok (.aload 8, 2) := by decide +kernel
theorem dL_act_740 : decode cL_act 740 = .ok (.iconst 2, 1) := by decide +kernel
theorem dL_act_741 : decode cL_act 741 = .ok (.iaload, 1) := by decide +kernel
theorem dL_act_742 : decode cL_act 742 = .ok (.istore 16, 2) := by decide +kernel
theorem dL_act_744 : decode cL_act 744 = .ok (.aload 8, 2) := by decide +kernel
theorem dL_act_746 : decode cL_act 746 = .ok (.iconst 2, 1) := by decide +kernel
theorem dL_act_747 : decode cL_act 747 = .ok (.iconst 0, 1) := by decide +kernel
theorem dL_act_748 : decode cL_act 748 = .ok (.iastore, 1) := by decide +kernel
theorem dL_act_749 : decode cL_act 749 = .ok (.aload_n 0, 1) := by decide +kernel
theorem dL_act_750 : decode cL_act 750 = .ok (.iload 7, 2) := by decide +kernel
theorem dL_act_752 : decode cL_act 752 = .ok (.invokevirtual 87, 3) := by decide +kernel
theorem dL_act_755 : decode cL_act 755 = .ok (.iload 16, 2) := by decide +kernel
theorem dL_act_757 : decode cL_act 757 = .ok (.if_icmp .ne 7, 3) := by decide +kernel
theorem dL_act_760 : decode cL_act 760 = .ok (.iconst 1, 1) := by decide +kernel
theorem dL_act_761 : decode cL_act 761 = .ok (.goto 4, 3) := by decide +kernel
theorem dL_act_764 : decode cL_act 764 = .ok (.iconst 0, 1) := by decide +kernel
theorem dL_act_765 : decode cL_act 765 = .ok (.ireturn, 1) := by decide +kernel
theorem dL_act_766 : decode cL_act 766 = .ok (.iconst 1, 1) := by decide +kernel
theorem dL_act_767 : decode cL_act 767 = .ok (.iload_n 2, 1) := by decide +kernel
theorem dL_act_768 : decode cL_act 768 = .ok (.iconst 2, 1) := by decide +kernel
theorem dL_act_769 : decode cL_act 769 = .ok (.ishr, 1) := by decide +kernel
theorem dL_act_770 : decode cL_act 770 = .ok (.iload_n 2, 1) := by decide +kernel
theorem dL_act_771 : decode cL_act 771 = .ok (.bipush 6, 2) := by decide +kernel
theorem dL_act_773 : decode cL_act 773 = .ok (.invokestatic 15, 3) := by decide +kernel
theorem dL_act_776 : decode cL_act 776 = .ok (.ifCond .ne 8, 3) := by decide +kernel
theorem dL_act_779 : decode cL_act 779 = .ok (.bipush 60, 2) := by decide +kernel
theorem dL_act_781 : decode cL_act 781 = .ok (.goto 5, 3) := by decide +kernel
theorem dL_act_784 : decode cL_act 784 = .ok (.bipush 9, 2) := by decide +kernel
theorem dL_act_786 : decode cL_act 786 = .ok (.invokestatic 15, 3) := by decide +kernel
theorem dL_act_789 : decode cL_act 789 = .ok (.iadd, 1) := by decide +kernel
theorem dL_act_790 : decode cL_act 790 = .ok (.istore 17, 2) := by decide +kernel
theorem dL_act_792 : decode cL_act 792 = .ok (.iconst 0, 1) := by decide +kernel
theorem dL_act_793 : decode cL_act 793 = .ok (.istore 18, 2) := by decide +kernel
theorem dL_act_795 : decode cL_act 795 = .ok (.iconst 0, 1) := by decide +kernel
theorem dL_act_796 : decode cL_act 796 = .ok (.istore 19, 2) := by decide +kernel
theorem dL_act_798 : decode cL_act 798 = .ok (.iload 19, 2) := by decide +kernel
theorem dL_act_800 : decode cL_act 800 = .ok (.iload 17, 2) := by decide +kernel
theorem dL_act_802 : decode cL_act 802 = .ok (.if_icmp .ge 18, 3) := by decide +kernel
theorem dL_act_805 : decode cL_act 805 = .ok (.iload 18, 2) := by decide +kernel
theorem dL_act_807 : decode cL_act 807 = .ok (.aload_n 1, 1) := by decide +kernel
theorem dL_act_808 : decode cL_act 808 = .ok (.invokevirtual 90, 3) := by decide +kernel
theorem dL_act_811 : decode cL_act 811 = .ok (.iadd, 1) := by decide +kernel
theorem dL_act_812 : decode cL_act 812 = .ok (.istore 18, 2) := by decide +kernel
theorem dL_act_814 : decode cL_act 814 = .ok (.iinc 19 1, 3) := by decide +kernel
theorem dL_act_817 : decode cL_act 817 = .ok (.goto (-19), 3) := by decide +kernel
theorem dL_act_820 : decode cL_act 820 = .ok (.aload_n 0, 1) := by decide +kernel
theorem dL_act_821 : decode cL_act 821 = .ok (.iload 17, 2) := by decide +kernel
theorem dL_act_823 : decode cL_act 823 = .ok (.invokevirtual 93, 3) := by decide +kernel
theorem dL_act_826 : decode cL_act 826 = .ok (.iload 18, 2) := by decide +kernel
theorem dL_act_828 : decode cL_act 828 = .ok (.if_icmp .ne 7, 3) := by decide +kernel
theorem dL_act_831 : decode cL_act 831 = .ok (.iconst 1, 1) := by decide +kernel
theorem dL_act_832 : decode cL_act 832 = .ok (.goto 4, 3) := by decide +kernel
theorem dL_act_835 : decode cL_act 835 = .ok (.iconst 0, 1) := by decide +kernel
theorem dL_act_836 : decode cL_act 836 = .ok (.ireturn, 1) := by decide +kernel
theorem dL_build_0 : decode cL_build 0 = .ok (.new 10, 3) := by decide +kernel
theorem dL_build_3 : decode cL_build 3 = .ok (.dup, 1) := by decide +kernel
theorem dL_build_4 : decode cL_build 4 = .ok (.invokespecial 95, 3) := by decide +kernel
theorem dL_build_7 : decode cL_build 7 = .ok (.astore_n 2, 1) := by decide +kernel
theorem dL_build_8 : decode cL_build 8 = .ok (.bipush 24, 2) := by decide +kernel
theorem dL_build_10 : decode cL_build 10 = .ok (.aload_n 1, 1) := by decide +kernel
theorem dL_build_11 : decode cL_build 11 = .ok (.iconst 0, 1) := by decide +kernel
theorem dL_build_12 : decode cL_build 12 = .ok (.invokestatic 96, 3) := by decide +kernel
theorem dL_build_15 : decode cL_build 15 = .ok (.bipush 44, 2) := by decide +kernel
theorem dL_build_17 : decode cL_build 17 = .ok (.invokestatic 15, 3) := by decide +kernel
theorem dL_build_20 : decode cL_build 20 = .ok (.iadd, 1) := by decide +kernel
theorem dL_build_21 : decode cL_build 21 = .ok (.istore_n 3, 1) := by decide +kernel
theorem dL_build_22 : decode cL_build 22 = .ok (.iconst 0, 1) := by decide +kernel
theorem dL_build_23 : decode cL_build 23 = .ok (.istore 4, 2) := by decide +kernel
theorem dL_build_25 : decode cL_build 25 = .ok (.iload 4, 2) := by decide +kernel
theorem dL_build_27 : decode cL_build 27 = .ok (.iload_n 3, 1) := by decide +kernel
theorem dL_build_28 : decode cL_build 28 = .ok (.if_icmp .ge 43, 3) := by decide +kernel
theorem dL_build_31 : decode cL_build 31 = .ok (.aload_n 0, 1) := by decide +kernel
theorem dL_build_32 : decode cL_build 32 = .ok (.aload_n 2, 1) := by decide +kernel
theorem dL_build_33 : decode cL_build 33 = .ok (.aload_n 1, 1) := by decide +kernel
theorem dL_build_34 : decode cL_build 34 = .ok (.iload 4, 2) := by decide +kernel
theorem dL_build_36 : decode cL_build 36 = .ok (.bipush 16, 2) := by decide +kernel
theorem dL_build_38 : decode cL_build 38 = .ok (.irem, 1) := by decide +kernel
theorem dL_build_39 : decode cL_build 39 = .ok (.invokestatic 96, 3) := by decide +kernel
theorem dL_build_42 : decode cL_build 42 = .ok (.iload 4, 2) := by decide +kernel
theorem dL_build_44 : decode cL_build 44 = .ok (.bipush 16, 2) := by decide +kernel
theorem dL_build_46 : decode cL_build 46 = .ok (.idiv, 1) := by decide +kernel
theorem dL_build_47 : decode cL_build 47 = .ok (.iconst 3, 1) := by decide +kernel
theorem dL_build_48 : decode cL_build 48 = .ok (.imul, 1) := by decide +kernel
theorem dL_build_49 : decode cL_build 49 = .ok (.ishr, 1) := by decide +kernel
theorem dL_build_50 : decode cL_build 50 = .ok (.sipush 569, 3) := by decide +kernel
theorem dL_build_53 : decode cL_build 53 = .ok (.iload 4, 2) := by decide +kernel
theorem dL_build_55 : decode cL_build 55 = .ok (.imul, 1) := by decide +kernel
theorem dL_build_56 : decode cL_build 56 = .ok (.iadd, 1) := by decide +kernel
theorem dL_build_57 : decode cL_build 57 = .ok (.invokestatic 100, 3) := by decide +kernel
theorem dL_build_60 : decode cL_build 60 = .ok (.ifCond .ne 5, 3) := by decide +kernel
theorem dL_build_63 : decode cL_build 63 = .ok (.aconst_null, 1) := by decide +kernel
theorem dL_build_64 : decode cL_build 64 = .ok (.areturn, 1) := by decide +kernel
theorem dL_build_65 : decode cL_build 65 = .ok (.iinc 4 1, 3) := by decide +kernel
theorem dL_build_68 : decode cL_build 68 = .ok (.goto (-43), 3) := by decide +kernel
theorem dL_build_71 : decode cL_build 71 = .ok (.aload_n 2, 1) := by decide +kernel
theorem dL_build_72 : decode cL_build 72 = .ok (.areturn, 1) := by decide +kernel
theorem dL_law_0 : decode cL_law 0 = .ok (.new 26, 3) := by decide +kernel
theorem dL_law_3 : decode cL_law 3 = .ok (.dup, 1) := by decide +kernel
theorem dL_law_4 : decode cL_law 4 = .ok (.invokespecial 104, 3) := by decide +kernel
theorem dL_law_7 : decode cL_law 7 = .ok (.astore_n 1, 1) := by decide +kernel
theorem dL_law_8 : decode cL_law 8 = .ok (.aload_n 1, 1) := by decide +kernel
theorem dL_law_9 : decode cL_law 9 = .ok (.aload_n 0, 1) := by decide +kernel
theorem dL_law_10 : decode cL_law 10 = .ok (.invokestatic 105, 3) := by decide +kernel
theorem dL_law_13 : decode cL_law 13 = .ok (.astore_n 2, 1) := by decide +kernel
theorem dL_law_14 : decode cL_law 14 = .ok (.aload_n 2, 1) := by decide +kernel
theorem dL_law_15 : decode cL_law 15 = .ok (.ifnonnull 5, 3) := by decide +kernel
theorem dL_law_18 : decode cL_law 18 = .ok (.iconst 0, 1) := by decide +kernel
theorem dL_law_19 : decode cL_law 19 = .ok (.ireturn, 1) := by decide +kernel
theorem dL_law_20 : decode cL_law 20 = .ok (.iconst 0, 1) := by decide +kernel
theorem dL_law_21 : decode cL_law 21 = .ok (.istore_n 3, 1) := by decide +kernel
theorem dL_law_22 : decode cL_law 22 = .ok (.iload_n 3, 1) := by decide +kernel
theorem dL_law_23 : decode cL_law 23 = .ok (.bipush 30, 2) := by decide +kernel
theorem dL_law_25 : decode cL_law 25 = .ok (.if_icmp .ge 1016, 3) := by decide +kernel
theorem dL_law_28 : decode cL_law 28 = .ok (.aload_n 0, 1) := by decide +kernel
theorem dL_law_29 : decode cL_law 29 = .ok (.iload_n 3, 1) := by decide +kernel
theorem dL_law_30 : decode cL_law 30 = .ok (.bipush 16, 2) := by decide +kernel
theorem dL_law_32 : decode cL_law 32 = .ok (.irem, 1) := by decide +kernel
theorem dL_law_33 : decode cL_law 33 = .ok (.invokestatic 96, 3) := by decide +kernel
theorem dL_law_36 : decode cL_law 36 = .ok (.iload_n 3, 1) := by decide +kernel
theorem dL_law_37 : decode cL_law 37 = .ok (.bipush 16, 2) := by decide +kernel
theorem dL_law_39 : decode cL_law 39 = .ok (.idiv, 1) := by decide +kernel
theorem dL_law_40 : decode cL_law 40 = .ok (.iconst 3, 1) := by decide +kernel
theorem dL_law_41 : decode cL_law 41 = .ok (.imul, 1) := by decide +kernel
theorem dL_law_42 : decode cL_law 42 = .ok (.ishr, 1) := by decide +kernel
theorem dL_law_43 : decode cL_law 43 = .ok (.sipush 569, 3) := by decide +kernel
theorem dL_law_46 : decode cL_law 46 = .ok (.iload_n 3, 1) := by decide +kernel
theorem dL_law_47 : decode cL_law 47 = .ok (.imul, 1) := by decide +kernel
theorem dL_law_48 : decode cL_law 48 = .ok (.iadd, 1) := by decide +kernel
theorem dL_law_49 : decode cL_law 49 = .ok (.istore 4, 2) := by decide +kernel
theorem dL_law_51 : decode cL_law 51 = .ok (.aload_n 1, 1) := by decide +kernel
theorem dL_law_52 : decode cL_law 52 = .ok (.aload_n 2, 1) := by decide +kernel
theorem dL_law_53 : decode cL_law 53 = .ok (.iload 4, 2) := by decide +kernel
theorem dL_law_55 : decode cL_law 55 = .ok (.invokestatic 100, 3) := by decide +kernel
theorem dL_law_58 : decode cL_law 58 = .ok (.ifCond .ne 5, 3) := by decide +kernel
theorem dL_law_61 : decode cL_law 61 = .ok (.iconst 0, 1) := by decide +kernel
theorem dL_law_62 : decode cL_law 62 = .ok (.ireturn, 1) := by decide +kernel
theorem dL_law_63 : decode cL_law 63 = .ok (.aload_n 1, 1) := by decide +kernel
theorem dL_law_64 : decode cL_law 64 = .ok (.invokevirtual 109, 3) := by decide +kernel
theorem dL_law_67 : decode cL_law 67 = .ok (.istore 5, 2) := by decide +kernel
theorem dL_law_69 : decode cL_law 69 = .ok (.aload_n 1, 1) := by decide +kernel
theorem dL_law_70 : decode cL_law 70 = .ok (.invokevirtual 111, 3) := by decide +kernel
theorem dL_law_73 : decode cL_law 73 = .ok (.istore 6, 2) := by decide +kernel
theorem dL_law_75 : decode cL_law 75 = .ok (.iload 6, 2) := by decide +kernel
theorem dL_law_77 : decode cL_law 77 = .ok (.iconst 4, 1) := by decide +kernel
theorem dL_law_78 : decode cL_law 78 = .ok (.multianewarray 113 2, 4) := by decide +kernel
theorem dL_law_82 : decode cL_law 82 = .ok (.astore 7, 2) := by decide +kernel
theorem dL_law_84 : decode cL_law 84 = .ok (.iload 6, 2) := by decide +kernel
theorem dL_law_86 : decode cL_law 86 = .ok (.newarray .int, 2) := by decide +kernel
theorem dL_law_88 : decode cL_law 88 = .ok (.astore 8, 2) := by decide +kernel
theorem dL_law_90 : decode cL_law 90 = .ok (.iload 6, 2) := by decide +kernel
theorem dL_law_92 : decode cL_law 92 = .ok (.newarray .int, 2) := by decide +kernel
theorem dL_law_94 : decode cL_law 94 = .ok (.astore 9, 2) := by decide +kernel
theorem dL_law_96 : decode cL_law 96 = .ok (.iload 6, 2) := by decide +kernel
theorem dL_law_98 : decode cL_law 98 = .ok (.newarray .int, 2) := by decide +kernel
theorem dL_law_100 : decode cL_law 100 = .ok (.astore 10, 2) := by decide +kernel
theorem dL_law_102 : decode cL_law 102 = .ok (.iload 6, 2) := by decide +kernel
theorem dL_law_104 : decode cL_law 104 = .ok (.newarray .boolean, 2) := by decide +kernel
theorem dL_law_106 : decode cL_law 106 = .ok (.astore 11, 2) := by decide +kernel
theorem dL_law_108 : decode cL_law 108 = .ok (.iload 5, 2) := by decide +kernel
theorem dL_law_110 : decode cL_law 110 = .ok (.newarray .int, 2) := by decide +kernel
theorem dL_law_112 : decode cL_law 112 = .ok (.astore 12, 2) := by decide +kernel
theorem dL_law_114 : decode cL_law 114 = .ok (.iconst 0, 1) := by decide +kernel
theorem dL_law_115 : decode cL_law 115 = .ok (.istore 13, 2) := by decide +kernel
theorem dL_law_117 : decode cL_law 117 = .ok (.aload_n 1, 1) := by decide +kernel
theorem dL_law_118 : decode cL_law 118 = .ok (.invokevirtual 114, 3) := by decide +kernel
theorem dL_law_121 : decode cL_law 121 = .ok (.newarray .int, 2) := by decide +kernel
theorem dL_law_123 : decode cL_law 123 = .ok (.astore 14, 2) := by decide +kernel
theorem dL_law_125 : decode cL_law 125 = .ok (.aload_n 1, 1) := by decide +kernel
theorem dL_law_126 : decode cL_law 126 = .ok (.invokevirtual 114, 3) := by decide +kernel
theorem dL_law_129 : decode cL_law 129 = .ok (.newarray .int, 2) := by decide +kernel
theorem dL_law_131 : decode cL_law 131 = .ok (.astore 15, 2) := by decide +kernel
theorem dL_law_133 : decode cL_law 133 = .ok (.iconst 0, 1) := by decide +kernel
theorem dL_law_134 : decode cL_law 134 = .ok (.istore 16, 2) := by decide +kernel
theorem dL_law_136 : decode cL_law 136 = .ok (.iload 16, 2) := by decide +kernel
theorem dL_law_138 : decode cL_law 138 = .ok (.aload_n 1, 1) := by decide +kernel
theorem dL_law_139 : decode cL_law 139 = .ok (.invokevirtual 114, 3) := by decide +kernel
theorem dL_law_142 : decode cL_law 142 = .ok (.if_icmp .ge 69, 3) := by decide +kernel
theorem dL_law_145 : decode cL_law 145 = .ok (.aload 14, 2) := by decide +kernel
theorem dL_law_147 : decode cL_law 147 = .ok (.iload 16, 2) := by decide +kernel
theorem dL_law_149 : decode cL_law 149 = .ok (.aload_n 1, 1) := by decide +kernel
theorem dL_law_150 : decode cL_law 150 = .ok (.iload 16, 2) := by decide +kernel
theorem dL_law_152 : decode cL_law 152 = .ok (.invokevirtual 116, 3) := by decide +kernel
theorem dL_law_155 : decode cL_law 155 = .ok (.iastore, 1) := by decide +kernel
theorem dL_law_156 : decode cL_law 156 = .ok (.aload 15, 2) := by decide +kernel
theorem dL_law_158 : decode cL_law 158 = .ok (.iload 16, 2) := by decide +kernel
theorem dL_law_160 : decode cL_law 160 = .ok (.aload_n 1, 1) := by decide +kernel
theorem dL_law_161 : decode cL_law 161 = .ok (.iload 16, 2) := by decide +kernel
theorem dL_law_163 : decode cL_law 163 = .ok (.invokevirtual 119, 3) := by decide +kernel
theorem dL_law_166 : decode cL_law 166 = .ok (.iastore, 1) := by decide +kernel
theorem dL_law_167 : decode cL_law 167 = .ok (.aload 14, 2) := by decide +kernel
theorem dL_law_169 : decode cL_law 169 = .ok (.iload 16, 2) := by decide +kernel
theorem dL_law_171 : decode cL_law 171 = .ok (.iaload, 1) := by decide +kernel
theorem dL_law_172 : decode cL_law 172 = .ok (.ifCond .lt 31, 3) := by decide +kernel
theorem dL_law_175 : decode cL_law 175 = .ok (.aload 14, 2) := by decide +kernel
theorem dL_law_177 : decode cL_law 177 = .ok (.iload 16, 2) := by decide +kernel
theorem dL_law_179 : decode cL_law 179 = .ok (.iaload, 1) := by decide +kernel
theorem dL_law_180 : decode cL_law 180 = .ok (.bipush 9, 2) := by decide +kernel
theorem dL_law_182 : decode cL_law 182 = .ok (.if_icmp .gt 21, 3) := by decide +kernel
theorem dL_law_185 : decode cL_law 185 = .ok (.aload 15, 2) := by decide +kernel
theorem dL_law_187 : decode cL_law 187 = .ok (.iload 16, 2) := by decide +kernel
theorem dL_law_189 : decode cL_law 189 = .ok (.iaload, 1) := by decide +kernel
theorem dL_law_190 : decode cL_law 190 = .ok (.ifCond .lt 13, 3) := by decide +kernel
theorem dL_law_193 : decode cL_law 193 = .ok (.aload 15, 2) := by decide +kernel
theorem dL_law_195 : decode cL_law 195 = .ok (.iload 16, 2) := by decide +kernel
theorem dL_law_197 : decode cL_law 197 = .ok (.iaload, 1) := by decide +kernel
theorem dL_law_198 : decode cL_law 198 = .ok (.bipush 40, 2) := by decide +kernel
theorem dL_law_200 : decode cL_law 200 = .ok (.if_icmp .le 5, 3) := by decide +kernel
theorem dL_law_203 : decode cL_law 203 = .ok (.iconst 0, 1) := by decide +kernel
theorem dL_law_204 : decode cL_law 204 = .ok (.ireturn, 1) := by decide +kernel
theorem dL_law_205 : decode cL_law 205 = .ok (.iinc 16 1, 3) := by decide +kernel
theorem dL_law_208 : decode cL_law 208 = .ok (.goto (-72), 3) := by decide +kernel
theorem dL_law_211 : decode cL_law 211 = .ok (.iconst 0, 1) := by decide +kernel
theorem dL_law_212 : decode cL_law 212 = .ok (.istore 16, 2) := by decide +kernel
theorem dL_law_214 : decode cL_law 214 = .ok (.iload 16, 2) := by decide +kernel
theorem dL_law_216 : decode cL_law 216 = .ok (.iload 5, 2) := by decide +kernel
theorem dL_law_218 : decode cL_law 218 = .ok (.if_icmp .ge 109, 3) := by decide +kernel
theorem dL_law_221 : decode cL_law 221 = .ok (.aload 12, 2) := by decide +kernel
theorem dL_law_223 : decode cL_law 223 = .ok (.iload 16, 2) := by decide +kernel
theorem dL_law_225 : decode cL_law 225 = .ok (.aload_n 1, 1) := by decide +kernel
theorem dL_law_226 : decode cL_law 226 = .ok (.iload 16, 2) := by decide +kernel
theorem dL_law_228 : decode cL_law 228 = .ok (.invokevirtual 122, 3) := by decide +kernel
theorem dL_law_231 : decode cL_law 231 = .ok (.iastore, 1) := by decide +kernel
theorem dL_law_232 : decode cL_law 232 = .ok (.iload 13, 2) := by decide +kernel
theorem dL_law_234 : decode cL_law 234 = .ok (.aload_n 1, 1) := by decide +kernel
theorem dL_law_235 : decode cL_law 235 = .ok (.iload 16, 2) := by decide +kernel
theorem dL_law_237 : decode cL_law 237 = .ok (.invokevirtual 125, 3) := by decide +kernel
theorem dL_law_240 : decode cL_law 240 = .ok (.iadd, 1) := by decide +kernel
theorem dL_law_241 : decode cL_law 241 = .ok (.istore 13, 2) := by decide +kernel
theorem dL_law_243 : decode cL_law 243 = .ok (.aload_n 1, 1) := by decide +kernel
theorem dL_law_244 : decode cL_law 244 = .ok (.iload 16, 2) := by decide +kernel
theorem dL_law_246 : decode cL_law 246 = .ok (.invokevirtual 128, 3) := by decide +kernel
theorem dL_law_249 : decode cL_law 249 = .ok (.istore 17, 2) := by decide +kernel
theorem dL_law_251 : decode cL_law 251 = .ok (.aload 12, 2) := by decide +kernel
theorem dL_law_253 : decode cL_law 253 = .ok (.iload 16, 2) := by decide +kernel
theorem dL_law_255 : decode cL_law 255 = .ok (.iaload, 1) := by decide +kernel
theorem dL_law_256 : decode cL_law 256 = .ok (.aload_n 1, 1) := by decide +kernel
theorem dL_law_257 : decode cL_law 257 = .ok (.aload_n 1, 1) := by decide +kernel
theorem dL_law_258 : decode cL_law 258 = .ok (.iload 16, 2) := by decide +kernel
theorem dL_law_260 : decode cL_law 260 = .ok (.invokevirtual 131, 3) := by decide +kernel
theorem dL_law_263 : decode cL_law 263 = .ok (.invokevirtual 116, 3) := by decide +kernel
theorem dL_law_266 : decode cL_law 266 = .ok (.aload_n 1, 1) := by decide +kernel
theorem dL_law_267 : decode cL_law 267 = .ok (.iload 16, 2) := by decide +kernel
theorem dL_law_269 : decode cL_law 269 = .ok (.invokevirtual 134, 3) := by decide +kernel
theorem dL_law_272 : decode cL_law 272 = .ok (.idiv, 1) := by decide +kernel
theorem dL_law_273 : decode cL_law 273 = .ok (.if_icmp .ne 46, 3) := by decide +kernel
theorem dL_law_276 : decode cL_law 276 = .ok (.aload_n 1, 1) := by decide +kernel
theorem dL_law_277 : decode cL_law 277 = .ok (.iload 16, 2) := by decide +kernel
theorem dL_law_279 : decode cL_law 279 = .ok (.invokevirtual 125, 3) := by decide +kernel
theorem dL_law_282 : decode cL_law 282 = .ok (.ifCond .lt 37, 3) := by decide +kernel
theorem dL_law_285 : decode cL_law 285 = .ok (.aload_n 1, 1) := by decide +kernel
theorem dL_law_286 : decode cL_law 286 = .ok (.iload 16, 2) := by decide +kernel
theorem dL_law_288 : decode cL_law 288 = .ok (.invokevirtual 125, 3) := by decide +kernel
theorem dL_law_291 : decode cL_law 291 = .ok (.bipush 20, 2) := by decide +kernel
theorem dL_law_293 : decode cL_law 293 = .ok (.if_icmp .gt 26, 3) := by decide +kernel
theorem dL_law_296 : decode cL_law 296 = .ok (.iload 17, 2) := by decide +kernel
theorem dL_law_298 : decode cL_law 298 = .ok (.iload 6, 2) := by decide +kernel
theorem dL_law_300 : decode cL_law 300 = .ok (.if_icmp .ge 19, 3) := by decide +kernel
theorem dL_law_303 : decode cL_law 303 = .ok (.iload 17, 2) := by decide +kernel
theorem dL_law_305 : decode cL_law 305 = .ok (.ifCond .lt 16, 3) := by decide +kernel
theorem dL_law_308 : decode cL_law 308 = .ok (.aload_n 1, 1) := by decide +kernel
theorem dL_law_309 : decode cL_law 309 = .ok (.iload 17, 2) := by decide +kernel
theorem dL_law_311 : decode cL_law 311 = .ok (.invokevirtual 137, 3) := by decide +kernel
theorem dL_law_314 : decode cL_law 314 = .ok (.iload 16, 2) := by decide +kernel
theorem dL_law_316 : decode cL_law 316 = .ok (.if_icmp .eq 5, 3) := by decide +kernel
theorem dL_law_319 : decode cL_law 319 = .ok (.iconst 0, 1) := by decide +kernel
theorem dL_law_320 : decode cL_law 320 = .ok (.ireturn, 1) := by decide +kernel
theorem dL_law_321 : decode cL_law 321 = .ok (.iinc 16 1, 3) := by decide +kernel
theorem dL_law_324 : decode cL_law 324 = .ok (.goto (-110), 3) := by decide +kernel
theorem dL_law_327 : decode cL_law 327 = .ok (.iconst 0, 1) := by decide +kernel
theorem dL_law_328 : decode cL_law 328 = .ok (.istore 16, 2) := by decide +kernel
theorem dL_law_330 : decode cL_law 330 = .ok (.iconst 0, 1) := by decide +kernel
theorem dL_law_331 : decode cL_law 331 = .ok (.istore 17, 2) := by decide +kernel
theorem dL_law_333 : decode cL_law 333 = .ok (.iload 17, 2) := by decide +kernel
theorem dL_law_335 : decode cL_law 335 = .ok (.iload 6, 2) := by decide +kernel
theorem dL_law_337 : decode cL_law 337 = .ok (.if_icmp .ge 195, 3) := by decide +kernel
theorem dL_law_340 : decode cL_law 340 = .ok (.iconst 0, 1) := by decide +kernel
theorem dL_law_341 : decode cL_law 341 = .ok (.istore 18, 2) := by decide +kernel
theorem dL_law_343 : decode cL_law 343 = .ok (.iload 18, 2) := by decide +kernel
theorem dL_law_345 : decode cL_law 345 = .ok (.iconst 4, 1) := by decide +kernel
theorem dL_law_346 : decode cL_law 346 = .ok (.if_icmp .ge 25, 3) := by decide +kernel
theorem dL_law_349 : decode cL_law 349 = .ok (.aload 7, 2) := by decide +kernel
theorem dL_law_351 : decode cL_law 351 = .ok (.iload 17, 2) := by decide +kernel
theorem dL_law_353 : decode cL_law 353 = .ok (.aaload, 1) := by decide +kernel
theorem dL_law_354 : decode cL_law 354 = .ok (.iload 18, 2) := by decide +kernel
theorem dL_law_356 : decode cL_law 356 = .ok (.aload_n 1, 1) := by decide +kernel
theorem dL_law_357 : decode cL_law 357 = .ok (.iload 17, 2) := by decide +kernel
theorem dL_law_359 : decode cL_law 359 = .ok (.iload 18, 2) := by decide +kernel
theorem dL_law_361 : decode cL_law 361 = .ok (.invokevirtual 140, 3) := by decide +kernel
theorem dL_law_364 : decode cL_law 364 = .ok (.iastore, 1) := by decide +kernel
theorem dL_law_365 : decode cL_law 365 = .ok (.iinc 18 1, 3) := by decide +kernel
theorem dL_law_368 : decode cL_law 368 = .ok (.goto (-25), 3) := by decide +kernel
theorem dL_law_371 : decode cL_law 371 = .ok (.aload 8, 2) := by decide +kernel
theorem dL_law_373 : decode cL_law 373 = .ok (.iload 17, 2) := by decide +kernel
theorem dL_law_375 : decode cL_law 375 = .ok (.aload_n 1, 1) := by decide +kernel
theorem dL_law_376 : decode cL_law 376 = .ok (.iload 17, 2) := by decide +kernel
theorem dL_law_378 : decode cL_law 378 = .ok (.invokevirtual 143, 3) := by decide +kernel
theorem dL_law_381 : decode cL_law 381 = .ok (.iastore, 1) := by decide +kernel
theorem dL_law_382 : decode cL_law 382 = .ok (.aload 9, 2) := by decide +kernel
theorem dL_law_384 : decode cL_law 384 = .ok (.iload 17, 2) := by decide +kernel
theorem dL_law_386 : decode cL_law 386 = .ok (.aload_n 1, 1) := by decide +kernel
theorem dL_law_387 : decode cL_law 387 = .ok (.iload 17, 2) := by decide +kernel
theorem dL_law_389 : decode cL_law 389 = .ok (.invokevirtual 146, 3) := by decide +kernel
theorem dL_law_392 : decode cL_law 392 = .ok (.iastore, 1) := by decide +kernel
theorem dL_law_393 : decode cL_law 393 = .ok (.aload 10, 2) := by decide +kernel
theorem dL_law_395 : decode cL_law 395 = .ok (.iload 17, 2) := by decide +kernel
theorem dL_law_397 : decode cL_law 397 = .ok (.aload_n 1, 1) := by decide +kernel
theorem dL_law_398 : decode cL_law 398 = .ok (.iload 17, 2) := by decide +kernel
theorem dL_law_400 : decode cL_law 400 = .ok (.invokevirtual 149, 3) := by decide +kernel
theorem dL_law_403 : decode cL_law 403 = .ok (.iastore, 1) := by decide +kernel
theorem dL_law_404 : decode cL_law 404 = .ok (.aload 11, 2) := by decide +kernel
theorem dL_law_406 : decode cL_law 406 = .ok (.iload 17, 2) := by decide +kernel
theorem dL_law_408 : decode cL_law 408 = .ok (.aload_n 1, 1) := by decide +kernel
theorem dL_law_409 : decode cL_law 409 = .ok (.iload 17, 2) := by decide +kernel
theorem dL_law_411 : decode cL_law 411 = .ok (.invokevirtual 152, 3) := by decide +kernel
theorem dL_law_414 : decode cL_law 414 = .ok (.bastore, 1) := by decide +kernel
theorem dL_law_415 : decode cL_law 415 = .ok (.iload 16, 2) := by decide +kernel
theorem dL_law_417 : decode cL_law 417 = .ok (.aload 8, 2) := by decide +kernel
theorem dL_law_419 : decode cL_law 419 = .ok (.iload 17, 2) := by decide +kernel
theorem dL_law_421 : decode cL_law 421 = .ok (.iaload, 1) := by decide +kernel
theorem dL_law_422 : decode cL_law 422 = .ok (.iadd, 1) := by decide +kernel
theorem dL_law_423 : decode cL_law 423 = .ok (.istore 16, 2) := by decide +kernel
theorem dL_law_425 : decode cL_law 425 = .ok (.aload_n 1, 1) := by decide +kernel
theorem dL_law_426 : decode cL_law 426 = .ok (.iload 17, 2) := by decide +kernel
theorem dL_law_428 : decode cL_law 428 = .ok (.invokevirtual 137, 3) := by decide +kernel
theorem dL_law_431 : decode cL_law 431 = .ok (.istore 18, 2) := by decide +kernel
theorem dL_law_433 : decode cL_law 433 = .ok (.aload 8, 2) := by decide +kernel
theorem dL_law_435 : decode cL_law 435 = .ok (.iload 17, 2) := by decide +kernel
theorem dL_law_437 : decode cL_law 437 = .ok (.iaload, 1) := by decide +kernel
theorem dL_law_438 : decode cL_law 438 = .ok (.ifCond .lt 86, 3) := by decide +kernel
theorem dL_law_441 : decode cL_law 441 = .ok (.aload 8, 2) := by decide +kernel
theorem dL_law_443 : decode cL_law 443 = .ok (.iload 17, 2) := by decide +kernel
theorem dL_law_445 : decode cL_law 445 = .ok (.iaload, 1) := by decide +kernel
theorem dL_law_446 : decode cL_law 446 = .ok (.iconst 3, 1) := by decide +kernel
theorem dL_law_447 : decode cL_law 447 = .ok (.aload_n 1, 1) := by decide +kernel
theorem dL_law_448 : decode cL_law 448 = .ok (.iload 17, 2) := by decide +kernel
theorem dL_law_450 : decode cL_law 450 = .ok (.invokevirtual 156, 3) := by decide +kernel
theorem dL_law_453 : decode cL_law 453 = .ok (.imul, 1) := by decide +kernel
theorem dL_law_454 : decode cL_law 454 = .ok (.if_icmp .gt 70, 3) := by decide +kernel
theorem dL_law_457 : decode cL_law 457 = .ok (.aload 10, 2) := by decide +kernel
theorem dL_law_459 : decode cL_law 459 = .ok (.iload 17, 2) := by decide +kernel
theorem dL_law_461 : decode cL_law 461 = .ok (.iaload, 1) := by decide +kernel
theorem dL_law_462 : decode cL_law 462 = .ok (.ifCond .lt 62, 3) := by decide +kernel
theorem dL_law_465 : decode cL_law 465 = .ok (.aload 10, 2) := by decide +kernel
theorem dL_law_467 : decode cL_law 467 = .ok (.iload 17, 2) := by decide +kernel
theorem dL_law_469 : decode cL_law 469 = .ok (.iaload, 1) := by decide +kernel
theorem dL_law_470 : decode cL_law 470 = .ok (.iconst 3, 1) := by decide +kernel
theorem dL_law_471 : decode cL_law 471 = .ok (.if_icmp .gt 53, 3) := by decide +kernel
theorem dL_law_474 : decode cL_law 474 = .ok (.aload 9, 2) := by decide +kernel
theorem dL_law_476 : decode cL_law 476 = .ok (.iload 17, 2) := by decide +kernel
theorem dL_law_478 : decode cL_law 478 = .ok (.iaload, 1) := by decide +kernel
theorem dL_law_479 : decode cL_law 479 = .ok (.ifCond .lt 45, 3) := by decide +kernel
theorem dL_law_482 : decode cL_law 482 = .ok (.aload 9, 2) := by decide +kernel
theorem dL_law_484 : decode cL_law 484 = .ok (.iload 17, 2) := by decide +kernel
theorem dL_law_486 : decode cL_law 486 = .ok (.iaload, 1) := by decide +kernel
theorem dL_law_487 : decode cL_law 487 = .ok (.iconst 3, 1) := by decide +kernel
theorem dL_law_488 : decode cL_law 488 = .ok (.if_icmp .gt 36, 3) := by decide +kernel
theorem dL_law_491 : decode cL_law 491 = .ok (.aload 11, 2) := by decide +kernel
theorem dL_law_493 : decode cL_law 493 = .ok (.iload 17, 2) := by decide +kernel
theorem dL_law_495 : decode cL_law 495 = .ok (.baload, 1) := by decide +kernel
theorem dL_law_496 : decode cL_law 496 = .ok (.ifCond .eq 12, 3) := by decide +kernel
theorem dL_law_499 : decode cL_law 499 = .ok (.aload_n 1, 1) := by decide +kernel
theorem dL_law_500 : decode cL_law 500 = .ok (.iload 17, 2) := by decide +kernel
theorem dL_law_502 : decode cL_law 502 = .ok (.invokevirtual 159, 3) := by decide +kernel
theorem dL_law_505 : decode cL_law 505 = .ok (.ifCond .ne 19, 3) := by decide +kernel
theorem dL_law_508 : decode cL_law 508 = .ok (.iload 18, 2) := by decide +kernel
theorem dL_law_510 : decode cL_law 510 = .ok (.ifCond .lt 16, 3) := by decide +kernel
theorem dL_law_513 : decode cL_law 513 = .ok (.aload_n 1, 1) := by decide +kernel
theorem dL_law_514 : decode cL_law 514 = .ok (.iload 18, 2) := by decide +kernel
theorem dL_law_516 : decode cL_law 516 = .ok (.invokevirtual 128, 3) := by decide +kernel
theorem dL_law_519 : decode cL_law 519 = .ok (.iload 17, 2) := by decide +kernel
theorem dL_law_521 : decode cL_law 521 = .ok (.if_icmp .eq 5, 3) := by decide +kernel
theorem dL_law_524 : decode cL_law 524 = .ok (.iconst 0, 1) := by decide +kernel
theorem dL_law_525 : decode cL_law 525 = .ok (.ireturn, 1) := by decide +kernel
theorem dL_law_526 : decode cL_law 526 = .ok (.iinc 17 1, 3) := by decide +kernel
theorem dL_law_529 : decode cL_law 529 = .ok (.goto (-196), 3) := by decide +kernel
theorem dL_law_532 : decode cL_law 532 = .ok (.aload_n 1, 1) := by decide +kernel
theorem dL_law_533 : decode cL_law 533 = .ok (.invokevirtual 162, 3) := by decide +kernel
theorem dL_law_536 : decode cL_law 536 = .ok (.istore 17, 2) := by decide +kernel
theorem dL_law_538 : decode cL_law 538 = .ok (.aload_n 1, 1) := by decide +kernel
theorem dL_law_539 : decode cL_law 539 = .ok (.iconst 1, 1) := by decide +kernel
theorem dL_law_540 : decode cL_law 540 = .ok (.invokevirtual 93, 3) := by decide +kernel
theorem dL_law_543 : decode cL_law 543 = .ok (.istore 18, 2) := by decide +kernel
theorem dL_law_545 : decode cL_law 545 = .ok (.aload_n 2, 1) := by decide +kernel
theorem dL_law_546 : decode cL_law 546 = .ok (.invokevirtual 90, 3) := by decide +kernel
theorem dL_law_549 : decode cL_law 549 = .ok (.pop, 1) := by decide +kernel
theorem dL_law_550 : decode cL_law 550 = .ok (.iconst 0, 1) := by decide +kernel
theorem dL_law_551 : decode cL_law 551 = .ok (.istore 19, 2) := by decide +kernel
theorem dL_law_553 : decode cL_law 553 = .ok (.iconst 0, 1) := by decide +kernel
theorem dL_law_554 : decode cL_law 554 = .ok (.istore 20, 2) := by decide +kernel
theorem dL_law_556 : decode cL_law 556 = .ok (.iconst 0, 1) := by decide +kernel
theorem dL_law_557 : decode cL_law 557 = .ok (.istore 21, 2) := by decide +kernel
theorem dL_law_559 : decode cL_law 559 = .ok (.iload 21, 2) := by decide +kernel
theorem dL_law_561 : decode cL_law 561 = .ok (.iload 6, 2) := by decide +kernel
theorem dL_law_563 : decode cL_law 563 = .ok (.if_icmp .ge 287, 3) := by decide +kernel
theorem dL_law_566 : decode cL_law 566 = .ok (.aload_n 1, 1) := by decide +kernel
theorem dL_law_567 : decode cL_law 567 = .ok (.iload 21, 2) := by decide +kernel
theorem dL_law_569 : decode cL_law 569 = .ok (.invokevirtual 137, 3) := by decide +kernel
theorem dL_law_572 : decode cL_law 572 = .ok (.istore 22, 2) := by decide +kernel
theorem dL_law_574 : decode cL_law 574 = .ok (.iload 19, 2) := by decide +kernel
theorem dL_law_576 : decode cL_law 576 = .ok (.aload_n 1, 1) := by decide +kernel
theorem dL_law_577 : decode cL_law 577 = .ok (.iload 21, 2) := by decide +kernel
theorem dL_law_579 : decode cL_law 579 = .ok (.invokevirtual 143, 3) := by decide +kernel
theorem dL_law_582 : decode cL_law 582 = .ok (.iadd, 1) := by decide +kernel
theorem dL_law_583 : decode cL_law 583 = .ok (.istore 19, 2) := by decide +kernel
theorem dL_law_585 : decode cL_law 585 = .ok (.iload 22, 2) := by decide +kernel
theorem dL_law_587 : decode cL_law 587 = .ok (.ifCond .ge 7, 3) := by decide +kernel
theorem dL_law_590 : decode cL_law 590 = .ok (.iconst 0, 1) := by decide +kernel
theorem dL_law_591 : decode cL_law 591 = .ok (.goto 26, 3) := by decide +kernel
theorem dL_law_594 : decode cL_law 594 = .ok (.iconst 0, 1) := by decide +kernel
theorem dL_law_595 : decode cL_law 595 = .ok (.aload 12, 2) := by decide +kernel
theorem dL_law_597 : decode cL_law 597 = .ok (.iload 22, 2) := by decide +kernel
theorem dL_law_599 : decode cL_law 599 = .ok (.iaload, 1) := by decide +kernel
theorem dL_law_600 : decode cL_law 600 = .ok (.aload 10, 2) := by decide +kernel
theorem dL_law_602 : decode cL_law 602 = .ok (.iload 21, 2) := by decide +kernel
theorem dL_law_604 : decode cL_law 604 = .ok (.iaload, 1) := by decide +kernel
theorem dL_law_605 : decode cL_law 605 = .ok (.ifCond .le 7, 3) := by decide +kernel
theorem dL_law_608 : decode cL_law 608 = .ok (.iconst 1, 1) := by decide +kernel
theorem dL_law_609 : decode cL_law 609 = .ok (.goto 4, 3) := by decide +kernel
theorem dL_law_612 : decode cL_law 612 = .ok (.iconst 0, 1) := by decide +kernel
theorem dL_law_613 : decode cL_law 613 = .ok (.isub, 1) := by decide +kernel
theorem dL_law_614 : decode cL_law 614 = .ok (.invokestatic 165, 3) := by decide +kernel
theorem dL_law_617 : decode cL_law 617 = .ok (.istore 23, 2) := by decide +kernel
theorem dL_law_619 : decode cL_law 619 = .ok (.iconst 0, 1) := by decide +kernel
theorem dL_law_620 : decode cL_law 620 = .ok (.istore 24, 2) := by decide +kernel
theorem dL_law_622 : decode cL_law 622 = .ok (.iload 24, 2) := by decide +kernel
theorem dL_law_624 : decode cL_law 624 = .ok (.iconst 4, 1) := by decide +kernel
theorem dL_law_625 : decode cL_law 625 = .ok (.if_icmp .ge 76, 3) := by decide +kernel
theorem dL_law_628 : decode cL_law 628 = .ok (.aload 9, 2) := by decide +kernel
theorem dL_law_630 : decode cL_law 630 = .ok (.iload 21, 2) := by decide +kernel
theorem dL_law_632 : decode cL_law 632 = .ok (.iaload, 1) := by decide +kernel
theorem dL_law_633 : decode cL_law 633 = .ok (.iload 24, 2) := by decide +kernel
theorem dL_law_635 : decode cL_law 635 = .ok (.iadd, 1) := by decide +kernel
theorem dL_law_636 : decode cL_law 636 = .ok (.iconst 4, 1) := by decide +kernel
theorem dL_law_637 : decode cL_law 637 = .ok (.irem, 1) := by decide +kernel
theorem dL_law_638 : decode cL_law 638 = .ok (.istore 25, 2) := by decide +kernel
theorem dL_law_640 : decode cL_law 640 = .ok (.iload 24, 2) := by decide +kernel
theorem dL_law_642 : decode cL_law 642 = .ok (.ifCond .ne 8, 3) := by decide +kernel
theorem dL_law_645 : decode cL_law 645 = .ok (.iload 23, 2) := by decide +kernel
theorem dL_law_647 : decode cL_law 647 = .ok (.goto 17, 3) := by decide +kernel
theorem dL_law_650 : decode cL_law 650 = .ok (.iload 24, 2) := by decide +kernel
theorem dL_law_652 : decode cL_law 652 = .ok (.iconst 2, 1) := by decide +kernel
theorem dL_law_653 : decode cL_law 653 = .ok (.if_icmp .ne 7, 3) := by decide +kernel
theorem dL_law_656 : decode cL_law 656 = .ok (.iconst 0, 1) := by decide +kernel
theorem dL_law_657 : decode cL_law 657 = .ok (.goto 7, 3) := by decide +kernel
theorem dL_law_660 : decode cL_law 660 = .ok (.iload 23, 2) := by decide +kernel
theorem dL_law_662 : decode cL_law 662 = .ok (.iconst 3, 1) := by decide +kernel
theorem dL_law_663 : decode cL_law 663 = .ok (.idiv, 1) := by decide +kernel
theorem dL_law_664 : decode cL_law 664 = .ok (.istore 26, 2) := by decide +kernel
theorem dL_law_666 : decode cL_law 666 = .ok (.aload_n 1, 1) := by decide +kernel
theorem dL_law_667 : decode cL_law 667 = .ok (.iload 21, 2) := by decide +kernel
theorem dL_law_669 : decode cL_law 669 = .ok (.iload 25, 2) := by decide +kernel
theorem dL_law_671 : decode cL_law 671 = .ok (.invokevirtual 140, 3) := by decide +kernel
theorem dL_law_674 : decode cL_law 674 = .ok (.bipush 99, 2) := by decide +kernel
theorem dL_law_676 : decode cL_law 676 = .ok (.aload 7, 2) := by decide +kernel
theorem dL_law_678 : decode cL_law 678 = .ok (.iload 21, 2) := by decide +kernel
theorem dL_law_680 : decode cL_law 680 = .ok (.aaload, 1) := by decide +kernel
theorem dL_law_681 : decode cL_law 681 = .ok (.iload 25, 2) := by decide +kernel
theorem dL_law_683 : decode cL_law 683 = .ok (.iaload, 1) := by decide +kernel
theorem dL_law_684 : decode cL_law 684 = .ok (.iload 26, 2) := by decide +kernel
theorem dL_law_686 : decode cL_law 686 = .ok (.iadd, 1) := by decide +kernel
theorem dL_law_687 : decode cL_law 687 = .ok (.invokestatic 37, 3) := by decide +kernel
theorem dL_law_690 : decode cL_law 690 = .ok (.if_icmp .eq 5, 3) := by decide +kernel
theorem dL_law_693 : decode cL_law 693 = .ok (.iconst 0, 1) := by decide +kernel
theorem dL_law_694 : decode cL_law 694 = .ok (.ireturn, 1) := by decide +kernel
theorem dL_law_695 : decode cL_law 695 = .ok (.iinc 24 1, 3) := by decide +kernel
theorem dL_law_698 : decode cL_law 698 = .ok (.goto (-76), 3) := by decide +kernel
theorem dL_law_701 : decode cL_law 701 = .ok (.aload_n 1, 1) := by decide +kernel
theorem dL_law_702 : decode cL_law 702 = .ok (.iload 21, 2) := by decide +kernel
theorem dL_law_704 : decode cL_law 704 = .ok (.invokevirtual 143, 3) := by decide +kernel
theorem dL_law_707 : decode cL_law 707 = .ok (.aload 8, 2) := by decide +kernel
theorem dL_law_709 : decode cL_law 709 = .ok (.iload 21, 2) := by decide +kernel
theorem dL_law_711 : decode cL_law 711 = .ok (.iaload, 1) := by decide +kernel
theorem dL_law_712 : decode cL_law 712 = .ok (.iload 23, 2) := by decide +kernel
theorem dL_law_714 : decode cL_law 714 = .ok (.iconst 1, 1) := by decide +kernel
theorem dL_law_715 : decode cL_law 715 = .ok (.if_icmp .le 15, 3) := by decide +kernel
theorem dL_law_718 : decode cL_law 718 = .ok (.aload 8, 2) := by decide +kernel
theorem dL_law_720 : decode cL_law 720 = .ok (.iload 21, 2) := by decide +kernel
theorem dL_law_722 : decode cL_law 722 = .ok (.iaload, 1) := by decide +kernel
theorem dL_law_723 : decode cL_law 723 = .ok (.ifCond .le 7, 3) := by decide +kernel
theorem dL_law_726 : decode cL_law 726 = .ok (.iconst 1, 1) := by decide +kernel
theorem dL_law_727 : decode cL_law 727 = .ok (.goto 4, 3) := by decide +kernel
theorem dL_law_730 : decode cL_law 730 = .ok (.iconst 0, 1) := by decide +kernel
theorem dL_law_731 : decode cL_law 731 = .ok (.isub, 1) := by decide +kernel
theorem dL_law_732 : decode cL_law 732 = .ok (.if_icmp .ne 57, 3) := by decide +kernel
theorem dL_law_735 : decode cL_law 735 = .ok (.aload_n 1, 1) := by decide +kernel
theorem dL_law_736 : decode cL_law 736 = .ok (.iload 21, 2) := by decide +kernel
theorem dL_law_738 : decode cL_law 738 = .ok (.invokevirtual 149, 3) := by decide +kernel
theorem dL_law_741 : decode cL_law 741 = .ok (.iload 22, 2) := by decide +kernel
theorem dL_law_743 : decode cL_law 743 = .ok (.ifCond .lt 21, 3) := by decide +kernel
theorem dL_law_746 : decode cL_law 746 = .ok (.aload 10, 2) := by decide +kernel
theorem dL_law_748 : decode cL_law 748 = .ok (.iload 21, 2) := by decide +kernel
theorem dL_law_750 : decode cL_law 750 = .ok (.iaload, 1) := by decide +kernel
theorem dL_law_751 : decode cL_law 751 = .ok (.ifCond .le 13, 3) := by decide +kernel
theorem dL_law_754 : decode cL_law 754 = .ok (.aload 10, 2) := by decide +kernel
theorem dL_law_756 : decode cL_law 756 = .ok (.iload 21, 2) := by decide +kernel
theorem dL_law_758 : decode cL_law 758 = .ok (.iaload, 1) := by decide +kernel
theorem dL_law_759 : decode cL_law 759 = .ok (.iconst 1, 1) := by decide +kernel
theorem dL_law_760 : decode cL_law 760 = .ok (.isub, 1) := by decide +kernel
theorem dL_law_761 : decode cL_law 761 = .ok (.goto 8, 3) := by decide +kernel
theorem dL_law_764 : decode cL_law 764 = .ok (.aload 10, 2) := by decide +kernel
theorem dL_law_766 : decode cL_law 766 = .ok (.iload 21, 2) := by decide +kernel
theorem dL_law_768 : decode cL_law 768 = .ok (.iaload, 1) := by decide +kernel
theorem dL_law_769 : decode cL_law 769 = .ok (.if_icmp .ne 20, 3) := by decide +kernel
theorem dL_law_772 : decode cL_law 772 = .ok (.aload 11, 2) := by decide +kernel
theorem dL_law_774 : decode cL_law 774 = .ok (.iload 21, 2) := by decide +kernel
theorem dL_law_776 : decode cL_law 776 = .ok (.baload, 1) := by decide +kernel
theorem dL_law_777 : decode cL_law 777 = .ok (.ifCond .eq 14, 3) := by decide +kernel
theorem dL_law_780 : decode cL_law 780 = .ok (.aload_n 1, 1) := by decide +kernel
theorem dL_law_781 : decode cL_law 781 = .ok (.iload 21, 2) := by decide +kernel
theorem dL_law_783 : decode cL_law 783 = .ok (.invokevirtual 152, 3) := by decide +kernel
theorem dL_law_786 : decode cL_law 786 = .ok (.ifCond .ne 5, 3) := by decide +kernel
theorem dL_law_789 : decode cL_law 789 = .ok (.iconst 0, 1) := by decide +kernel
theorem dL_law_790 : decode cL_law 790 = .ok (.ireturn, 1) := by decide +kernel
theorem dL_law_791 : decode cL_law 791 = .ok (.iload 22, 2) := by decide +kernel
theorem dL_law_793 : decode cL_law 793 = .ok (.ifCond .ge 17, 3) := by decide +kernel
theorem dL_law_796 : decode cL_law 796 = .ok (.aload_n 1, 1) := by decide +kernel
theorem dL_law_797 : decode cL_law 797 = .ok (.iload 21, 2) := by decide +kernel
theorem dL_law_799 : decode cL_law 799 = .ok (.invokevirtual 146, 3) := by decide +kernel
theorem dL_law_802 : decode cL_law 802 = .ok (.aload 9, 2) := by decide +kernel
theorem dL_law_804 : decode cL_law 804 = .ok (.iload 21, 2) := by decide +kernel
theorem dL_law_806 : decode cL_law 806 = .ok (.iaload, 1) := by decide +kernel
theorem dL_law_807 : decode cL_law 807 = .ok (.if_icmp .ne 35, 3) := by decide +kernel
theorem dL_law_810 : decode cL_law 810 = .ok (.aload_n 1, 1) := by decide +kernel
theorem dL_law_811 : decode cL_law 811 = .ok (.iload 21, 2) := by decide +kernel
theorem dL_law_813 : decode cL_law 813 = .ok (.invokevirtual 146, 3) := by decide +kernel
theorem dL_law_816 : decode cL_law 816 = .ok (.aload 9, 2) := by decide +kernel
theorem dL_law_818 : decode cL_law 818 = .ok (.iload 21, 2) := by decide +kernel
theorem dL_law_820 : decode cL_law 820 = .ok (.iaload, 1) := by decide +kernel
theorem dL_law_821 : decode cL_law 821 = .ok (.if_icmp .eq 23, 3) := by decide +kernel
theorem dL_law_824 : decode cL_law 824 = .ok (.aload_n 1, 1) := by decide +kernel
theorem dL_law_825 : decode cL_law 825 = .ok (.iload 21, 2) := by decide +kernel
theorem dL_law_827 : decode cL_law 827 = .ok (.invokevirtual 146, 3) := by decide +kernel
theorem dL_law_830 : decode cL_law 830 = .ok (.aload 9, 2) := by decide +kernel
theorem dL_law_832 : decode cL_law 832 = .ok (.iload 21, 2) := by decide +kernel
theorem dL_law_834 : decode cL_law 834 = .ok (.iaload, 1) := by decide +kernel
theorem dL_law_835 : decode cL_law 835 = .ok (.iconst 1, 1) := by decide +kernel
theorem dL_law_836 : decode cL_law 836 = .ok (.iadd, 1) := by decide +kernel
theorem dL_law_837 : decode cL_law 837 = .ok (.iconst 4, 1) := by decide +kernel
theorem dL_law_838 : decode cL_law 838 = .ok (.irem, 1) := by decide +kernel
theorem dL_law_839 : decode cL_law 839 = .ok (.if_icmp .eq 5, 3) := by decide +kernel
theorem dL_law_842 : decode cL_law 842 = .ok (.iconst 0, 1) := by decide +kernel
theorem dL_law_843 : decode cL_law 843 = .ok (.ireturn, 1) := by decide +kernel
theorem dL_law_844 : decode cL_law 844 = .ok (.iinc 21 1, 3) := by decide +kernel
theorem dL_law_847 : decode cL_law 847 = .ok (.goto (-288), 3) := by decide +kernel
theorem dL_law_850 : decode cL_law 850 = .ok (.iconst 0, 1) := by decide +kernel
theorem dL_law_851 : decode cL_law 851 = .ok (.istore 21, 2) := by decide +kernel
theorem dL_law_853 : decode cL_law 853 = .ok (.iload 21, 2) := by decide +kernel
theorem dL_law_855 : decode cL_law 855 = .ok (.iload 5, 2) := by decide +kernel
theorem dL_law_857 : decode cL_law 857 = .ok (.if_icmp .ge 20, 3) := by decide +kernel
theorem dL_law_860 : decode cL_law 860 = .ok (.iload 20, 2) := by decide +kernel
theorem dL_law_862 : decode cL_law 862 = .ok (.aload_n 1, 1) := by decide +kernel
theorem dL_law_863 : decode cL_law 863 = .ok (.iload 21, 2) := by decide +kernel
theorem dL_law_865 : decode cL_law 865 = .ok (.invokevirtual 125, 3) := by decide +kernel
theorem dL_law_868 : decode cL_law 868 = .ok (.iadd, 1) := by decide +kernel
theorem dL_law_869 : decode cL_law 869 = .ok (.istore 20, 2) := by decide +kernel
theorem dL_law_871 : decode cL_law 871 = .ok (.iinc 21 1, 3) := by decide +kernel
theorem dL_law_874 : decode cL_law 874 = .ok (.goto (-21), 3) := by decide +kernel
theorem dL_law_877 : decode cL_law 877 = .ok (.iload 16, 2) := by decide +kernel
theorem dL_law_879 : decode cL_law 879 = .ok (.iload 19, 2) := by decide +kernel
theorem dL_law_881 : decode cL_law 881 = .ok (.isub, 1) := by decide +kernel
theorem dL_law_882 : decode cL_law 882 = .ok (.iload 20, 2) := by decide +kernel
theorem dL_law_884 : decode cL_law 884 = .ok (.iload 13, 2) := by decide +kernel
theorem dL_law_886 : decode cL_law 886 = .ok (.isub, 1) := by decide +kernel
theorem dL_law_887 : decode cL_law 887 = .ok (.iload 18, 2) := by decide +kernel
theorem dL_law_889 : decode cL_law 889 = .ok (.iadd, 1) := by decide +kernel
theorem dL_law_890 : decode cL_law 890 = .ok (.if_icmp .eq 5, 3) := by decide +kernel
theorem dL_law_893 : decode cL_law 893 = .ok (.iconst 0, 1) := by decide +kernel
theorem dL_law_894 : decode cL_law 894 = .ok (.ireturn, 1) := by decide +kernel
theorem dL_law_895 : decode cL_law 895 = .ok (.iconst 0, 1) := by decide +kernel
theorem dL_law_896 : decode cL_law 896 = .ok (.istore 21, 2) := by decide +kernel
theorem dL_law_898 : decode cL_law 898 = .ok (.iload 21, 2) := by decide +kernel
theorem dL_law_900 : decode cL_law 900 = .ok (.aload_n 1, 1) := by decide +kernel
theorem dL_law_901 : decode cL_law 901 = .ok (.invokevirtual 114, 3) := by decide +kernel
theorem dL_law_904 : decode cL_law 904 = .ok (.if_icmp .ge 131, 3) := by decide +kernel
theorem dL_law_907 : decode cL_law 907 = .ok (.aload 15, 2) := by decide +kernel
theorem dL_law_909 : decode cL_law 909 = .ok (.iload 21, 2) := by decide +kernel
theorem dL_law_911 : decode cL_law 911 = .ok (.iaload, 1) := by decide +kernel
theorem dL_law_912 : decode cL_law 912 = .ok (.ifCond .le 14, 3) := by decide +kernel
theorem dL_law_915 : decode cL_law 915 = .ok (.iload 17, 2) := by decide +kernel
theorem dL_law_917 : decode cL_law 917 = .ok (.iconst 5, 1) := by decide +kernel
theorem dL_law_918 : decode cL_law 918 = .ok (.irem, 1) := by decide +kernel
theorem dL_law_919 : decode cL_law 919 = .ok (.ifCond .ne 7, 3) := by decide +kernel
theorem dL_law_922 : decode cL_law 922 = .ok (.iconst 1, 1) := by decide +kernel
theorem dL_law_923 : decode cL_law 923 = .ok (.goto 4, 3) := by decide +kernel
theorem dL_law_926 : decode cL_law 926 = .ok (.iconst 0, 1) := by decide +kernel
theorem dL_law_927 : decode cL_law 927 = .ok (.istore 22, 2) := by decide +kernel
theorem dL_law_929 : decode cL_law 929 = .ok (.iconst 0, 1) := by decide +kernel
theorem dL_law_930 : decode cL_law 930 = .ok (.bipush 9, 2) := by decide +kernel
theorem dL_law_932 : decode cL_law 932 = .ok (.aload 14, 2) := by decide +kernel
theorem dL_law_934 : decode cL_law 934 = .ok (.iload 21, 2) := by decide +kernel
theorem dL_law_936 : decode cL_law 936 = .ok (.iaload, 1) := by decide +kernel
theorem dL_law_937 : decode cL_law 937 = .ok (.aload 15, 2) := by decide +kernel
theorem dL_law_939 : decode cL_law 939 = .ok (.iload 21, 2) := by decide +kernel
theorem dL_law_941 : decode cL_law 941 = .ok (.iaload, 1) := by decide +kernel
theorem dL_law_942 : decode cL_law 942 = .ok (.ifCond .le 7, 3) := by decide +kernel
theorem dL_law_945 : decode cL_law 945 = .ok (.iconst 1, 1) := by decide +kernel
theorem dL_law_946 : decode cL_law 946 = .ok (.goto 4, 3) := by decide +kernel
theorem dL_law_949 : decode cL_law 949 = .ok (.iconst (-1), 1) := by decide +kernel
theorem dL_law_950 : decode cL_law 950 = .ok (.iadd, 1) := by decide +kernel
theorem dL_law_951 : decode cL_law 951 = .ok (.invokestatic 37, 3) := by decide +kernel
theorem dL_law_954 : decode cL_law 954 = .ok (.invokestatic 165, 3) := by decide +kernel
theorem dL_law_957 : decode cL_law 957 = .ok (.istore 23, 2) := by decide +kernel
theorem dL_law_959 : decode cL_law 959 = .ok (.aload_n 1, 1) := by decide +kernel
theorem dL_law_960 : decode cL_law 960 = .ok (.iload 21, 2) := by decide +kernel
theorem dL_law_962 : decode cL_law 962 = .ok (.invokevirtual 119, 3) := by decide +kernel
theorem dL_law_965 : decode cL_law 965 = .ok (.aload 15, 2) := by decide +kernel
theorem dL_law_967 : decode cL_law 967 = .ok (.iload 21, 2) := by decide +kernel
theorem dL_law_969 : decode cL_law 969 = .ok (.iaload, 1) := by decide +kernel
theorem dL_law_970 : decode cL_law 970 = .ok (.iload 22, 2) := by decide +kernel
theorem dL_law_972 : decode cL_law 972 = .ok (.isub, 1) := by decide +kernel
theorem dL_law_973 : decode cL_law 973 = .ok (.if_icmp .ne 54, 3) := by decide +kernel
theorem dL_law_976 : decode cL_law 976 = .ok (.aload_n 1, 1) := by decide +kernel
theorem dL_law_977 : decode cL_law 977 = .ok (.iload 21, 2) := by decide +kernel
theorem dL_law_979 : decode cL_law 979 = .ok (.invokevirtual 116, 3) := by decide +kernel
theorem dL_law_982 : decode cL_law 982 = .ok (.iload 23, 2) := by decide +kernel
theorem dL_law_984 : decode cL_law 984 = .ok (.if_icmp .lt 43, 3) := by decide +kernel
theorem dL_law_987 : decode cL_law 987 = .ok (.iload 18, 2) := by decide +kernel
theorem dL_law_989 : decode cL_law 989 = .ok (.ifCond .ne 14, 3) := by decide +kernel
theorem dL_law_992 : decode cL_law 992 = .ok (.aload_n 1, 1) := by decide +kernel
theorem dL_law_993 : decode cL_law 993 = .ok (.iload 21, 2) := by decide +kernel
theorem dL_law_995 : decode cL_law 995 = .ok (.invokevirtual 116, 3) := by decide +kernel
theorem dL_law_998 : decode cL_law 998 = .ok (.iload 23, 2) := by decide +kernel
theorem dL_law_1000 : decode cL_law 1000 = .ok (.if_icmp .ne 27, 3) := by decide +kernel
theorem dL_law_1003 : decode cL_law 1003 = .ok (.aload_n 1, 1) := by decide +kernel
theorem dL_law_1004 : decode cL_law 1004 = .ok (.iload 21, 2) := by decide +kernel
theorem dL_law_1006 : decode cL_law 1006 = .ok (.invokevirtual 116, 3) := by decide +kernel
theorem dL_law_1009 : decode cL_law 1009 = .ok (.bipush 9, 2) := by decide +kernel
theorem dL_law_1011 : decode cL_law 1011 = .ok (.aload 14, 2) := by decide +kernel
theorem dL_law_1013 : decode cL_law 1013 = .ok (.iload 21, 2) := by decide +kernel
theorem dL_law_1015 : decode cL_law 1015 = .ok (.iaload, 1) := by decide +kernel
theorem dL_law_1016 : decode cL_law 1016 = .ok (.iconst 1, 1) := by decide +kernel
theorem dL_law_1017 : decode cL_law 1017 = .ok (.iadd, 1) := by decide +kernel
theorem dL_law_1018 : decode cL_law 1018 = .ok (.iload 18, 2) := by decide +kernel
theorem dL_law_1020 : decode cL_law 1020 = .ok (.iadd, 1) := by decide +kernel
theorem dL_law_1021 : decode cL_law 1021 = .ok (.invokestatic 37, 3) := by decide +kernel
theorem dL_law_1024 : decode cL_law 1024 = .ok (.if_icmp .le 5, 3) := by decide +kernel
theorem dL_law_1027 : decode cL_law 1027 = .ok (.iconst 0, 1) := by decide +kernel
theorem dL_law_1028 : decode cL_law 1028 = .ok (.ireturn, 1) := by decide +kernel
theorem dL_law_1029 : decode cL_law 1029 = .ok (.iinc 21 1, 3) := by decide +kernel
theorem dL_law_1032 : decode cL_law 1032 = .ok (.goto (-134), 3) := by decide +kernel
theorem dL_law_1035 : decode cL_law 1035 = .ok (.iinc 3 1, 3) := by decide +kernel
theorem dL_law_1038 : decode cL_law 1038 = .ok (.goto (-1016), 3) := by decide +kernel
theorem dL_law_1041 : decode cL_law 1041 = .ok (.aload_n 2, 1) := by decide +kernel
theorem dL_law_1042 : decode cL_law 1042 = .ok (.aload_n 1, 1) := by decide +kernel
theorem dL_law_1043 : decode cL_law 1043 = .ok (.invokevirtual 168, 3) := by decide +kernel
theorem dL_law_1046 : decode cL_law 1046 = .ok (.ireturn, 1) := by decide +kernel
end
section
/-- the words of the tables that stay true through calls -/
def uW : List Cond := lw_tbl.filter goodWord
theorem uW_of {w : Cond} (i : Nat) (h : lw_tbl[i]? = some w) (hg : goodWord w = true) : w ∈ uW := List.mem_filter.mpr ⟨List.mem_of_getElem? h, hg⟩
end
section
theorem u_se_JT_fillInStackTrace : (Jvm.Cond.selects "java/lang/Throwable" ({ cls := "java/lang/Throwable", name := "fillInStackTrace", desc := "(I)Ljava/lang/Throwable;" } : Jvm.MethodName) ({ cls := "java/lang/Throwable", name := "fillInStackTrace", desc := "(I)Ljava/lang/Throwable;" } : Jvm.MethodName)) ∈ uW := uW_of 0 (by decide +kernel) rfl
theorem u_se_X4_needFire : (Jvm.Cond.selects "KitchenSpits" ({ cls := "KitchenSpits", name := "needFire", desc := "(I)LKitchenSpits$Fire;" } : Jvm.MethodName) ({ cls := "KitchenSpits", name := "needFire", desc := "(I)LKitchenSpits$Fire;" } : Jvm.MethodName)) ∈ uW := uW_of 1 (by decide +kernel) rfl
theorem u_se_X4_needSpit : (Jvm.Cond.selects "KitchenSpits" ({ cls := "KitchenSpits", name := "needSpit", desc := "(I)LKitchenSpits$Spit;" } : Jvm.MethodName) ({ cls := "KitchenSpits", name := "needSpit", desc := "(I)LKitchenSpits$Spit;" } : Jvm.MethodName)) ∈ uW := uW_of 2 (by decide +kernel) rfl
theorem u_se_X4_needRoast : (Jvm.Cond.selects "KitchenSpits" ({ cls := "KitchenSpits", name := "needRoast", desc := "(I)LKitchenSpits$Roast;" } : Jvm.MethodName) ({ cls := "KitchenSpits", name := "needRoast", desc := "(I)LKitchenSpits$Roast;" } : Jvm.MethodName)) ∈ uW := uW_of 3 (by decide +kernel) rfl
theorem u_se_X4_needRoastOf : (Jvm.Cond.selects "KitchenSpits" ({ cls := "KitchenSpits", name := "needRoastOf", desc := "(LKitchenSpits$Spit;)LKitchenSpits$Roast;" } : Jvm.MethodName) ({ cls := "KitchenSpits", name := "needRoastOf", desc := "(LKitchenSpits$Spit;)LKitchenSpits$Roast;" } : Jvm.MethodName)) ∈ uW := uW_of 4 (by decide +kernel) rfl
theorem u_ini_L : (Jvm.Cond.initialized "KitchenSpitsLaw") ∈ uW := uW_of 5 (by decide +kernel) rfl
theorem u_ini_X4 : (Jvm.Cond.initialized "KitchenSpits") ∈ uW := uW_of 6 (by decide +kernel) rfl
theorem u_ini_X1 : (Jvm.Cond.initialized "KitchenSpits$Kitchen") ∈ uW := uW_of 7 (by decide +kernel) rfl
theorem u_ini_X0 : (Jvm.Cond.initialized "KitchenSpits$Fire") ∈ uW := uW_of 8 (by decide +kernel) rfl
theorem u_ini_X3 : (Jvm.Cond.initialized "KitchenSpits$Spit") ∈ uW := uW_of 9 (by decide +kernel) rfl
theorem u_ini_X2 : (Jvm.Cond.initialized "KitchenSpits$Roast") ∈ uW := uW_of 10 (by decide +kernel) rfl
theorem u_ini_X6 : (Jvm.Cond.initialized "KitchenSpitsLaw$Sim") ∈ uW := uW_of 11 (by decide +kernel) rfl
theorem u_ini_JT : (Jvm.Cond.initialized "java/lang/Throwable") ∈ uW := uW_of 12 (by decide +kernel) rfl
theorem u_ini_JE : (Jvm.Cond.initialized "java/lang/Exception") ∈ uW := uW_of 13 (by decide +kernel) rfl
theorem u_ini_JR : (Jvm.Cond.initialized "java/lang/RuntimeException") ∈ uW := uW_of 14 (by decide +kernel) rfl
theorem u_ini_JS : (Jvm.Cond.initialized "java/lang/IllegalStateException") ∈ uW := uW_of 15 (by decide +kernel) rfl
theorem u_ini_JI : (Jvm.Cond.initialized "java/lang/IndexOutOfBoundsException") ∈ uW := uW_of 16 (by decide +kernel) rfl
theorem u_ini_JA : (Jvm.Cond.initialized "java/lang/IllegalArgumentException") ∈ uW := uW_of 17 (by decide +kernel) rfl
theorem u_ini_JM : (Jvm.Cond.initialized "java/lang/Math") ∈ uW := uW_of 18 (by decide +kernel) rfl
theorem u_ini_X5 : (Jvm.Cond.initialized "KitchenSpitsLaw$Roast") ∈ uW := uW_of 19 (by decide +kernel) rfl
theorem u_cl_L_26 : (Jvm.Cond.classLink "KitchenSpitsLaw" (26 : Nat) "KitchenSpits") ∈ uW := uW_of 20 (by decide +kernel) rfl
theorem u_ins_X4 : (Jvm.Cond.instantiable "KitchenSpits" (2 : Nat)) ∈ uW := uW_of 21 (by decide +kernel) rfl
theorem u_ml_L_104 : (Jvm.Cond.methodLink "KitchenSpitsLaw" (104 : Nat) ({ cls := "KitchenSpits", name := "<init>", desc := "()V" } : Jvm.MethodName)) ∈ uW := uW_of 22 (by decide +kernel) rfl
theorem u_im_X4_init : (Jvm.Cond.instanceMethod ({ cls := "KitchenSpits", name := "<init>", desc := "()V" } : Jvm.MethodName)) ∈ uW := uW_of 23 (by decide +kernel) rfl
theorem u_co_X4_init : (Jvm.Cond.code ({ cls := "KitchenSpits", name := "<init>", desc := "()V" } : Jvm.MethodName) prog_1_method_1_code (1 : Nat) (Option.none : Option Jvm.ClassFile.FieldType)) ∈ uW := uW_of 24 (by decide +kernel) rfl
theorem u_ml_X4_1 : (Jvm.Cond.methodLink "KitchenSpits" (1 : Nat) ({ cls := "java/lang/Object", name := "<init>", desc := "()V" } : Jvm.MethodName)) ∈ uW := uW_of 25 (by decide +kernel) rfl
theorem u_im_JO_init : (Jvm.Cond.instanceMethod ({ cls := "java/lang/Object", name := "<init>", desc := "()V" } : Jvm.MethodName)) ∈ uW := uW_of 26 (by decide +kernel) rfl
theorem u_co_JO_init : (Jvm.Cond.code ({ cls := "java/lang/Object", name := "<init>", desc := "()V" } : Jvm.MethodName) object_method_1_code (1 : Nat) (Option.none : Option Jvm.ClassFile.FieldType)) ∈ uW := uW_of 27 (by decide +kernel) rfl
theorem u_cl_X4_7 : (Jvm.Cond.classLink "KitchenSpits" (7 : Nat) "KitchenSpits$Kitchen") ∈ uW := uW_of 28 (by decide +kernel) rfl
theorem u_ins_X1 : (Jvm.Cond.instantiable "KitchenSpits$Kitchen" (8 : Nat)) ∈ uW := uW_of 29 (by decide +kernel) rfl
theorem u_ml_X4_9 : (Jvm.Cond.methodLink "KitchenSpits" (9 : Nat) ({ cls := "KitchenSpits$Kitchen", name := "<init>", desc := "()V" } : Jvm.MethodName)) ∈ uW := uW_of 30 (by decide +kernel) rfl
theorem u_im_X1_init : (Jvm.Cond.instanceMethod ({ cls := "KitchenSpits$Kitchen", name := "<init>", desc := "()V" } : Jvm.MethodName)) ∈ uW := uW_of 31 (by decide +kernel) rfl
theorem u_co_X1_init : (Jvm.Cond.code ({ cls := "KitchenSpits$Kitchen", name := "<init>", desc := "()V" } : Jvm.MethodName) prog_3_method_1_code (2 : Nat) (Option.none : Option Jvm.ClassFile.FieldType)) ∈ uW := uW_of 32 (by decide +kernel) rfl
theorem u_ml_X1_3 : (Jvm.Cond.methodLink "KitchenSpits$Kitchen" (3 : Nat) ({ cls := "java/lang/Object", name := "<init>", desc := "()V" } : Jvm.MethodName)) ∈ uW := uW_of 33 (by decide +kernel) rfl
theorem u_cl_X1_9 : (Jvm.Cond.classLink "KitchenSpits$Kitchen" (9 : Nat) "KitchenSpits$Fire") ∈ uW := uW_of 34 (by decide +kernel) rfl
theorem u_cl_X1_17 : (Jvm.Cond.classLink "KitchenSpits$Kitchen" (17 : Nat) "KitchenSpits$Spit") ∈ uW := uW_of 36 (by decide +kernel) rfl
theorem u_cl_X1_23 : (Jvm.Cond.classLink "KitchenSpits$Kitchen" (23 : Nat) "KitchenSpits$Roast") ∈ uW := uW_of 38 (by decide +kernel) rfl
theorem u_ins_X0 : (Jvm.Cond.instantiable "KitchenSpits$Fire" (3 : Nat)) ∈ uW := uW_of 40 (by decide +kernel) rfl
theorem u_im_X0_init : (Jvm.Cond.instanceMethod ({ cls := "KitchenSpits$Fire", name := "<init>", desc := "()V" } : Jvm.MethodName)) ∈ uW := uW_of 42 (by decide +kernel) rfl
theorem u_co_X0_init : (Jvm.Cond.code ({ cls := "KitchenSpits$Fire", name := "<init>", desc := "()V" } : Jvm.MethodName) prog_2_method_1_code (1 : Nat) (Option.none : Option Jvm.ClassFile.FieldType)) ∈ uW := uW_of 43 (by decide +kernel) rfl
theorem u_ml_X0_3 : (Jvm.Cond.methodLink "KitchenSpits$Fire" (3 : Nat) ({ cls := "java/lang/Object", name := "<init>", desc := "()V" } : Jvm.MethodName)) ∈ uW := uW_of 44 (by decide +kernel) rfl
theorem u_fl_X0_9 : (Jvm.Cond.fieldLink "KitchenSpits$Fire" (9 : Nat) "KitchenSpits$Fire" "logs" "I") ∈ uW := uW_of 45 (by decide +kernel) rfl
theorem u_fl_X4_39 : (Jvm.Cond.fieldLink "KitchenSpits" (39 : Nat) "KitchenSpits$Fire" "logs" "I") ∈ uW := uW_of 46 (by decide +kernel) rfl
theorem u_fl_X0_15 : (Jvm.Cond.fieldLink "KitchenSpits$Fire" (15 : Nat) "KitchenSpits$Fire" "heat" "I") ∈ uW := uW_of 47 (by decide +kernel) rfl
theorem u_fl_X1_87 : (Jvm.Cond.fieldLink "KitchenSpits$Kitchen" (87 : Nat) "KitchenSpits$Fire" "heat" "I") ∈ uW := uW_of 48 (by decide +kernel) rfl
theorem u_fl_X4_128 : (Jvm.Cond.fieldLink "KitchenSpits" (128 : Nat) "KitchenSpits$Fire" "heat" "I") ∈ uW := uW_of 49 (by decide +kernel) rfl
theorem u_fl_X0_18 : (Jvm.Cond.fieldLink "KitchenSpits$Fire" (18 : Nat) "KitchenSpits$Fire" "flares" "I") ∈ uW := uW_of 50 (by decide +kernel) rfl
theorem u_fl_X1_122 : (Jvm.Cond.fieldLink "KitchenSpits$Kitchen" (122 : Nat) "KitchenSpits$Fire" "flares" "I") ∈ uW := uW_of 51 (by decide +kernel) rfl
theorem u_ins_X3 : (Jvm.Cond.instantiable "KitchenSpits$Spit" (6 : Nat)) ∈ uW := uW_of 59 (by decide +kernel) rfl
theorem u_im_X3_init : (Jvm.Cond.instanceMethod ({ cls := "KitchenSpits$Spit", name := "<init>", desc := "()V" } : Jvm.MethodName)) ∈ uW := uW_of 61 (by decide +kernel) rfl
theorem u_co_X3_init : (Jvm.Cond.code ({ cls := "KitchenSpits$Spit", name := "<init>", desc := "()V" } : Jvm.MethodName) prog_5_method_1_code (1 : Nat) (Option.none : Option Jvm.ClassFile.FieldType)) ∈ uW := uW_of 62 (by decide +kernel) rfl
theorem u_ml_X3_3 : (Jvm.Cond.methodLink "KitchenSpits$Spit" (3 : Nat) ({ cls := "java/lang/Object", name := "<init>", desc := "()V" } : Jvm.MethodName)) ∈ uW := uW_of 63 (by decide +kernel) rfl
theorem u_fl_X1_58 : (Jvm.Cond.fieldLink "KitchenSpits$Kitchen" (58 : Nat) "KitchenSpits$Spit" "fire" "I") ∈ uW := uW_of 64 (by decide +kernel) rfl
theorem u_fl_X4_134 : (Jvm.Cond.fieldLink "KitchenSpits" (134 : Nat) "KitchenSpits$Spit" "fire" "I") ∈ uW := uW_of 65 (by decide +kernel) rfl
theorem u_fl_X4_64 : (Jvm.Cond.fieldLink "KitchenSpits" (64 : Nat) "KitchenSpits$Spit" "feet" "I") ∈ uW := uW_of 66 (by decide +kernel) rfl
theorem u_fl_X1_61 : (Jvm.Cond.fieldLink "KitchenSpits$Kitchen" (61 : Nat) "KitchenSpits$Spit" "feet" "I") ∈ uW := uW_of 67 (by decide +kernel) rfl
theorem u_fl_X3_21 : (Jvm.Cond.fieldLink "KitchenSpits$Spit" (21 : Nat) "KitchenSpits$Spit" "each" "I") ∈ uW := uW_of 68 (by decide +kernel) rfl
theorem u_fl_X4_71 : (Jvm.Cond.fieldLink "KitchenSpits" (71 : Nat) "KitchenSpits$Spit" "each" "I") ∈ uW := uW_of 69 (by decide +kernel) rfl
theorem u_fl_X3_24 : (Jvm.Cond.fieldLink "KitchenSpits$Spit" (24 : Nat) "KitchenSpits$Spit" "count" "I") ∈ uW := uW_of 70 (by decide +kernel) rfl
theorem u_fl_X1_80 : (Jvm.Cond.fieldLink "KitchenSpits$Kitchen" (80 : Nat) "KitchenSpits$Spit" "count" "I") ∈ uW := uW_of 71 (by decide +kernel) rfl
theorem u_fl_X3_27 : (Jvm.Cond.fieldLink "KitchenSpits$Spit" (27 : Nat) "KitchenSpits$Spit" "drippings" "I") ∈ uW := uW_of 72 (by decide +kernel) rfl
theorem u_fl_X4_102 : (Jvm.Cond.fieldLink "KitchenSpits" (102 : Nat) "KitchenSpits$Spit" "drippings" "I") ∈ uW := uW_of 73 (by decide +kernel) rfl
theorem u_fl_X3_9 : (Jvm.Cond.fieldLink "KitchenSpits$Spit" (9 : Nat) "KitchenSpits$Spit" "roast" "I") ∈ uW := uW_of 74 (by decide +kernel) rfl
theorem u_fl_X1_68 : (Jvm.Cond.fieldLink "KitchenSpits$Kitchen" (68 : Nat) "KitchenSpits$Spit" "roast" "I") ∈ uW := uW_of 75 (by decide +kernel) rfl
theorem u_fl_X4_110 : (Jvm.Cond.fieldLink "KitchenSpits" (110 : Nat) "KitchenSpits$Spit" "roast" "I") ∈ uW := uW_of 76 (by decide +kernel) rfl
theorem u_ins_X2 : (Jvm.Cond.instantiable "KitchenSpits$Roast" (6 : Nat)) ∈ uW := uW_of 90 (by decide +kernel) rfl
theorem u_im_X2_init : (Jvm.Cond.instanceMethod ({ cls := "KitchenSpits$Roast", name := "<init>", desc := "()V" } : Jvm.MethodName)) ∈ uW := uW_of 92 (by decide +kernel) rfl
theorem u_co_X2_init : (Jvm.Cond.code ({ cls := "KitchenSpits$Roast", name := "<init>", desc := "()V" } : Jvm.MethodName) prog_4_method_1_code (1 : Nat) (Option.none : Option Jvm.ClassFile.FieldType)) ∈ uW := uW_of 93 (by decide +kernel) rfl
theorem u_ml_X2_3 : (Jvm.Cond.methodLink "KitchenSpits$Roast" (3 : Nat) ({ cls := "java/lang/Object", name := "<init>", desc := "()V" } : Jvm.MethodName)) ∈ uW := uW_of 94 (by decide +kernel) rfl
theorem u_fl_X2_9 : (Jvm.Cond.fieldLink "KitchenSpits$Roast" (9 : Nat) "KitchenSpits$Roast" "brown" "[I") ∈ uW := uW_of 95 (by decide +kernel) rfl
theorem u_fl_X1_134 : (Jvm.Cond.fieldLink "KitchenSpits$Kitchen" (134 : Nat) "KitchenSpits$Roast" "brown" "[I") ∈ uW := uW_of 96 (by decide +kernel) rfl
theorem u_fl_X4_151 : (Jvm.Cond.fieldLink "KitchenSpits" (151 : Nat) "KitchenSpits$Roast" "brown" "[I") ∈ uW := uW_of 97 (by decide +kernel) rfl
theorem u_fl_X2_19 : (Jvm.Cond.fieldLink "KitchenSpits$Roast" (19 : Nat) "KitchenSpits$Roast" "pounds" "I") ∈ uW := uW_of 98 (by decide +kernel) rfl
theorem u_fl_X1_71 : (Jvm.Cond.fieldLink "KitchenSpits$Kitchen" (71 : Nat) "KitchenSpits$Roast" "pounds" "I") ∈ uW := uW_of 99 (by decide +kernel) rfl
theorem u_fl_X4_148 : (Jvm.Cond.fieldLink "KitchenSpits" (148 : Nat) "KitchenSpits$Roast" "pounds" "I") ∈ uW := uW_of 100 (by decide +kernel) rfl
theorem u_fl_X2_15 : (Jvm.Cond.fieldLink "KitchenSpits$Roast" (15 : Nat) "KitchenSpits$Roast" "spit" "I") ∈ uW := uW_of 101 (by decide +kernel) rfl
theorem u_fl_X1_77 : (Jvm.Cond.fieldLink "KitchenSpits$Kitchen" (77 : Nat) "KitchenSpits$Roast" "spit" "I") ∈ uW := uW_of 102 (by decide +kernel) rfl
theorem u_fl_X4_113 : (Jvm.Cond.fieldLink "KitchenSpits" (113 : Nat) "KitchenSpits$Roast" "spit" "I") ∈ uW := uW_of 103 (by decide +kernel) rfl
theorem u_fl_X2_22 : (Jvm.Cond.fieldLink "KitchenSpits$Roast" (22 : Nat) "KitchenSpits$Roast" "side" "I") ∈ uW := uW_of 104 (by decide +kernel) rfl
theorem u_fl_X4_99 : (Jvm.Cond.fieldLink "KitchenSpits" (99 : Nat) "KitchenSpits$Roast" "side" "I") ∈ uW := uW_of 105 (by decide +kernel) rfl
theorem u_fl_X2_25 : (Jvm.Cond.fieldLink "KitchenSpits$Roast" (25 : Nat) "KitchenSpits$Roast" "fat" "I") ∈ uW := uW_of 106 (by decide +kernel) rfl
theorem u_fl_X1_74 : (Jvm.Cond.fieldLink "KitchenSpits$Kitchen" (74 : Nat) "KitchenSpits$Roast" "fat" "I") ∈ uW := uW_of 107 (by decide +kernel) rfl
theorem u_fl_X4_160 : (Jvm.Cond.fieldLink "KitchenSpits" (160 : Nat) "KitchenSpits$Roast" "fat" "I") ∈ uW := uW_of 108 (by decide +kernel) rfl
theorem u_fl_X2_28 : (Jvm.Cond.fieldLink "KitchenSpits$Roast" (28 : Nat) "KitchenSpits$Roast" "wet" "I") ∈ uW := uW_of 109 (by decide +kernel) rfl
theorem u_fl_X4_107 : (Jvm.Cond.fieldLink "KitchenSpits" (107 : Nat) "KitchenSpits$Roast" "wet" "I") ∈ uW := uW_of 110 (by decide +kernel) rfl
theorem u_ac_int : (Jvm.Cond.arrayClass Jvm.ClassFile.FieldType.int) ∈ uW := uW_of 124 (by decide +kernel) rfl
theorem u_fl_X1_11 : (Jvm.Cond.fieldLink "KitchenSpits$Kitchen" (11 : Nat) "KitchenSpits$Kitchen" "fires" "[LKitchenSpits$Fire;") ∈ uW := uW_of 125 (by decide +kernel) rfl
theorem u_fl_X1_19 : (Jvm.Cond.fieldLink "KitchenSpits$Kitchen" (19 : Nat) "KitchenSpits$Kitchen" "spits" "[LKitchenSpits$Spit;") ∈ uW := uW_of 126 (by decide +kernel) rfl
theorem u_fl_X1_25 : (Jvm.Cond.fieldLink "KitchenSpits$Kitchen" (25 : Nat) "KitchenSpits$Kitchen" "roasts" "[LKitchenSpits$Roast;") ∈ uW := uW_of 127 (by decide +kernel) rfl
theorem u_fl_X1_46 : (Jvm.Cond.fieldLink "KitchenSpits$Kitchen" (46 : Nat) "KitchenSpits$Kitchen" "fireCount" "I") ∈ uW := uW_of 128 (by decide +kernel) rfl
theorem u_fl_X4_125 : (Jvm.Cond.fieldLink "KitchenSpits" (125 : Nat) "KitchenSpits$Kitchen" "fireCount" "I") ∈ uW := uW_of 129 (by decide +kernel) rfl
theorem u_fl_X1_49 : (Jvm.Cond.fieldLink "KitchenSpits$Kitchen" (49 : Nat) "KitchenSpits$Kitchen" "spitCount" "I") ∈ uW := uW_of 130 (by decide +kernel) rfl
theorem u_fl_X4_131 : (Jvm.Cond.fieldLink "KitchenSpits" (131 : Nat) "KitchenSpits$Kitchen" "spitCount" "I") ∈ uW := uW_of 131 (by decide +kernel) rfl
theorem u_fl_X1_52 : (Jvm.Cond.fieldLink "KitchenSpits$Kitchen" (52 : Nat) "KitchenSpits$Kitchen" "roastCount" "I") ∈ uW := uW_of 132 (by decide +kernel) rfl
theorem u_fl_X4_141 : (Jvm.Cond.fieldLink "KitchenSpits" (141 : Nat) "KitchenSpits$Kitchen" "roastCount" "I") ∈ uW := uW_of 133 (by decide +kernel) rfl
theorem u_fl_X1_55 : (Jvm.Cond.fieldLink "KitchenSpits$Kitchen" (55 : Nat) "KitchenSpits$Kitchen" "minute" "I") ∈ uW := uW_of 134 (by decide +kernel) rfl
theorem u_fl_X4_122 : (Jvm.Cond.fieldLink "KitchenSpits" (122 : Nat) "KitchenSpits$Kitchen" "minute" "I") ∈ uW := uW_of 135 (by decide +kernel) rfl
theorem u_fl_X1_29 : (Jvm.Cond.fieldLink "KitchenSpits$Kitchen" (29 : Nat) "KitchenSpits$Kitchen" "feast" "I") ∈ uW := uW_of 136 (by decide +kernel) rfl
theorem u_fl_X4_79 : (Jvm.Cond.fieldLink "KitchenSpits" (79 : Nat) "KitchenSpits$Kitchen" "feast" "I") ∈ uW := uW_of 137 (by decide +kernel) rfl
theorem u_fl_X4_10 : (Jvm.Cond.fieldLink "KitchenSpits" (10 : Nat) "KitchenSpits" "now" "LKitchenSpits$Kitchen;") ∈ uW := uW_of 155 (by decide +kernel) rfl
theorem u_fl_X4_16 : (Jvm.Cond.fieldLink "KitchenSpits" (16 : Nat) "KitchenSpits" "ahead" "LKitchenSpits$Kitchen;") ∈ uW := uW_of 156 (by decide +kernel) rfl
theorem u_ml_L_93 : (Jvm.Cond.methodLink "KitchenSpitsLaw" (93 : Nat) ({ cls := "KitchenSpits", name := "pass", desc := "(I)I" } : Jvm.MethodName)) ∈ uW := uW_of 162 (by decide +kernel) rfl
theorem u_im_X4_pass : (Jvm.Cond.instanceMethod ({ cls := "KitchenSpits", name := "pass", desc := "(I)I" } : Jvm.MethodName)) ∈ uW := uW_of 163 (by decide +kernel) rfl
theorem u_se_X4_pass : (Jvm.Cond.selects "KitchenSpits" ({ cls := "KitchenSpits", name := "pass", desc := "(I)I" } : Jvm.MethodName) ({ cls := "KitchenSpits", name := "pass", desc := "(I)I" } : Jvm.MethodName)) ∈ uW := uW_of 164 (by decide +kernel) rfl
theorem u_co_X4_pass : (Jvm.Cond.code ({ cls := "KitchenSpits", name := "pass", desc := "(I)I" } : Jvm.MethodName) prog_1_method_13_code (2 : Nat) (Option.some Jvm.ClassFile.FieldType.int)) ∈ uW := uW_of 165 (by decide +kernel) rfl
theorem u_cl_X4_34 : (Jvm.Cond.classLink "KitchenSpits" (34 : Nat) "java/lang/IllegalArgumentException") ∈ uW := uW_of 166 (by decide +kernel) rfl
theorem u_ins_JA : (Jvm.Cond.instantiable "java/lang/IllegalArgumentException" (6 : Nat)) ∈ uW := uW_of 167 (by decide +kernel) rfl
theorem u_se_JA_fillInStackTrace : (Jvm.Cond.selects "java/lang/IllegalArgumentException" ({ cls := "java/lang/Throwable", name := "fillInStackTrace", desc := "(I)Ljava/lang/Throwable;" } : Jvm.MethodName) ({ cls := "java/lang/Throwable", name := "fillInStackTrace", desc := "(I)Ljava/lang/Throwable;" } : Jvm.MethodName)) ∈ uW := uW_of 175 (by decide +kernel) rfl
theorem u_se_JA_fillInStackTrace_176 : (Jvm.Cond.selects "java/lang/IllegalArgumentException" ({ cls := "java/lang/Throwable", name := "fillInStackTrace", desc := "()Ljava/lang/Throwable;" } : Jvm.MethodName) ({ cls := "java/lang/Throwable", name := "fillInStackTrace", desc := "()Ljava/lang/Throwable;" } : Jvm.MethodName)) ∈ uW := uW_of 176 (by decide +kernel) rfl
theorem u_fl_JT_198 : (Jvm.Cond.fieldLink "java/lang/Throwable" (198 : Nat) "java/lang/Throwable" "backtrace" "Ljava/lang/Object;") ∈ uW := uW_of 187 (by decide +kernel) rfl
theorem u_im_JT_init : (Jvm.Cond.instanceMethod ({ cls := "java/lang/Throwable", name := "<init>", desc := "()V" } : Jvm.MethodName)) ∈ uW := uW_of 189 (by decide +kernel) rfl
theorem u_co_JT_init : (Jvm.Cond.code ({ cls := "java/lang/Throwable", name := "<init>", desc := "()V" } : Jvm.MethodName) prog_17_method_1_code (1 : Nat) (Option.none : Option Jvm.ClassFile.FieldType)) ∈ uW := uW_of 190 (by decide +kernel) rfl
theorem u_ml_JT_1 : (Jvm.Cond.methodLink "java/lang/Throwable" (1 : Nat) ({ cls := "java/lang/Object", name := "<init>", desc := "()V" } : Jvm.MethodName)) ∈ uW := uW_of 191 (by decide +kernel) rfl
theorem u_fl_JT_13 : (Jvm.Cond.fieldLink "java/lang/Throwable" (13 : Nat) "java/lang/Throwable" "UNASSIGNED_STACK" "[Ljava/lang/StackTraceElement;") ∈ uW := uW_of 192 (by decide +kernel) rfl
theorem u_fl_JT_20 : (Jvm.Cond.fieldLink "java/lang/Throwable" (20 : Nat) "java/lang/Throwable" "SUPPRESSED_SENTINEL" "Ljava/util/List;") ∈ uW := uW_of 194 (by decide +kernel) rfl
theorem u_ml_JT_27 : (Jvm.Cond.methodLink "java/lang/Throwable" (27 : Nat) ({ cls := "java/lang/Throwable", name := "fillInStackTrace", desc := "()Ljava/lang/Throwable;" } : Jvm.MethodName)) ∈ uW := uW_of 196 (by decide +kernel) rfl
theorem u_im_JT_fillInStackTrace : (Jvm.Cond.instanceMethod ({ cls := "java/lang/Throwable", name := "fillInStackTrace", desc := "()Ljava/lang/Throwable;" } : Jvm.MethodName)) ∈ uW := uW_of 197 (by decide +kernel) rfl
theorem u_se_JS_fillInStackTrace : (Jvm.Cond.selects "java/lang/IllegalStateException" ({ cls := "java/lang/Throwable", name := "fillInStackTrace", desc := "()Ljava/lang/Throwable;" } : Jvm.MethodName) ({ cls := "java/lang/Throwable", name := "fillInStackTrace", desc := "()Ljava/lang/Throwable;" } : Jvm.MethodName)) ∈ uW := uW_of 199 (by decide +kernel) rfl
theorem u_se_JI_fillInStackTrace : (Jvm.Cond.selects "java/lang/IndexOutOfBoundsException" ({ cls := "java/lang/Throwable", name := "fillInStackTrace", desc := "()Ljava/lang/Throwable;" } : Jvm.MethodName) ({ cls := "java/lang/Throwable", name := "fillInStackTrace", desc := "()Ljava/lang/Throwable;" } : Jvm.MethodName)) ∈ uW := uW_of 200 (by decide +kernel) rfl
theorem u_ml_JT_202 : (Jvm.Cond.methodLink "java/lang/Throwable" (202 : Nat) ({ cls := "java/lang/Throwable", name := "fillInStackTrace", desc := "(I)Ljava/lang/Throwable;" } : Jvm.MethodName)) ∈ uW := uW_of 202 (by decide +kernel) rfl
theorem u_im_JT_fillInStackTrace_204 : (Jvm.Cond.instanceMethod ({ cls := "java/lang/Throwable", name := "fillInStackTrace", desc := "(I)Ljava/lang/Throwable;" } : Jvm.MethodName)) ∈ uW := uW_of 204 (by decide +kernel) rfl
theorem u_ins_JT : (Jvm.Cond.instantiable "java/lang/Throwable" (6 : Nat)) ∈ uW := uW_of 205 (by decide +kernel) rfl
theorem u_na_JT_fillInStackTrace : (Jvm.Cond.native ({ cls := "java/lang/Throwable", name := "fillInStackTrace", desc := "(I)Ljava/lang/Throwable;" } : Jvm.MethodName)) ∈ uW := uW_of 206 (by decide +kernel) rfl
theorem u_ml_X4_38 : (Jvm.Cond.methodLink "KitchenSpits" (38 : Nat) ({ cls := "java/lang/IllegalArgumentException", name := "<init>", desc := "(Ljava/lang/String;)V" } : Jvm.MethodName)) ∈ uW := uW_of 208 (by decide +kernel) rfl
theorem u_im_JA_init : (Jvm.Cond.instanceMethod ({ cls := "java/lang/IllegalArgumentException", name := "<init>", desc := "(Ljava/lang/String;)V" } : Jvm.MethodName)) ∈ uW := uW_of 209 (by decide +kernel) rfl
theorem u_co_JA_init : (Jvm.Cond.code ({ cls := "java/lang/IllegalArgumentException", name := "<init>", desc := "(Ljava/lang/String;)V" } : Jvm.MethodName) prog_11_method_2_code (2 : Nat) (Option.none : Option Jvm.ClassFile.FieldType)) ∈ uW := uW_of 210 (by decide +kernel) rfl
theorem u_ml_JA_7 : (Jvm.Cond.methodLink "java/lang/IllegalArgumentException" (7 : Nat) ({ cls := "java/lang/RuntimeException", name := "<init>", desc := "(Ljava/lang/String;)V" } : Jvm.MethodName)) ∈ uW := uW_of 211 (by decide +kernel) rfl
theorem u_im_JR_init : (Jvm.Cond.instanceMethod ({ cls := "java/lang/RuntimeException", name := "<init>", desc := "(Ljava/lang/String;)V" } : Jvm.MethodName)) ∈ uW := uW_of 212 (by decide +kernel) rfl
theorem u_co_JR_init : (Jvm.Cond.code ({ cls := "java/lang/RuntimeException", name := "<init>", desc := "(Ljava/lang/String;)V" } : Jvm.MethodName) prog_15_method_2_code (2 : Nat) (Option.none : Option Jvm.ClassFile.FieldType)) ∈ uW := uW_of 213 (by decide +kernel) rfl
end
section
theorem u_ml_JR_7 : (Jvm.Cond.methodLink "java/lang/RuntimeException" (7 : Nat) ({ cls := "java/lang/Exception", name := "<init>", desc := "(Ljava/lang/String;)V" } : Jvm.MethodName)) ∈ uW := uW_of 214 (by decide +kernel) rfl
theorem u_im_JE_init : (Jvm.Cond.instanceMethod ({ cls := "java/lang/Exception", name := "<init>", desc := "(Ljava/lang/String;)V" } : Jvm.MethodName)) ∈ uW := uW_of 215 (by decide +kernel) rfl
theorem u_co_JE_init : (Jvm.Cond.code ({ cls := "java/lang/Exception", name := "<init>", desc := "(Ljava/lang/String;)V" } : Jvm.MethodName) prog_10_method_2_code (2 : Nat) (Option.none : Option Jvm.ClassFile.FieldType)) ∈ uW := uW_of 216 (by decide +kernel) rfl
theorem u_ml_JE_7 : (Jvm.Cond.methodLink "java/lang/Exception" (7 : Nat) ({ cls := "java/lang/Throwable", name := "<init>", desc := "(Ljava/lang/String;)V" } : Jvm.MethodName)) ∈ uW := uW_of 217 (by decide +kernel) rfl
theorem u_im_JT_init_218 : (Jvm.Cond.instanceMethod ({ cls := "java/lang/Throwable", name := "<init>", desc := "(Ljava/lang/String;)V" } : Jvm.MethodName)) ∈ uW := uW_of 218 (by decide +kernel) rfl
theorem u_co_JT_init_219 : (Jvm.Cond.code ({ cls := "java/lang/Throwable", name := "<init>", desc := "(Ljava/lang/String;)V" } : Jvm.MethodName) prog_17_method_2_code (2 : Nat) (Option.none : Option Jvm.ClassFile.FieldType)) ∈ uW := uW_of 219 (by decide +kernel) rfl
theorem u_fl_JT_198_220 : (Jvm.Cond.fieldLink "java/lang/Throwable" (198 : Nat) "java/lang/Throwable" "backtrace" "Ljava/lang/Object;") ∈ uW := uW_of 220 (by decide +kernel) rfl
theorem u_fl_JT_31 : (Jvm.Cond.fieldLink "java/lang/Throwable" (31 : Nat) "java/lang/Throwable" "detailMessage" "Ljava/lang/String;") ∈ uW := uW_of 221 (by decide +kernel) rfl
theorem u_fl_JT_7 : (Jvm.Cond.fieldLink "java/lang/Throwable" (7 : Nat) "java/lang/Throwable" "cause" "Ljava/lang/Throwable;") ∈ uW := uW_of 222 (by decide +kernel) rfl
theorem u_fl_JT_17 : (Jvm.Cond.fieldLink "java/lang/Throwable" (17 : Nat) "java/lang/Throwable" "stackTrace" "[Ljava/lang/StackTraceElement;") ∈ uW := uW_of 223 (by decide +kernel) rfl
theorem u_fl_JT_24 : (Jvm.Cond.fieldLink "java/lang/Throwable" (24 : Nat) "java/lang/Throwable" "suppressedExceptions" "Ljava/util/List;") ∈ uW := uW_of 224 (by decide +kernel) rfl
theorem u_ac_byte : (Jvm.Cond.arrayClass Jvm.ClassFile.FieldType.byte) ∈ uW := uW_of 233 (by decide +kernel) rfl
theorem u_ml_X4_118 : (Jvm.Cond.methodLink "KitchenSpits" (118 : Nat) ({ cls := "KitchenSpits$Kitchen", name := "goMinutes", desc := "(I)I" } : Jvm.MethodName)) ∈ uW := uW_of 234 (by decide +kernel) rfl
theorem u_im_X1_goMinutes : (Jvm.Cond.instanceMethod ({ cls := "KitchenSpits$Kitchen", name := "goMinutes", desc := "(I)I" } : Jvm.MethodName)) ∈ uW := uW_of 235 (by decide +kernel) rfl
theorem u_se_X1_goMinutes : (Jvm.Cond.selects "KitchenSpits$Kitchen" ({ cls := "KitchenSpits$Kitchen", name := "goMinutes", desc := "(I)I" } : Jvm.MethodName) ({ cls := "KitchenSpits$Kitchen", name := "goMinutes", desc := "(I)I" } : Jvm.MethodName)) ∈ uW := uW_of 236 (by decide +kernel) rfl
theorem u_co_X1_goMinutes : (Jvm.Cond.code ({ cls := "KitchenSpits$Kitchen", name := "goMinutes", desc := "(I)I" } : Jvm.MethodName) prog_3_method_10_code (4 : Nat) (Option.some Jvm.ClassFile.FieldType.int)) ∈ uW := uW_of 237 (by decide +kernel) rfl
theorem u_ml_X1_90 : (Jvm.Cond.methodLink "KitchenSpits$Kitchen" (90 : Nat) ({ cls := "KitchenSpits$Kitchen", name := "goMinute", desc := "()I" } : Jvm.MethodName)) ∈ uW := uW_of 238 (by decide +kernel) rfl
theorem u_im_X1_goMinute : (Jvm.Cond.instanceMethod ({ cls := "KitchenSpits$Kitchen", name := "goMinute", desc := "()I" } : Jvm.MethodName)) ∈ uW := uW_of 239 (by decide +kernel) rfl
theorem u_se_X1_goMinute : (Jvm.Cond.selects "KitchenSpits$Kitchen" ({ cls := "KitchenSpits$Kitchen", name := "goMinute", desc := "()I" } : Jvm.MethodName) ({ cls := "KitchenSpits$Kitchen", name := "goMinute", desc := "()I" } : Jvm.MethodName)) ∈ uW := uW_of 240 (by decide +kernel) rfl
theorem u_co_X1_goMinute : (Jvm.Cond.code ({ cls := "KitchenSpits$Kitchen", name := "goMinute", desc := "()I" } : Jvm.MethodName) prog_3_method_11_code (6 : Nat) (Option.some Jvm.ClassFile.FieldType.int)) ∈ uW := uW_of 241 (by decide +kernel) rfl
theorem u_ml_X1_94 : (Jvm.Cond.methodLink "KitchenSpits$Kitchen" (94 : Nat) ({ cls := "KitchenSpits$Kitchen", name := "roastForAMinute", desc := "(LKitchenSpits$Spit;)Z" } : Jvm.MethodName)) ∈ uW := uW_of 242 (by decide +kernel) rfl
theorem u_im_X1_roastForAMinute : (Jvm.Cond.instanceMethod ({ cls := "KitchenSpits$Kitchen", name := "roastForAMinute", desc := "(LKitchenSpits$Spit;)Z" } : Jvm.MethodName)) ∈ uW := uW_of 243 (by decide +kernel) rfl
theorem u_se_X1_roastForAMinute : (Jvm.Cond.selects "KitchenSpits$Kitchen" ({ cls := "KitchenSpits$Kitchen", name := "roastForAMinute", desc := "(LKitchenSpits$Spit;)Z" } : Jvm.MethodName) ({ cls := "KitchenSpits$Kitchen", name := "roastForAMinute", desc := "(LKitchenSpits$Spit;)Z" } : Jvm.MethodName)) ∈ uW := uW_of 244 (by decide +kernel) rfl
theorem u_co_X1_roastForAMinute : (Jvm.Cond.code ({ cls := "KitchenSpits$Kitchen", name := "roastForAMinute", desc := "(LKitchenSpits$Spit;)Z" } : Jvm.MethodName) prog_3_method_12_code (6 : Nat) (Option.some Jvm.ClassFile.FieldType.boolean)) ∈ uW := uW_of 245 (by decide +kernel) rfl
theorem u_ml_X1_102 : (Jvm.Cond.methodLink "KitchenSpits$Kitchen" (102 : Nat) ({ cls := "KitchenSpits$Kitchen", name := "roastAt", desc := "(I)LKitchenSpits$Roast;" } : Jvm.MethodName)) ∈ uW := uW_of 246 (by decide +kernel) rfl
theorem u_im_X1_roastAt : (Jvm.Cond.instanceMethod ({ cls := "KitchenSpits$Kitchen", name := "roastAt", desc := "(I)LKitchenSpits$Roast;" } : Jvm.MethodName)) ∈ uW := uW_of 247 (by decide +kernel) rfl
theorem u_se_X1_roastAt : (Jvm.Cond.selects "KitchenSpits$Kitchen" ({ cls := "KitchenSpits$Kitchen", name := "roastAt", desc := "(I)LKitchenSpits$Roast;" } : Jvm.MethodName) ({ cls := "KitchenSpits$Kitchen", name := "roastAt", desc := "(I)LKitchenSpits$Roast;" } : Jvm.MethodName)) ∈ uW := uW_of 248 (by decide +kernel) rfl
theorem u_co_X1_roastAt : (Jvm.Cond.code ({ cls := "KitchenSpits$Kitchen", name := "roastAt", desc := "(I)LKitchenSpits$Roast;" } : Jvm.MethodName) prog_3_method_5_code (2 : Nat) (Option.some (Jvm.ClassFile.FieldType.object "KitchenSpits$Roast"))) ∈ uW := uW_of 249 (by decide +kernel) rfl
theorem u_ml_X1_83 : (Jvm.Cond.methodLink "KitchenSpits$Kitchen" (83 : Nat) ({ cls := "KitchenSpits$Kitchen", name := "fireAt", desc := "(I)LKitchenSpits$Fire;" } : Jvm.MethodName)) ∈ uW := uW_of 250 (by decide +kernel) rfl
theorem u_im_X1_fireAt : (Jvm.Cond.instanceMethod ({ cls := "KitchenSpits$Kitchen", name := "fireAt", desc := "(I)LKitchenSpits$Fire;" } : Jvm.MethodName)) ∈ uW := uW_of 251 (by decide +kernel) rfl
theorem u_se_X1_fireAt : (Jvm.Cond.selects "KitchenSpits$Kitchen" ({ cls := "KitchenSpits$Kitchen", name := "fireAt", desc := "(I)LKitchenSpits$Fire;" } : Jvm.MethodName) ({ cls := "KitchenSpits$Kitchen", name := "fireAt", desc := "(I)LKitchenSpits$Fire;" } : Jvm.MethodName)) ∈ uW := uW_of 252 (by decide +kernel) rfl
theorem u_co_X1_fireAt : (Jvm.Cond.code ({ cls := "KitchenSpits$Kitchen", name := "fireAt", desc := "(I)LKitchenSpits$Fire;" } : Jvm.MethodName) prog_3_method_3_code (2 : Nat) (Option.some (Jvm.ClassFile.FieldType.object "KitchenSpits$Fire"))) ∈ uW := uW_of 253 (by decide +kernel) rfl
theorem u_ml_X1_106 : (Jvm.Cond.methodLink "KitchenSpits$Kitchen" (106 : Nat) ({ cls := "KitchenSpits$Kitchen", name := "glowOf", desc := "(LKitchenSpits$Spit;)I" } : Jvm.MethodName)) ∈ uW := uW_of 254 (by decide +kernel) rfl
theorem u_im_X1_glowOf : (Jvm.Cond.instanceMethod ({ cls := "KitchenSpits$Kitchen", name := "glowOf", desc := "(LKitchenSpits$Spit;)I" } : Jvm.MethodName)) ∈ uW := uW_of 255 (by decide +kernel) rfl
theorem u_se_X1_glowOf : (Jvm.Cond.selects "KitchenSpits$Kitchen" ({ cls := "KitchenSpits$Kitchen", name := "glowOf", desc := "(LKitchenSpits$Spit;)I" } : Jvm.MethodName) ({ cls := "KitchenSpits$Kitchen", name := "glowOf", desc := "(LKitchenSpits$Spit;)I" } : Jvm.MethodName)) ∈ uW := uW_of 256 (by decide +kernel) rfl
theorem u_co_X1_glowOf : (Jvm.Cond.code ({ cls := "KitchenSpits$Kitchen", name := "glowOf", desc := "(LKitchenSpits$Spit;)I" } : Jvm.MethodName) prog_3_method_9_code (3 : Nat) (Option.some Jvm.ClassFile.FieldType.int)) ∈ uW := uW_of 257 (by decide +kernel) rfl
theorem u_ml_X1_110 : (Jvm.Cond.methodLink "KitchenSpits$Kitchen" (110 : Nat) ({ cls := "KitchenSpits$Roast", name := "getGlow", desc := "(I)I" } : Jvm.MethodName)) ∈ uW := uW_of 258 (by decide +kernel) rfl
theorem u_im_X2_getGlow : (Jvm.Cond.instanceMethod ({ cls := "KitchenSpits$Roast", name := "getGlow", desc := "(I)I" } : Jvm.MethodName)) ∈ uW := uW_of 259 (by decide +kernel) rfl
theorem u_se_X2_getGlow : (Jvm.Cond.selects "KitchenSpits$Roast" ({ cls := "KitchenSpits$Roast", name := "getGlow", desc := "(I)I" } : Jvm.MethodName) ({ cls := "KitchenSpits$Roast", name := "getGlow", desc := "(I)I" } : Jvm.MethodName)) ∈ uW := uW_of 260 (by decide +kernel) rfl
theorem u_co_X2_getGlow : (Jvm.Cond.code ({ cls := "KitchenSpits$Roast", name := "getGlow", desc := "(I)I" } : Jvm.MethodName) prog_4_method_3_code (3 : Nat) (Option.some Jvm.ClassFile.FieldType.int)) ∈ uW := uW_of 261 (by decide +kernel) rfl
theorem u_ml_X2_31 : (Jvm.Cond.methodLink "KitchenSpits$Roast" (31 : Nat) ({ cls := "java/lang/Math", name := "max", desc := "(II)I" } : Jvm.MethodName)) ∈ uW := uW_of 262 (by decide +kernel) rfl
theorem u_st_JM_max : (Jvm.Cond.static ({ cls := "java/lang/Math", name := "max", desc := "(II)I" } : Jvm.MethodName)) ∈ uW := uW_of 263 (by decide +kernel) rfl
theorem u_co_JM_max : (Jvm.Cond.code ({ cls := "java/lang/Math", name := "max", desc := "(II)I" } : Jvm.MethodName) prog_14_method_65_code (2 : Nat) (Option.some Jvm.ClassFile.FieldType.int)) ∈ uW := uW_of 264 (by decide +kernel) rfl
theorem u_ml_X2_37 : (Jvm.Cond.methodLink "KitchenSpits$Roast" (37 : Nat) ({ cls := "KitchenSpits$Roast", name := "getBrowner", desc := "(II)V" } : Jvm.MethodName)) ∈ uW := uW_of 265 (by decide +kernel) rfl
theorem u_im_X2_getBrowner : (Jvm.Cond.instanceMethod ({ cls := "KitchenSpits$Roast", name := "getBrowner", desc := "(II)V" } : Jvm.MethodName)) ∈ uW := uW_of 266 (by decide +kernel) rfl
theorem u_se_X2_getBrowner : (Jvm.Cond.selects "KitchenSpits$Roast" ({ cls := "KitchenSpits$Roast", name := "getBrowner", desc := "(II)V" } : Jvm.MethodName) ({ cls := "KitchenSpits$Roast", name := "getBrowner", desc := "(II)V" } : Jvm.MethodName)) ∈ uW := uW_of 267 (by decide +kernel) rfl
theorem u_co_X2_getBrowner : (Jvm.Cond.code ({ cls := "KitchenSpits$Roast", name := "getBrowner", desc := "(II)V" } : Jvm.MethodName) prog_4_method_4_code (4 : Nat) (Option.none : Option Jvm.ClassFile.FieldType)) ∈ uW := uW_of 268 (by decide +kernel) rfl
theorem u_ml_X2_41 : (Jvm.Cond.methodLink "KitchenSpits$Roast" (41 : Nat) ({ cls := "KitchenSpits$Roast", name := "nextSide", desc := "(I)I" } : Jvm.MethodName)) ∈ uW := uW_of 269 (by decide +kernel) rfl
theorem u_st_X2_nextSide : (Jvm.Cond.static ({ cls := "KitchenSpits$Roast", name := "nextSide", desc := "(I)I" } : Jvm.MethodName)) ∈ uW := uW_of 270 (by decide +kernel) rfl
theorem u_co_X2_nextSide : (Jvm.Cond.code ({ cls := "KitchenSpits$Roast", name := "nextSide", desc := "(I)I" } : Jvm.MethodName) prog_4_method_9_code (1 : Nat) (Option.some Jvm.ClassFile.FieldType.int)) ∈ uW := uW_of 271 (by decide +kernel) rfl
theorem u_ml_X2_45 : (Jvm.Cond.methodLink "KitchenSpits$Roast" (45 : Nat) ({ cls := "KitchenSpits$Roast", name := "sideBefore", desc := "(I)I" } : Jvm.MethodName)) ∈ uW := uW_of 272 (by decide +kernel) rfl
theorem u_st_X2_sideBefore : (Jvm.Cond.static ({ cls := "KitchenSpits$Roast", name := "sideBefore", desc := "(I)I" } : Jvm.MethodName)) ∈ uW := uW_of 273 (by decide +kernel) rfl
theorem u_co_X2_sideBefore : (Jvm.Cond.code ({ cls := "KitchenSpits$Roast", name := "sideBefore", desc := "(I)I" } : Jvm.MethodName) prog_4_method_10_code (1 : Nat) (Option.some Jvm.ClassFile.FieldType.int)) ∈ uW := uW_of 274 (by decide +kernel) rfl
theorem u_ml_X1_114 : (Jvm.Cond.methodLink "KitchenSpits$Kitchen" (114 : Nat) ({ cls := "KitchenSpits$Roast", name := "drips", desc := "(I)Z" } : Jvm.MethodName)) ∈ uW := uW_of 275 (by decide +kernel) rfl
theorem u_im_X2_drips : (Jvm.Cond.instanceMethod ({ cls := "KitchenSpits$Roast", name := "drips", desc := "(I)Z" } : Jvm.MethodName)) ∈ uW := uW_of 276 (by decide +kernel) rfl
theorem u_se_X2_drips : (Jvm.Cond.selects "KitchenSpits$Roast" ({ cls := "KitchenSpits$Roast", name := "drips", desc := "(I)Z" } : Jvm.MethodName) ({ cls := "KitchenSpits$Roast", name := "drips", desc := "(I)Z" } : Jvm.MethodName)) ∈ uW := uW_of 277 (by decide +kernel) rfl
theorem u_co_X2_drips : (Jvm.Cond.code ({ cls := "KitchenSpits$Roast", name := "drips", desc := "(I)Z" } : Jvm.MethodName) prog_4_method_5_code (2 : Nat) (Option.some Jvm.ClassFile.FieldType.boolean)) ∈ uW := uW_of 278 (by decide +kernel) rfl
theorem u_ml_X1_118 : (Jvm.Cond.methodLink "KitchenSpits$Kitchen" (118 : Nat) ({ cls := "KitchenSpits$Spit", name := "takesDripping", desc := "()Z" } : Jvm.MethodName)) ∈ uW := uW_of 279 (by decide +kernel) rfl
theorem u_im_X3_takesDripping : (Jvm.Cond.instanceMethod ({ cls := "KitchenSpits$Spit", name := "takesDripping", desc := "()Z" } : Jvm.MethodName)) ∈ uW := uW_of 280 (by decide +kernel) rfl
theorem u_se_X3_takesDripping : (Jvm.Cond.selects "KitchenSpits$Spit" ({ cls := "KitchenSpits$Spit", name := "takesDripping", desc := "()Z" } : Jvm.MethodName) ({ cls := "KitchenSpits$Spit", name := "takesDripping", desc := "()Z" } : Jvm.MethodName)) ∈ uW := uW_of 281 (by decide +kernel) rfl
theorem u_co_X3_takesDripping : (Jvm.Cond.code ({ cls := "KitchenSpits$Spit", name := "takesDripping", desc := "()Z" } : Jvm.MethodName) prog_5_method_5_code (1 : Nat) (Option.some Jvm.ClassFile.FieldType.boolean)) ∈ uW := uW_of 282 (by decide +kernel) rfl
theorem u_ml_X1_125 : (Jvm.Cond.methodLink "KitchenSpits$Kitchen" (125 : Nat) ({ cls := "KitchenSpits$Spit", name := "countsToTurn", desc := "()Z" } : Jvm.MethodName)) ∈ uW := uW_of 283 (by decide +kernel) rfl
theorem u_im_X3_countsToTurn : (Jvm.Cond.instanceMethod ({ cls := "KitchenSpits$Spit", name := "countsToTurn", desc := "()Z" } : Jvm.MethodName)) ∈ uW := uW_of 284 (by decide +kernel) rfl
theorem u_se_X3_countsToTurn : (Jvm.Cond.selects "KitchenSpits$Spit" ({ cls := "KitchenSpits$Spit", name := "countsToTurn", desc := "()Z" } : Jvm.MethodName) ({ cls := "KitchenSpits$Spit", name := "countsToTurn", desc := "()Z" } : Jvm.MethodName)) ∈ uW := uW_of 285 (by decide +kernel) rfl
theorem u_co_X3_countsToTurn : (Jvm.Cond.code ({ cls := "KitchenSpits$Spit", name := "countsToTurn", desc := "()Z" } : Jvm.MethodName) prog_5_method_4_code (1 : Nat) (Option.some Jvm.ClassFile.FieldType.boolean)) ∈ uW := uW_of 286 (by decide +kernel) rfl
theorem u_ml_X1_128 : (Jvm.Cond.methodLink "KitchenSpits$Kitchen" (128 : Nat) ({ cls := "KitchenSpits$Roast", name := "turn", desc := "()V" } : Jvm.MethodName)) ∈ uW := uW_of 287 (by decide +kernel) rfl
theorem u_im_X2_turn : (Jvm.Cond.instanceMethod ({ cls := "KitchenSpits$Roast", name := "turn", desc := "()V" } : Jvm.MethodName)) ∈ uW := uW_of 288 (by decide +kernel) rfl
theorem u_se_X2_turn : (Jvm.Cond.selects "KitchenSpits$Roast" ({ cls := "KitchenSpits$Roast", name := "turn", desc := "()V" } : Jvm.MethodName) ({ cls := "KitchenSpits$Roast", name := "turn", desc := "()V" } : Jvm.MethodName)) ∈ uW := uW_of 289 (by decide +kernel) rfl
theorem u_co_X2_turn : (Jvm.Cond.code ({ cls := "KitchenSpits$Roast", name := "turn", desc := "()V" } : Jvm.MethodName) prog_4_method_6_code (1 : Nat) (Option.none : Option Jvm.ClassFile.FieldType)) ∈ uW := uW_of 290 (by decide +kernel) rfl
theorem u_ml_X1_98 : (Jvm.Cond.methodLink "KitchenSpits$Kitchen" (98 : Nat) ({ cls := "KitchenSpits$Fire", name := "burn", desc := "(I)V" } : Jvm.MethodName)) ∈ uW := uW_of 291 (by decide +kernel) rfl
theorem u_im_X0_burn : (Jvm.Cond.instanceMethod ({ cls := "KitchenSpits$Fire", name := "burn", desc := "(I)V" } : Jvm.MethodName)) ∈ uW := uW_of 292 (by decide +kernel) rfl
theorem u_se_X0_burn : (Jvm.Cond.selects "KitchenSpits$Fire" ({ cls := "KitchenSpits$Fire", name := "burn", desc := "(I)V" } : Jvm.MethodName) ({ cls := "KitchenSpits$Fire", name := "burn", desc := "(I)V" } : Jvm.MethodName)) ∈ uW := uW_of 293 (by decide +kernel) rfl
theorem u_co_X0_burn : (Jvm.Cond.code ({ cls := "KitchenSpits$Fire", name := "burn", desc := "(I)V" } : Jvm.MethodName) prog_2_method_3_code (3 : Nat) (Option.none : Option Jvm.ClassFile.FieldType)) ∈ uW := uW_of 294 (by decide +kernel) rfl
theorem u_ml_X0_21 : (Jvm.Cond.methodLink "KitchenSpits$Fire" (21 : Nat) ({ cls := "java/lang/Math", name := "min", desc := "(II)I" } : Jvm.MethodName)) ∈ uW := uW_of 295 (by decide +kernel) rfl
theorem u_st_JM_min : (Jvm.Cond.static ({ cls := "java/lang/Math", name := "min", desc := "(II)I" } : Jvm.MethodName)) ∈ uW := uW_of 296 (by decide +kernel) rfl
theorem u_co_JM_min : (Jvm.Cond.code ({ cls := "java/lang/Math", name := "min", desc := "(II)I" } : Jvm.MethodName) prog_14_method_69_code (2 : Nat) (Option.some Jvm.ClassFile.FieldType.int)) ∈ uW := uW_of 297 (by decide +kernel) rfl
theorem u_ml_X0_27 : (Jvm.Cond.methodLink "KitchenSpits$Fire" (27 : Nat) ({ cls := "java/lang/Math", name := "max", desc := "(II)I" } : Jvm.MethodName)) ∈ uW := uW_of 298 (by decide +kernel) rfl
theorem u_ml_L_162 : (Jvm.Cond.methodLink "KitchenSpitsLaw" (162 : Nat) ({ cls := "KitchenSpits", name := "minute", desc := "()I" } : Jvm.MethodName)) ∈ uW := uW_of 299 (by decide +kernel) rfl
theorem u_im_X4_minute : (Jvm.Cond.instanceMethod ({ cls := "KitchenSpits", name := "minute", desc := "()I" } : Jvm.MethodName)) ∈ uW := uW_of 300 (by decide +kernel) rfl
theorem u_se_X4_minute : (Jvm.Cond.selects "KitchenSpits" ({ cls := "KitchenSpits", name := "minute", desc := "()I" } : Jvm.MethodName) ({ cls := "KitchenSpits", name := "minute", desc := "()I" } : Jvm.MethodName)) ∈ uW := uW_of 301 (by decide +kernel) rfl
theorem u_co_X4_minute : (Jvm.Cond.code ({ cls := "KitchenSpits", name := "minute", desc := "()I" } : Jvm.MethodName) prog_1_method_14_code (1 : Nat) (Option.some Jvm.ClassFile.FieldType.int)) ∈ uW := uW_of 302 (by decide +kernel) rfl
theorem u_ml_L_114 : (Jvm.Cond.methodLink "KitchenSpitsLaw" (114 : Nat) ({ cls := "KitchenSpits", name := "fires", desc := "()I" } : Jvm.MethodName)) ∈ uW := uW_of 303 (by decide +kernel) rfl
theorem u_im_X4_fires : (Jvm.Cond.instanceMethod ({ cls := "KitchenSpits", name := "fires", desc := "()I" } : Jvm.MethodName)) ∈ uW := uW_of 304 (by decide +kernel) rfl
theorem u_se_X4_fires : (Jvm.Cond.selects "KitchenSpits" ({ cls := "KitchenSpits", name := "fires", desc := "()I" } : Jvm.MethodName) ({ cls := "KitchenSpits", name := "fires", desc := "()I" } : Jvm.MethodName)) ∈ uW := uW_of 305 (by decide +kernel) rfl
theorem u_co_X4_fires : (Jvm.Cond.code ({ cls := "KitchenSpits", name := "fires", desc := "()I" } : Jvm.MethodName) prog_1_method_16_code (1 : Nat) (Option.some Jvm.ClassFile.FieldType.int)) ∈ uW := uW_of 306 (by decide +kernel) rfl
theorem u_ml_L_119 : (Jvm.Cond.methodLink "KitchenSpitsLaw" (119 : Nat) ({ cls := "KitchenSpits", name := "logsOf", desc := "(I)I" } : Jvm.MethodName)) ∈ uW := uW_of 307 (by decide +kernel) rfl
theorem u_im_X4_logsOf : (Jvm.Cond.instanceMethod ({ cls := "KitchenSpits", name := "logsOf", desc := "(I)I" } : Jvm.MethodName)) ∈ uW := uW_of 308 (by decide +kernel) rfl
theorem u_se_X4_logsOf : (Jvm.Cond.selects "KitchenSpits" ({ cls := "KitchenSpits", name := "logsOf", desc := "(I)I" } : Jvm.MethodName) ({ cls := "KitchenSpits", name := "logsOf", desc := "(I)I" } : Jvm.MethodName)) ∈ uW := uW_of 309 (by decide +kernel) rfl
theorem u_co_X4_logsOf : (Jvm.Cond.code ({ cls := "KitchenSpits", name := "logsOf", desc := "(I)I" } : Jvm.MethodName) prog_1_method_17_code (2 : Nat) (Option.some Jvm.ClassFile.FieldType.int)) ∈ uW := uW_of 310 (by decide +kernel) rfl
theorem u_ml_X4_30 : (Jvm.Cond.methodLink "KitchenSpits" (30 : Nat) ({ cls := "KitchenSpits", name := "needFire", desc := "(I)LKitchenSpits$Fire;" } : Jvm.MethodName)) ∈ uW := uW_of 311 (by decide +kernel) rfl
theorem u_im_X4_needFire : (Jvm.Cond.instanceMethod ({ cls := "KitchenSpits", name := "needFire", desc := "(I)LKitchenSpits$Fire;" } : Jvm.MethodName)) ∈ uW := uW_of 313 (by decide +kernel) rfl
theorem u_co_X4_needFire : (Jvm.Cond.code ({ cls := "KitchenSpits", name := "needFire", desc := "(I)LKitchenSpits$Fire;" } : Jvm.MethodName) prog_1_method_42_code (3 : Nat) (Option.some (Jvm.ClassFile.FieldType.object "KitchenSpits$Fire"))) ∈ uW := uW_of 314 (by decide +kernel) rfl
theorem u_ml_X4_210 : (Jvm.Cond.methodLink "KitchenSpits" (210 : Nat) ({ cls := "KitchenSpits$Kitchen", name := "fireAt", desc := "(I)LKitchenSpits$Fire;" } : Jvm.MethodName)) ∈ uW := uW_of 315 (by decide +kernel) rfl
theorem u_cl_X4_155 : (Jvm.Cond.classLink "KitchenSpits" (155 : Nat) "java/lang/IndexOutOfBoundsException") ∈ uW := uW_of 316 (by decide +kernel) rfl
theorem u_ins_JI : (Jvm.Cond.instantiable "java/lang/IndexOutOfBoundsException" (6 : Nat)) ∈ uW := uW_of 317 (by decide +kernel) rfl
theorem u_se_JI_fillInStackTrace_319 : (Jvm.Cond.selects "java/lang/IndexOutOfBoundsException" ({ cls := "java/lang/Throwable", name := "fillInStackTrace", desc := "(I)Ljava/lang/Throwable;" } : Jvm.MethodName) ({ cls := "java/lang/Throwable", name := "fillInStackTrace", desc := "(I)Ljava/lang/Throwable;" } : Jvm.MethodName)) ∈ uW := uW_of 319 (by decide +kernel) rfl
theorem u_ml_X4_159 : (Jvm.Cond.methodLink "KitchenSpits" (159 : Nat) ({ cls := "java/lang/IndexOutOfBoundsException", name := "<init>", desc := "(Ljava/lang/String;)V" } : Jvm.MethodName)) ∈ uW := uW_of 326 (by decide +kernel) rfl
theorem u_im_JI_init : (Jvm.Cond.instanceMethod ({ cls := "java/lang/IndexOutOfBoundsException", name := "<init>", desc := "(Ljava/lang/String;)V" } : Jvm.MethodName)) ∈ uW := uW_of 327 (by decide +kernel) rfl
theorem u_co_JI_init : (Jvm.Cond.code ({ cls := "java/lang/IndexOutOfBoundsException", name := "<init>", desc := "(Ljava/lang/String;)V" } : Jvm.MethodName) prog_13_method_2_code (2 : Nat) (Option.none : Option Jvm.ClassFile.FieldType)) ∈ uW := uW_of 328 (by decide +kernel) rfl
theorem u_ml_JI_7 : (Jvm.Cond.methodLink "java/lang/IndexOutOfBoundsException" (7 : Nat) ({ cls := "java/lang/RuntimeException", name := "<init>", desc := "(Ljava/lang/String;)V" } : Jvm.MethodName)) ∈ uW := uW_of 329 (by decide +kernel) rfl
theorem u_ml_L_116 : (Jvm.Cond.methodLink "KitchenSpitsLaw" (116 : Nat) ({ cls := "KitchenSpits", name := "heatOf", desc := "(I)I" } : Jvm.MethodName)) ∈ uW := uW_of 332 (by decide +kernel) rfl
theorem u_im_X4_heatOf : (Jvm.Cond.instanceMethod ({ cls := "KitchenSpits", name := "heatOf", desc := "(I)I" } : Jvm.MethodName)) ∈ uW := uW_of 333 (by decide +kernel) rfl
theorem u_se_X4_heatOf : (Jvm.Cond.selects "KitchenSpits" ({ cls := "KitchenSpits", name := "heatOf", desc := "(I)I" } : Jvm.MethodName) ({ cls := "KitchenSpits", name := "heatOf", desc := "(I)I" } : Jvm.MethodName)) ∈ uW := uW_of 334 (by decide +kernel) rfl
theorem u_co_X4_heatOf : (Jvm.Cond.code ({ cls := "KitchenSpits", name := "heatOf", desc := "(I)I" } : Jvm.MethodName) prog_1_method_18_code (2 : Nat) (Option.some Jvm.ClassFile.FieldType.int)) ∈ uW := uW_of 335 (by decide +kernel) rfl
theorem u_ml_L_109 : (Jvm.Cond.methodLink "KitchenSpitsLaw" (109 : Nat) ({ cls := "KitchenSpits", name := "spits", desc := "()I" } : Jvm.MethodName)) ∈ uW := uW_of 336 (by decide +kernel) rfl
theorem u_im_X4_spits : (Jvm.Cond.instanceMethod ({ cls := "KitchenSpits", name := "spits", desc := "()I" } : Jvm.MethodName)) ∈ uW := uW_of 337 (by decide +kernel) rfl
theorem u_se_X4_spits : (Jvm.Cond.selects "KitchenSpits" ({ cls := "KitchenSpits", name := "spits", desc := "()I" } : Jvm.MethodName) ({ cls := "KitchenSpits", name := "spits", desc := "()I" } : Jvm.MethodName)) ∈ uW := uW_of 338 (by decide +kernel) rfl
theorem u_co_X4_spits : (Jvm.Cond.code ({ cls := "KitchenSpits", name := "spits", desc := "()I" } : Jvm.MethodName) prog_1_method_19_code (1 : Nat) (Option.some Jvm.ClassFile.FieldType.int)) ∈ uW := uW_of 339 (by decide +kernel) rfl
theorem u_ml_L_131 : (Jvm.Cond.methodLink "KitchenSpitsLaw" (131 : Nat) ({ cls := "KitchenSpits", name := "fireOf", desc := "(I)I" } : Jvm.MethodName)) ∈ uW := uW_of 340 (by decide +kernel) rfl
theorem u_im_X4_fireOf : (Jvm.Cond.instanceMethod ({ cls := "KitchenSpits", name := "fireOf", desc := "(I)I" } : Jvm.MethodName)) ∈ uW := uW_of 341 (by decide +kernel) rfl
theorem u_se_X4_fireOf : (Jvm.Cond.selects "KitchenSpits" ({ cls := "KitchenSpits", name := "fireOf", desc := "(I)I" } : Jvm.MethodName) ({ cls := "KitchenSpits", name := "fireOf", desc := "(I)I" } : Jvm.MethodName)) ∈ uW := uW_of 342 (by decide +kernel) rfl
theorem u_co_X4_fireOf : (Jvm.Cond.code ({ cls := "KitchenSpits", name := "fireOf", desc := "(I)I" } : Jvm.MethodName) prog_1_method_20_code (2 : Nat) (Option.some Jvm.ClassFile.FieldType.int)) ∈ uW := uW_of 343 (by decide +kernel) rfl
theorem u_ml_X4_60 : (Jvm.Cond.methodLink "KitchenSpits" (60 : Nat) ({ cls := "KitchenSpits", name := "needSpit", desc := "(I)LKitchenSpits$Spit;" } : Jvm.MethodName)) ∈ uW := uW_of 344 (by decide +kernel) rfl
theorem u_im_X4_needSpit : (Jvm.Cond.instanceMethod ({ cls := "KitchenSpits", name := "needSpit", desc := "(I)LKitchenSpits$Spit;" } : Jvm.MethodName)) ∈ uW := uW_of 346 (by decide +kernel) rfl
theorem u_co_X4_needSpit : (Jvm.Cond.code ({ cls := "KitchenSpits", name := "needSpit", desc := "(I)LKitchenSpits$Spit;" } : Jvm.MethodName) prog_1_method_43_code (3 : Nat) (Option.some (Jvm.ClassFile.FieldType.object "KitchenSpits$Spit"))) ∈ uW := uW_of 347 (by decide +kernel) rfl
theorem u_ml_X4_215 : (Jvm.Cond.methodLink "KitchenSpits" (215 : Nat) ({ cls := "KitchenSpits$Kitchen", name := "spitAt", desc := "(I)LKitchenSpits$Spit;" } : Jvm.MethodName)) ∈ uW := uW_of 348 (by decide +kernel) rfl
theorem u_im_X1_spitAt : (Jvm.Cond.instanceMethod ({ cls := "KitchenSpits$Kitchen", name := "spitAt", desc := "(I)LKitchenSpits$Spit;" } : Jvm.MethodName)) ∈ uW := uW_of 349 (by decide +kernel) rfl
theorem u_se_X1_spitAt : (Jvm.Cond.selects "KitchenSpits$Kitchen" ({ cls := "KitchenSpits$Kitchen", name := "spitAt", desc := "(I)LKitchenSpits$Spit;" } : Jvm.MethodName) ({ cls := "KitchenSpits$Kitchen", name := "spitAt", desc := "(I)LKitchenSpits$Spit;" } : Jvm.MethodName)) ∈ uW := uW_of 350 (by decide +kernel) rfl
theorem u_co_X1_spitAt : (Jvm.Cond.code ({ cls := "KitchenSpits$Kitchen", name := "spitAt", desc := "(I)LKitchenSpits$Spit;" } : Jvm.MethodName) prog_3_method_4_code (2 : Nat) (Option.some (Jvm.ClassFile.FieldType.object "KitchenSpits$Spit"))) ∈ uW := uW_of 351 (by decide +kernel) rfl
theorem u_ml_L_134 : (Jvm.Cond.methodLink "KitchenSpitsLaw" (134 : Nat) ({ cls := "KitchenSpits", name := "feetOf", desc := "(I)I" } : Jvm.MethodName)) ∈ uW := uW_of 353 (by decide +kernel) rfl
theorem u_im_X4_feetOf : (Jvm.Cond.instanceMethod ({ cls := "KitchenSpits", name := "feetOf", desc := "(I)I" } : Jvm.MethodName)) ∈ uW := uW_of 354 (by decide +kernel) rfl
theorem u_se_X4_feetOf : (Jvm.Cond.selects "KitchenSpits" ({ cls := "KitchenSpits", name := "feetOf", desc := "(I)I" } : Jvm.MethodName) ({ cls := "KitchenSpits", name := "feetOf", desc := "(I)I" } : Jvm.MethodName)) ∈ uW := uW_of 355 (by decide +kernel) rfl
theorem u_co_X4_feetOf : (Jvm.Cond.code ({ cls := "KitchenSpits", name := "feetOf", desc := "(I)I" } : Jvm.MethodName) prog_1_method_21_code (2 : Nat) (Option.some Jvm.ClassFile.FieldType.int)) ∈ uW := uW_of 356 (by decide +kernel) rfl
theorem u_ml_L_122 : (Jvm.Cond.methodLink "KitchenSpitsLaw" (122 : Nat) ({ cls := "KitchenSpits", name := "glowAt", desc := "(I)I" } : Jvm.MethodName)) ∈ uW := uW_of 357 (by decide +kernel) rfl
theorem u_im_X4_glowAt : (Jvm.Cond.instanceMethod ({ cls := "KitchenSpits", name := "glowAt", desc := "(I)I" } : Jvm.MethodName)) ∈ uW := uW_of 358 (by decide +kernel) rfl
theorem u_se_X4_glowAt : (Jvm.Cond.selects "KitchenSpits" ({ cls := "KitchenSpits", name := "glowAt", desc := "(I)I" } : Jvm.MethodName) ({ cls := "KitchenSpits", name := "glowAt", desc := "(I)I" } : Jvm.MethodName)) ∈ uW := uW_of 359 (by decide +kernel) rfl
theorem u_co_X4_glowAt : (Jvm.Cond.code ({ cls := "KitchenSpits", name := "glowAt", desc := "(I)I" } : Jvm.MethodName) prog_1_method_22_code (2 : Nat) (Option.some Jvm.ClassFile.FieldType.int)) ∈ uW := uW_of 360 (by decide +kernel) rfl
theorem u_ml_X4_137 : (Jvm.Cond.methodLink "KitchenSpits" (137 : Nat) ({ cls := "KitchenSpits$Kitchen", name := "glowOf", desc := "(LKitchenSpits$Spit;)I" } : Jvm.MethodName)) ∈ uW := uW_of 361 (by decide +kernel) rfl
theorem u_ml_L_125 : (Jvm.Cond.methodLink "KitchenSpitsLaw" (125 : Nat) ({ cls := "KitchenSpits", name := "drippingsOf", desc := "(I)I" } : Jvm.MethodName)) ∈ uW := uW_of 362 (by decide +kernel) rfl
end
section
theorem u_im_X4_drippingsOf : (Jvm.Cond.instanceMethod ({ cls := "KitchenSpits", name := "drippingsOf", desc := "(I)I" } : Jvm.MethodName)) ∈ uW := uW_of 363 (by decide +kernel) rfl
theorem u_se_X4_drippingsOf : (Jvm.Cond.selects "KitchenSpits" ({ cls := "KitchenSpits", name := "drippingsOf", desc := "(I)I" } : Jvm.MethodName) ({ cls := "KitchenSpits", name := "drippingsOf", desc := "(I)I" } : Jvm.MethodName)) ∈ uW := uW_of 364 (by decide +kernel) rfl
theorem u_co_X4_drippingsOf : (Jvm.Cond.code ({ cls := "KitchenSpits", name := "drippingsOf", desc := "(I)I" } : Jvm.MethodName) prog_1_method_24_code (2 : Nat) (Option.some Jvm.ClassFile.FieldType.int)) ∈ uW := uW_of 365 (by decide +kernel) rfl
theorem u_ml_L_128 : (Jvm.Cond.methodLink "KitchenSpitsLaw" (128 : Nat) ({ cls := "KitchenSpits", name := "roastOn", desc := "(I)I" } : Jvm.MethodName)) ∈ uW := uW_of 366 (by decide +kernel) rfl
theorem u_im_X4_roastOn : (Jvm.Cond.instanceMethod ({ cls := "KitchenSpits", name := "roastOn", desc := "(I)I" } : Jvm.MethodName)) ∈ uW := uW_of 367 (by decide +kernel) rfl
theorem u_se_X4_roastOn : (Jvm.Cond.selects "KitchenSpits" ({ cls := "KitchenSpits", name := "roastOn", desc := "(I)I" } : Jvm.MethodName) ({ cls := "KitchenSpits", name := "roastOn", desc := "(I)I" } : Jvm.MethodName)) ∈ uW := uW_of 368 (by decide +kernel) rfl
theorem u_co_X4_roastOn : (Jvm.Cond.code ({ cls := "KitchenSpits", name := "roastOn", desc := "(I)I" } : Jvm.MethodName) prog_1_method_25_code (2 : Nat) (Option.some Jvm.ClassFile.FieldType.int)) ∈ uW := uW_of 369 (by decide +kernel) rfl
theorem u_ml_L_111 : (Jvm.Cond.methodLink "KitchenSpitsLaw" (111 : Nat) ({ cls := "KitchenSpits", name := "roasts", desc := "()I" } : Jvm.MethodName)) ∈ uW := uW_of 370 (by decide +kernel) rfl
theorem u_im_X4_roasts : (Jvm.Cond.instanceMethod ({ cls := "KitchenSpits", name := "roasts", desc := "()I" } : Jvm.MethodName)) ∈ uW := uW_of 371 (by decide +kernel) rfl
theorem u_se_X4_roasts : (Jvm.Cond.selects "KitchenSpits" ({ cls := "KitchenSpits", name := "roasts", desc := "()I" } : Jvm.MethodName) ({ cls := "KitchenSpits", name := "roasts", desc := "()I" } : Jvm.MethodName)) ∈ uW := uW_of 372 (by decide +kernel) rfl
theorem u_co_X4_roasts : (Jvm.Cond.code ({ cls := "KitchenSpits", name := "roasts", desc := "()I" } : Jvm.MethodName) prog_1_method_26_code (1 : Nat) (Option.some Jvm.ClassFile.FieldType.int)) ∈ uW := uW_of 373 (by decide +kernel) rfl
theorem u_ml_L_156 : (Jvm.Cond.methodLink "KitchenSpitsLaw" (156 : Nat) ({ cls := "KitchenSpits", name := "poundsOf", desc := "(I)I" } : Jvm.MethodName)) ∈ uW := uW_of 374 (by decide +kernel) rfl
theorem u_im_X4_poundsOf : (Jvm.Cond.instanceMethod ({ cls := "KitchenSpits", name := "poundsOf", desc := "(I)I" } : Jvm.MethodName)) ∈ uW := uW_of 375 (by decide +kernel) rfl
theorem u_se_X4_poundsOf : (Jvm.Cond.selects "KitchenSpits" ({ cls := "KitchenSpits", name := "poundsOf", desc := "(I)I" } : Jvm.MethodName) ({ cls := "KitchenSpits", name := "poundsOf", desc := "(I)I" } : Jvm.MethodName)) ∈ uW := uW_of 376 (by decide +kernel) rfl
theorem u_co_X4_poundsOf : (Jvm.Cond.code ({ cls := "KitchenSpits", name := "poundsOf", desc := "(I)I" } : Jvm.MethodName) prog_1_method_27_code (2 : Nat) (Option.some Jvm.ClassFile.FieldType.int)) ∈ uW := uW_of 377 (by decide +kernel) rfl
theorem u_ml_X4_144 : (Jvm.Cond.methodLink "KitchenSpits" (144 : Nat) ({ cls := "KitchenSpits", name := "needRoast", desc := "(I)LKitchenSpits$Roast;" } : Jvm.MethodName)) ∈ uW := uW_of 378 (by decide +kernel) rfl
theorem u_im_X4_needRoast : (Jvm.Cond.instanceMethod ({ cls := "KitchenSpits", name := "needRoast", desc := "(I)LKitchenSpits$Roast;" } : Jvm.MethodName)) ∈ uW := uW_of 380 (by decide +kernel) rfl
theorem u_co_X4_needRoast : (Jvm.Cond.code ({ cls := "KitchenSpits", name := "needRoast", desc := "(I)LKitchenSpits$Roast;" } : Jvm.MethodName) prog_1_method_44_code (3 : Nat) (Option.some (Jvm.ClassFile.FieldType.object "KitchenSpits$Roast"))) ∈ uW := uW_of 381 (by decide +kernel) rfl
theorem u_ml_X4_220 : (Jvm.Cond.methodLink "KitchenSpits" (220 : Nat) ({ cls := "KitchenSpits$Kitchen", name := "roastAt", desc := "(I)LKitchenSpits$Roast;" } : Jvm.MethodName)) ∈ uW := uW_of 382 (by decide +kernel) rfl
theorem u_ml_L_137 : (Jvm.Cond.methodLink "KitchenSpitsLaw" (137 : Nat) ({ cls := "KitchenSpits", name := "spitOf", desc := "(I)I" } : Jvm.MethodName)) ∈ uW := uW_of 384 (by decide +kernel) rfl
theorem u_im_X4_spitOf : (Jvm.Cond.instanceMethod ({ cls := "KitchenSpits", name := "spitOf", desc := "(I)I" } : Jvm.MethodName)) ∈ uW := uW_of 385 (by decide +kernel) rfl
theorem u_se_X4_spitOf : (Jvm.Cond.selects "KitchenSpits" ({ cls := "KitchenSpits", name := "spitOf", desc := "(I)I" } : Jvm.MethodName) ({ cls := "KitchenSpits", name := "spitOf", desc := "(I)I" } : Jvm.MethodName)) ∈ uW := uW_of 386 (by decide +kernel) rfl
theorem u_co_X4_spitOf : (Jvm.Cond.code ({ cls := "KitchenSpits", name := "spitOf", desc := "(I)I" } : Jvm.MethodName) prog_1_method_28_code (2 : Nat) (Option.some Jvm.ClassFile.FieldType.int)) ∈ uW := uW_of 387 (by decide +kernel) rfl
theorem u_ml_L_146 : (Jvm.Cond.methodLink "KitchenSpitsLaw" (146 : Nat) ({ cls := "KitchenSpits", name := "sideToFire", desc := "(I)I" } : Jvm.MethodName)) ∈ uW := uW_of 388 (by decide +kernel) rfl
theorem u_im_X4_sideToFire : (Jvm.Cond.instanceMethod ({ cls := "KitchenSpits", name := "sideToFire", desc := "(I)I" } : Jvm.MethodName)) ∈ uW := uW_of 389 (by decide +kernel) rfl
theorem u_se_X4_sideToFire : (Jvm.Cond.selects "KitchenSpits" ({ cls := "KitchenSpits", name := "sideToFire", desc := "(I)I" } : Jvm.MethodName) ({ cls := "KitchenSpits", name := "sideToFire", desc := "(I)I" } : Jvm.MethodName)) ∈ uW := uW_of 390 (by decide +kernel) rfl
theorem u_co_X4_sideToFire : (Jvm.Cond.code ({ cls := "KitchenSpits", name := "sideToFire", desc := "(I)I" } : Jvm.MethodName) prog_1_method_29_code (2 : Nat) (Option.some Jvm.ClassFile.FieldType.int)) ∈ uW := uW_of 391 (by decide +kernel) rfl
theorem u_ml_L_140 : (Jvm.Cond.methodLink "KitchenSpitsLaw" (140 : Nat) ({ cls := "KitchenSpits", name := "brownOf", desc := "(II)I" } : Jvm.MethodName)) ∈ uW := uW_of 392 (by decide +kernel) rfl
theorem u_im_X4_brownOf : (Jvm.Cond.instanceMethod ({ cls := "KitchenSpits", name := "brownOf", desc := "(II)I" } : Jvm.MethodName)) ∈ uW := uW_of 393 (by decide +kernel) rfl
theorem u_se_X4_brownOf : (Jvm.Cond.selects "KitchenSpits" ({ cls := "KitchenSpits", name := "brownOf", desc := "(II)I" } : Jvm.MethodName) ({ cls := "KitchenSpits", name := "brownOf", desc := "(II)I" } : Jvm.MethodName)) ∈ uW := uW_of 394 (by decide +kernel) rfl
theorem u_co_X4_brownOf : (Jvm.Cond.code ({ cls := "KitchenSpits", name := "brownOf", desc := "(II)I" } : Jvm.MethodName) prog_1_method_30_code (4 : Nat) (Option.some Jvm.ClassFile.FieldType.int)) ∈ uW := uW_of 395 (by decide +kernel) rfl
theorem u_ml_L_143 : (Jvm.Cond.methodLink "KitchenSpitsLaw" (143 : Nat) ({ cls := "KitchenSpits", name := "fatOf", desc := "(I)I" } : Jvm.MethodName)) ∈ uW := uW_of 397 (by decide +kernel) rfl
theorem u_im_X4_fatOf : (Jvm.Cond.instanceMethod ({ cls := "KitchenSpits", name := "fatOf", desc := "(I)I" } : Jvm.MethodName)) ∈ uW := uW_of 398 (by decide +kernel) rfl
theorem u_se_X4_fatOf : (Jvm.Cond.selects "KitchenSpits" ({ cls := "KitchenSpits", name := "fatOf", desc := "(I)I" } : Jvm.MethodName) ({ cls := "KitchenSpits", name := "fatOf", desc := "(I)I" } : Jvm.MethodName)) ∈ uW := uW_of 399 (by decide +kernel) rfl
theorem u_co_X4_fatOf : (Jvm.Cond.code ({ cls := "KitchenSpits", name := "fatOf", desc := "(I)I" } : Jvm.MethodName) prog_1_method_31_code (2 : Nat) (Option.some Jvm.ClassFile.FieldType.int)) ∈ uW := uW_of 400 (by decide +kernel) rfl
theorem u_ml_L_149 : (Jvm.Cond.methodLink "KitchenSpitsLaw" (149 : Nat) ({ cls := "KitchenSpits", name := "wetFor", desc := "(I)I" } : Jvm.MethodName)) ∈ uW := uW_of 401 (by decide +kernel) rfl
theorem u_im_X4_wetFor : (Jvm.Cond.instanceMethod ({ cls := "KitchenSpits", name := "wetFor", desc := "(I)I" } : Jvm.MethodName)) ∈ uW := uW_of 402 (by decide +kernel) rfl
theorem u_se_X4_wetFor : (Jvm.Cond.selects "KitchenSpits" ({ cls := "KitchenSpits", name := "wetFor", desc := "(I)I" } : Jvm.MethodName) ({ cls := "KitchenSpits", name := "wetFor", desc := "(I)I" } : Jvm.MethodName)) ∈ uW := uW_of 403 (by decide +kernel) rfl
theorem u_co_X4_wetFor : (Jvm.Cond.code ({ cls := "KitchenSpits", name := "wetFor", desc := "(I)I" } : Jvm.MethodName) prog_1_method_32_code (2 : Nat) (Option.some Jvm.ClassFile.FieldType.int)) ∈ uW := uW_of 404 (by decide +kernel) rfl
theorem u_ml_L_159 : (Jvm.Cond.methodLink "KitchenSpitsLaw" (159 : Nat) ({ cls := "KitchenSpits", name := "isDone", desc := "(I)Z" } : Jvm.MethodName)) ∈ uW := uW_of 405 (by decide +kernel) rfl
theorem u_im_X4_isDone : (Jvm.Cond.instanceMethod ({ cls := "KitchenSpits", name := "isDone", desc := "(I)Z" } : Jvm.MethodName)) ∈ uW := uW_of 406 (by decide +kernel) rfl
theorem u_se_X4_isDone : (Jvm.Cond.selects "KitchenSpits" ({ cls := "KitchenSpits", name := "isDone", desc := "(I)Z" } : Jvm.MethodName) ({ cls := "KitchenSpits", name := "isDone", desc := "(I)Z" } : Jvm.MethodName)) ∈ uW := uW_of 407 (by decide +kernel) rfl
theorem u_co_X4_isDone : (Jvm.Cond.code ({ cls := "KitchenSpits", name := "isDone", desc := "(I)Z" } : Jvm.MethodName) prog_1_method_33_code (2 : Nat) (Option.some Jvm.ClassFile.FieldType.boolean)) ∈ uW := uW_of 408 (by decide +kernel) rfl
theorem u_ml_X4_163 : (Jvm.Cond.methodLink "KitchenSpits" (163 : Nat) ({ cls := "KitchenSpits$Roast", name := "done", desc := "()Z" } : Jvm.MethodName)) ∈ uW := uW_of 409 (by decide +kernel) rfl
theorem u_im_X2_done : (Jvm.Cond.instanceMethod ({ cls := "KitchenSpits$Roast", name := "done", desc := "()Z" } : Jvm.MethodName)) ∈ uW := uW_of 410 (by decide +kernel) rfl
theorem u_se_X2_done : (Jvm.Cond.selects "KitchenSpits$Roast" ({ cls := "KitchenSpits$Roast", name := "done", desc := "()Z" } : Jvm.MethodName) ({ cls := "KitchenSpits$Roast", name := "done", desc := "()Z" } : Jvm.MethodName)) ∈ uW := uW_of 411 (by decide +kernel) rfl
theorem u_co_X2_done : (Jvm.Cond.code ({ cls := "KitchenSpits$Roast", name := "done", desc := "()Z" } : Jvm.MethodName) prog_4_method_7_code (5 : Nat) (Option.some Jvm.ClassFile.FieldType.boolean)) ∈ uW := uW_of 412 (by decide +kernel) rfl
theorem u_ml_L_152 : (Jvm.Cond.methodLink "KitchenSpitsLaw" (152 : Nat) ({ cls := "KitchenSpits", name := "isBurnt", desc := "(I)Z" } : Jvm.MethodName)) ∈ uW := uW_of 413 (by decide +kernel) rfl
theorem u_im_X4_isBurnt : (Jvm.Cond.instanceMethod ({ cls := "KitchenSpits", name := "isBurnt", desc := "(I)Z" } : Jvm.MethodName)) ∈ uW := uW_of 414 (by decide +kernel) rfl
theorem u_se_X4_isBurnt : (Jvm.Cond.selects "KitchenSpits" ({ cls := "KitchenSpits", name := "isBurnt", desc := "(I)Z" } : Jvm.MethodName) ({ cls := "KitchenSpits", name := "isBurnt", desc := "(I)Z" } : Jvm.MethodName)) ∈ uW := uW_of 415 (by decide +kernel) rfl
theorem u_co_X4_isBurnt : (Jvm.Cond.code ({ cls := "KitchenSpits", name := "isBurnt", desc := "(I)Z" } : Jvm.MethodName) prog_1_method_34_code (2 : Nat) (Option.some Jvm.ClassFile.FieldType.boolean)) ∈ uW := uW_of 416 (by decide +kernel) rfl
theorem u_ml_X4_167 : (Jvm.Cond.methodLink "KitchenSpits" (167 : Nat) ({ cls := "KitchenSpits$Roast", name := "burnt", desc := "()Z" } : Jvm.MethodName)) ∈ uW := uW_of 417 (by decide +kernel) rfl
theorem u_im_X2_burnt : (Jvm.Cond.instanceMethod ({ cls := "KitchenSpits$Roast", name := "burnt", desc := "()Z" } : Jvm.MethodName)) ∈ uW := uW_of 418 (by decide +kernel) rfl
theorem u_se_X2_burnt : (Jvm.Cond.selects "KitchenSpits$Roast" ({ cls := "KitchenSpits$Roast", name := "burnt", desc := "()Z" } : Jvm.MethodName) ({ cls := "KitchenSpits$Roast", name := "burnt", desc := "()Z" } : Jvm.MethodName)) ∈ uW := uW_of 419 (by decide +kernel) rfl
theorem u_co_X2_burnt : (Jvm.Cond.code ({ cls := "KitchenSpits$Roast", name := "burnt", desc := "()Z" } : Jvm.MethodName) prog_4_method_8_code (5 : Nat) (Option.some Jvm.ClassFile.FieldType.boolean)) ∈ uW := uW_of 420 (by decide +kernel) rfl
theorem u_ml_L_90 : (Jvm.Cond.methodLink "KitchenSpitsLaw" (90 : Nat) ({ cls := "KitchenSpitsLaw$Sim", name := "pass", desc := "()I" } : Jvm.MethodName)) ∈ uW := uW_of 421 (by decide +kernel) rfl
theorem u_im_X6_pass : (Jvm.Cond.instanceMethod ({ cls := "KitchenSpitsLaw$Sim", name := "pass", desc := "()I" } : Jvm.MethodName)) ∈ uW := uW_of 422 (by decide +kernel) rfl
theorem u_se_X6_pass : (Jvm.Cond.selects "KitchenSpitsLaw$Sim" ({ cls := "KitchenSpitsLaw$Sim", name := "pass", desc := "()I" } : Jvm.MethodName) ({ cls := "KitchenSpitsLaw$Sim", name := "pass", desc := "()I" } : Jvm.MethodName)) ∈ uW := uW_of 423 (by decide +kernel) rfl
theorem u_co_X6_pass : (Jvm.Cond.code ({ cls := "KitchenSpitsLaw$Sim", name := "pass", desc := "()I" } : Jvm.MethodName) prog_8_method_6_code (9 : Nat) (Option.some Jvm.ClassFile.FieldType.int)) ∈ uW := uW_of 424 (rfl) rfl
theorem u_ml_X6_50 : (Jvm.Cond.methodLink "KitchenSpitsLaw$Sim" (50 : Nat) ({ cls := "KitchenSpitsLaw$Sim", name := "glow", desc := "(I)I" } : Jvm.MethodName)) ∈ uW := uW_of 425 (by decide +kernel) rfl
theorem u_im_X6_glow : (Jvm.Cond.instanceMethod ({ cls := "KitchenSpitsLaw$Sim", name := "glow", desc := "(I)I" } : Jvm.MethodName)) ∈ uW := uW_of 426 (by decide +kernel) rfl
theorem u_se_X6_glow : (Jvm.Cond.selects "KitchenSpitsLaw$Sim" ({ cls := "KitchenSpitsLaw$Sim", name := "glow", desc := "(I)I" } : Jvm.MethodName) ({ cls := "KitchenSpitsLaw$Sim", name := "glow", desc := "(I)I" } : Jvm.MethodName)) ∈ uW := uW_of 427 (by decide +kernel) rfl
theorem u_co_X6_glow : (Jvm.Cond.code ({ cls := "KitchenSpitsLaw$Sim", name := "glow", desc := "(I)I" } : Jvm.MethodName) prog_8_method_5_code (2 : Nat) (Option.some Jvm.ClassFile.FieldType.int)) ∈ uW := uW_of 428 (by decide +kernel) rfl
theorem u_ml_X6_54 : (Jvm.Cond.methodLink "KitchenSpitsLaw$Sim" (54 : Nat) ({ cls := "KitchenSpitsLaw$Roast", name := "gets", desc := "(I)V" } : Jvm.MethodName)) ∈ uW := uW_of 429 (by decide +kernel) rfl
theorem u_im_X5_gets : (Jvm.Cond.instanceMethod ({ cls := "KitchenSpitsLaw$Roast", name := "gets", desc := "(I)V" } : Jvm.MethodName)) ∈ uW := uW_of 430 (by decide +kernel) rfl
theorem u_se_X5_gets : (Jvm.Cond.selects "KitchenSpitsLaw$Roast" ({ cls := "KitchenSpitsLaw$Roast", name := "gets", desc := "(I)V" } : Jvm.MethodName) ({ cls := "KitchenSpitsLaw$Roast", name := "gets", desc := "(I)V" } : Jvm.MethodName)) ∈ uW := uW_of 431 (by decide +kernel) rfl
theorem u_co_X5_gets : (Jvm.Cond.code ({ cls := "KitchenSpitsLaw$Roast", name := "gets", desc := "(I)V" } : Jvm.MethodName) prog_7_method_5_code (2 : Nat) (Option.none : Option Jvm.ClassFile.FieldType)) ∈ uW := uW_of 432 (by decide +kernel) rfl
theorem u_ml_X5_26 : (Jvm.Cond.methodLink "KitchenSpitsLaw$Roast" (26 : Nat) ({ cls := "KitchenSpitsLaw$Roast", name := "tan", desc := "(II)V" } : Jvm.MethodName)) ∈ uW := uW_of 433 (by decide +kernel) rfl
theorem u_im_X5_tan : (Jvm.Cond.instanceMethod ({ cls := "KitchenSpitsLaw$Roast", name := "tan", desc := "(II)V" } : Jvm.MethodName)) ∈ uW := uW_of 434 (by decide +kernel) rfl
theorem u_se_X5_tan : (Jvm.Cond.selects "KitchenSpitsLaw$Roast" ({ cls := "KitchenSpitsLaw$Roast", name := "tan", desc := "(II)V" } : Jvm.MethodName) ({ cls := "KitchenSpitsLaw$Roast", name := "tan", desc := "(II)V" } : Jvm.MethodName)) ∈ uW := uW_of 435 (by decide +kernel) rfl
theorem u_co_X5_tan : (Jvm.Cond.code ({ cls := "KitchenSpitsLaw$Roast", name := "tan", desc := "(II)V" } : Jvm.MethodName) prog_7_method_4_code (3 : Nat) (Option.none : Option Jvm.ClassFile.FieldType)) ∈ uW := uW_of 436 (by decide +kernel) rfl
theorem u_ml_L_168 : (Jvm.Cond.methodLink "KitchenSpitsLaw" (168 : Nat) ({ cls := "KitchenSpitsLaw$Sim", name := "isSame", desc := "(LKitchenSpits;)Z" } : Jvm.MethodName)) ∈ uW := uW_of 437 (by decide +kernel) rfl
theorem u_im_X6_isSame : (Jvm.Cond.instanceMethod ({ cls := "KitchenSpitsLaw$Sim", name := "isSame", desc := "(LKitchenSpits;)Z" } : Jvm.MethodName)) ∈ uW := uW_of 438 (by decide +kernel) rfl
theorem u_se_X6_isSame : (Jvm.Cond.selects "KitchenSpitsLaw$Sim" ({ cls := "KitchenSpitsLaw$Sim", name := "isSame", desc := "(LKitchenSpits;)Z" } : Jvm.MethodName) ({ cls := "KitchenSpitsLaw$Sim", name := "isSame", desc := "(LKitchenSpits;)Z" } : Jvm.MethodName)) ∈ uW := uW_of 439 (by decide +kernel) rfl
theorem u_co_X6_isSame : (Jvm.Cond.code ({ cls := "KitchenSpitsLaw$Sim", name := "isSame", desc := "(LKitchenSpits;)Z" } : Jvm.MethodName) prog_8_method_8_code (6 : Nat) (Option.some Jvm.ClassFile.FieldType.boolean)) ∈ uW := uW_of 440 (rfl) rfl
theorem u_ml_X6_75 : (Jvm.Cond.methodLink "KitchenSpitsLaw$Sim" (75 : Nat) ({ cls := "KitchenSpits", name := "minute", desc := "()I" } : Jvm.MethodName)) ∈ uW := uW_of 441 (by decide +kernel) rfl
theorem u_ml_X6_79 : (Jvm.Cond.methodLink "KitchenSpitsLaw$Sim" (79 : Nat) ({ cls := "KitchenSpits", name := "feast", desc := "()I" } : Jvm.MethodName)) ∈ uW := uW_of 442 (by decide +kernel) rfl
theorem u_im_X4_feast : (Jvm.Cond.instanceMethod ({ cls := "KitchenSpits", name := "feast", desc := "()I" } : Jvm.MethodName)) ∈ uW := uW_of 443 (by decide +kernel) rfl
theorem u_se_X4_feast : (Jvm.Cond.selects "KitchenSpits" ({ cls := "KitchenSpits", name := "feast", desc := "()I" } : Jvm.MethodName) ({ cls := "KitchenSpits", name := "feast", desc := "()I" } : Jvm.MethodName)) ∈ uW := uW_of 444 (by decide +kernel) rfl
theorem u_co_X4_feast : (Jvm.Cond.code ({ cls := "KitchenSpits", name := "feast", desc := "()I" } : Jvm.MethodName) prog_1_method_15_code (1 : Nat) (Option.some Jvm.ClassFile.FieldType.int)) ∈ uW := uW_of 445 (by decide +kernel) rfl
theorem u_ml_X6_81 : (Jvm.Cond.methodLink "KitchenSpitsLaw$Sim" (81 : Nat) ({ cls := "KitchenSpits", name := "fires", desc := "()I" } : Jvm.MethodName)) ∈ uW := uW_of 446 (by decide +kernel) rfl
theorem u_ml_X6_83 : (Jvm.Cond.methodLink "KitchenSpitsLaw$Sim" (83 : Nat) ({ cls := "KitchenSpits", name := "spits", desc := "()I" } : Jvm.MethodName)) ∈ uW := uW_of 447 (by decide +kernel) rfl
theorem u_ml_X6_85 : (Jvm.Cond.methodLink "KitchenSpitsLaw$Sim" (85 : Nat) ({ cls := "KitchenSpits", name := "roasts", desc := "()I" } : Jvm.MethodName)) ∈ uW := uW_of 448 (by decide +kernel) rfl
theorem u_ml_X6_87 : (Jvm.Cond.methodLink "KitchenSpitsLaw$Sim" (87 : Nat) ({ cls := "KitchenSpits", name := "logsOf", desc := "(I)I" } : Jvm.MethodName)) ∈ uW := uW_of 449 (by decide +kernel) rfl
theorem u_ml_X6_90 : (Jvm.Cond.methodLink "KitchenSpitsLaw$Sim" (90 : Nat) ({ cls := "KitchenSpits", name := "heatOf", desc := "(I)I" } : Jvm.MethodName)) ∈ uW := uW_of 450 (by decide +kernel) rfl
theorem u_ml_X6_93 : (Jvm.Cond.methodLink "KitchenSpitsLaw$Sim" (93 : Nat) ({ cls := "KitchenSpits", name := "fireOf", desc := "(I)I" } : Jvm.MethodName)) ∈ uW := uW_of 451 (by decide +kernel) rfl
theorem u_ml_X6_96 : (Jvm.Cond.methodLink "KitchenSpitsLaw$Sim" (96 : Nat) ({ cls := "KitchenSpits", name := "feetOf", desc := "(I)I" } : Jvm.MethodName)) ∈ uW := uW_of 452 (by decide +kernel) rfl
theorem u_ml_X6_99 : (Jvm.Cond.methodLink "KitchenSpitsLaw$Sim" (99 : Nat) ({ cls := "KitchenSpits", name := "glowAt", desc := "(I)I" } : Jvm.MethodName)) ∈ uW := uW_of 453 (by decide +kernel) rfl
theorem u_ml_X6_102 : (Jvm.Cond.methodLink "KitchenSpitsLaw$Sim" (102 : Nat) ({ cls := "KitchenSpits", name := "drippingsOf", desc := "(I)I" } : Jvm.MethodName)) ∈ uW := uW_of 454 (by decide +kernel) rfl
theorem u_ml_X6_105 : (Jvm.Cond.methodLink "KitchenSpitsLaw$Sim" (105 : Nat) ({ cls := "KitchenSpits", name := "roastOn", desc := "(I)I" } : Jvm.MethodName)) ∈ uW := uW_of 455 (by decide +kernel) rfl
theorem u_ml_X6_108 : (Jvm.Cond.methodLink "KitchenSpitsLaw$Sim" (108 : Nat) ({ cls := "KitchenSpits", name := "turnedEach", desc := "(I)I" } : Jvm.MethodName)) ∈ uW := uW_of 456 (by decide +kernel) rfl
theorem u_im_X4_turnedEach : (Jvm.Cond.instanceMethod ({ cls := "KitchenSpits", name := "turnedEach", desc := "(I)I" } : Jvm.MethodName)) ∈ uW := uW_of 457 (by decide +kernel) rfl
theorem u_se_X4_turnedEach : (Jvm.Cond.selects "KitchenSpits" ({ cls := "KitchenSpits", name := "turnedEach", desc := "(I)I" } : Jvm.MethodName) ({ cls := "KitchenSpits", name := "turnedEach", desc := "(I)I" } : Jvm.MethodName)) ∈ uW := uW_of 458 (by decide +kernel) rfl
theorem u_co_X4_turnedEach : (Jvm.Cond.code ({ cls := "KitchenSpits", name := "turnedEach", desc := "(I)I" } : Jvm.MethodName) prog_1_method_23_code (2 : Nat) (Option.some Jvm.ClassFile.FieldType.int)) ∈ uW := uW_of 459 (by decide +kernel) rfl
theorem u_ml_X6_111 : (Jvm.Cond.methodLink "KitchenSpitsLaw$Sim" (111 : Nat) ({ cls := "KitchenSpits", name := "poundsOf", desc := "(I)I" } : Jvm.MethodName)) ∈ uW := uW_of 460 (by decide +kernel) rfl
theorem u_ml_X6_114 : (Jvm.Cond.methodLink "KitchenSpitsLaw$Sim" (114 : Nat) ({ cls := "KitchenSpits", name := "spitOf", desc := "(I)I" } : Jvm.MethodName)) ∈ uW := uW_of 461 (by decide +kernel) rfl
theorem u_ml_X6_117 : (Jvm.Cond.methodLink "KitchenSpitsLaw$Sim" (117 : Nat) ({ cls := "KitchenSpits", name := "sideToFire", desc := "(I)I" } : Jvm.MethodName)) ∈ uW := uW_of 462 (by decide +kernel) rfl
theorem u_ml_X6_120 : (Jvm.Cond.methodLink "KitchenSpitsLaw$Sim" (120 : Nat) ({ cls := "KitchenSpits", name := "fatOf", desc := "(I)I" } : Jvm.MethodName)) ∈ uW := uW_of 463 (by decide +kernel) rfl
theorem u_ml_X6_123 : (Jvm.Cond.methodLink "KitchenSpitsLaw$Sim" (123 : Nat) ({ cls := "KitchenSpits", name := "wetFor", desc := "(I)I" } : Jvm.MethodName)) ∈ uW := uW_of 464 (by decide +kernel) rfl
theorem u_ml_X6_129 : (Jvm.Cond.methodLink "KitchenSpitsLaw$Sim" (129 : Nat) ({ cls := "KitchenSpits", name := "isDone", desc := "(I)Z" } : Jvm.MethodName)) ∈ uW := uW_of 465 (by decide +kernel) rfl
theorem u_ml_X6_68 : (Jvm.Cond.methodLink "KitchenSpitsLaw$Sim" (68 : Nat) ({ cls := "KitchenSpitsLaw$Roast", name := "isDone", desc := "()Z" } : Jvm.MethodName)) ∈ uW := uW_of 466 (by decide +kernel) rfl
theorem u_im_X5_isDone : (Jvm.Cond.instanceMethod ({ cls := "KitchenSpitsLaw$Roast", name := "isDone", desc := "()Z" } : Jvm.MethodName)) ∈ uW := uW_of 467 (by decide +kernel) rfl
theorem u_se_X5_isDone : (Jvm.Cond.selects "KitchenSpitsLaw$Roast" ({ cls := "KitchenSpitsLaw$Roast", name := "isDone", desc := "()Z" } : Jvm.MethodName) ({ cls := "KitchenSpitsLaw$Roast", name := "isDone", desc := "()Z" } : Jvm.MethodName)) ∈ uW := uW_of 468 (by decide +kernel) rfl
theorem u_co_X5_isDone : (Jvm.Cond.code ({ cls := "KitchenSpitsLaw$Roast", name := "isDone", desc := "()Z" } : Jvm.MethodName) prog_7_method_2_code (5 : Nat) (Option.some Jvm.ClassFile.FieldType.boolean)) ∈ uW := uW_of 469 (by decide +kernel) rfl
theorem u_ml_X6_132 : (Jvm.Cond.methodLink "KitchenSpitsLaw$Sim" (132 : Nat) ({ cls := "KitchenSpits", name := "isBurnt", desc := "(I)Z" } : Jvm.MethodName)) ∈ uW := uW_of 470 (by decide +kernel) rfl
theorem u_ml_X6_64 : (Jvm.Cond.methodLink "KitchenSpitsLaw$Sim" (64 : Nat) ({ cls := "KitchenSpitsLaw$Roast", name := "isBurnt", desc := "()Z" } : Jvm.MethodName)) ∈ uW := uW_of 471 (by decide +kernel) rfl
theorem u_im_X5_isBurnt : (Jvm.Cond.instanceMethod ({ cls := "KitchenSpitsLaw$Roast", name := "isBurnt", desc := "()Z" } : Jvm.MethodName)) ∈ uW := uW_of 472 (by decide +kernel) rfl
theorem u_se_X5_isBurnt : (Jvm.Cond.selects "KitchenSpitsLaw$Roast" ({ cls := "KitchenSpitsLaw$Roast", name := "isBurnt", desc := "()Z" } : Jvm.MethodName) ({ cls := "KitchenSpitsLaw$Roast", name := "isBurnt", desc := "()Z" } : Jvm.MethodName)) ∈ uW := uW_of 473 (by decide +kernel) rfl
theorem u_co_X5_isBurnt : (Jvm.Cond.code ({ cls := "KitchenSpitsLaw$Roast", name := "isBurnt", desc := "()Z" } : Jvm.MethodName) prog_7_method_3_code (5 : Nat) (Option.some Jvm.ClassFile.FieldType.boolean)) ∈ uW := uW_of 474 (by decide +kernel) rfl
theorem u_ml_X6_134 : (Jvm.Cond.methodLink "KitchenSpitsLaw$Sim" (134 : Nat) ({ cls := "KitchenSpits", name := "brownOf", desc := "(II)I" } : Jvm.MethodName)) ∈ uW := uW_of 475 (by decide +kernel) rfl
theorem u_ml_X6_141 : (Jvm.Cond.methodLink "KitchenSpitsLaw$Sim" (141 : Nat) ({ cls := "KitchenSpits", name := "meanBrown", desc := "()D" } : Jvm.MethodName)) ∈ uW := uW_of 476 (by decide +kernel) rfl
theorem u_im_X4_meanBrown : (Jvm.Cond.instanceMethod ({ cls := "KitchenSpits", name := "meanBrown", desc := "()D" } : Jvm.MethodName)) ∈ uW := uW_of 477 (by decide +kernel) rfl
theorem u_se_X4_meanBrown : (Jvm.Cond.selects "KitchenSpits" ({ cls := "KitchenSpits", name := "meanBrown", desc := "()D" } : Jvm.MethodName) ({ cls := "KitchenSpits", name := "meanBrown", desc := "()D" } : Jvm.MethodName)) ∈ uW := uW_of 478 (by decide +kernel) rfl
theorem u_co_X4_meanBrown : (Jvm.Cond.code ({ cls := "KitchenSpits", name := "meanBrown", desc := "()D" } : Jvm.MethodName) prog_1_method_40_code (2 : Nat) (Option.some Jvm.ClassFile.FieldType.double)) ∈ uW := uW_of 479 (by decide +kernel) rfl
theorem u_ml_X4_191 : (Jvm.Cond.methodLink "KitchenSpits" (191 : Nat) ({ cls := "KitchenSpits$Kitchen", name := "sumBrown", desc := "()I" } : Jvm.MethodName)) ∈ uW := uW_of 480 (by decide +kernel) rfl
theorem u_im_X1_sumBrown : (Jvm.Cond.instanceMethod ({ cls := "KitchenSpits$Kitchen", name := "sumBrown", desc := "()I" } : Jvm.MethodName)) ∈ uW := uW_of 481 (by decide +kernel) rfl
theorem u_se_X1_sumBrown : (Jvm.Cond.selects "KitchenSpits$Kitchen" ({ cls := "KitchenSpits$Kitchen", name := "sumBrown", desc := "()I" } : Jvm.MethodName) ({ cls := "KitchenSpits$Kitchen", name := "sumBrown", desc := "()I" } : Jvm.MethodName)) ∈ uW := uW_of 482 (by decide +kernel) rfl
theorem u_co_X1_sumBrown : (Jvm.Cond.code ({ cls := "KitchenSpits$Kitchen", name := "sumBrown", desc := "()I" } : Jvm.MethodName) prog_3_method_14_code (7 : Nat) (Option.some Jvm.ClassFile.FieldType.int)) ∈ uW := uW_of 483 (by decide +kernel) rfl
theorem u_ml_L_96 : (Jvm.Cond.methodLink "KitchenSpitsLaw" (96 : Nat) ({ cls := "KitchenSpitsLaw", name := "cell", desc := "([II)I" } : Jvm.MethodName)) ∈ uW := uW_of 485 (by decide +kernel) rfl
theorem u_st_L_cell : (Jvm.Cond.static ({ cls := "KitchenSpitsLaw", name := "cell", desc := "([II)I" } : Jvm.MethodName)) ∈ uW := uW_of 486 (by decide +kernel) rfl
theorem u_co_L_cell : (Jvm.Cond.code ({ cls := "KitchenSpitsLaw", name := "cell", desc := "([II)I" } : Jvm.MethodName) method_3_code (2 : Nat) (Option.some Jvm.ClassFile.FieldType.int)) ∈ uW := uW_of 487 (by decide +kernel) rfl
theorem u_kc_L_8 : (Jvm.Cond.constant "KitchenSpitsLaw" (8 : Nat) (790386105 : Int32)) ∈ uW := uW_of 488 (by decide +kernel) rfl
theorem u_ml_L_100 : (Jvm.Cond.methodLink "KitchenSpitsLaw" (100 : Nat) ({ cls := "KitchenSpitsLaw", name := "act", desc := "(LKitchenSpits;LKitchenSpitsLaw$Sim;I)Z" } : Jvm.MethodName)) ∈ uW := uW_of 489 (by decide +kernel) rfl
theorem u_st_L_act : (Jvm.Cond.static ({ cls := "KitchenSpitsLaw", name := "act", desc := "(LKitchenSpits;LKitchenSpitsLaw$Sim;I)Z" } : Jvm.MethodName)) ∈ uW := uW_of 490 (by decide +kernel) rfl
theorem u_co_L_act : (Jvm.Cond.code ({ cls := "KitchenSpitsLaw", name := "act", desc := "(LKitchenSpits;LKitchenSpitsLaw$Sim;I)Z" } : Jvm.MethodName) method_4_code (20 : Nat) (Option.some Jvm.ClassFile.FieldType.boolean)) ∈ uW := uW_of 491 (rfl) rfl
theorem u_ml_L_15 : (Jvm.Cond.methodLink "KitchenSpitsLaw" (15 : Nat) ({ cls := "KitchenSpitsLaw", name := "below", desc := "(II)I" } : Jvm.MethodName)) ∈ uW := uW_of 492 (by decide +kernel) rfl
theorem u_st_L_below : (Jvm.Cond.static ({ cls := "KitchenSpitsLaw", name := "below", desc := "(II)I" } : Jvm.MethodName)) ∈ uW := uW_of 493 (by decide +kernel) rfl
theorem u_co_L_below : (Jvm.Cond.code ({ cls := "KitchenSpitsLaw", name := "below", desc := "(II)I" } : Jvm.MethodName) method_2_code (2 : Nat) (Option.some Jvm.ClassFile.FieldType.int)) ∈ uW := uW_of 494 (by decide +kernel) rfl
theorem u_kc_L_7 : (Jvm.Cond.constant "KitchenSpitsLaw" (7 : Nat) (2147483647 : Int32)) ∈ uW := uW_of 495 (by decide +kernel) rfl
end
section
theorem u_ml_L_21 : (Jvm.Cond.methodLink "KitchenSpitsLaw" (21 : Nat) ({ cls := "KitchenSpitsLaw$Sim", name := "with", desc := "([[I[I)[[I" } : Jvm.MethodName)) ∈ uW := uW_of 496 (by decide +kernel) rfl
theorem u_st_X6_with : (Jvm.Cond.static ({ cls := "KitchenSpitsLaw$Sim", name := "with", desc := "([[I[I)[[I" } : Jvm.MethodName)) ∈ uW := uW_of 497 (by decide +kernel) rfl
theorem u_co_X6_with : (Jvm.Cond.code ({ cls := "KitchenSpitsLaw$Sim", name := "with", desc := "([[I[I)[[I" } : Jvm.MethodName) prog_8_method_2_code (4 : Nat) (Option.some (Jvm.ClassFile.FieldType.array (Jvm.ClassFile.FieldType.array Jvm.ClassFile.FieldType.int)))) ∈ uW := uW_of 498 (by decide +kernel) rfl
theorem u_cl_X6_13 : (Jvm.Cond.classLink "KitchenSpitsLaw$Sim" (13 : Nat) "[I") ∈ uW := uW_of 499 (by decide +kernel) rfl
theorem u_ml_L_25 : (Jvm.Cond.methodLink "KitchenSpitsLaw" (25 : Nat) ({ cls := "KitchenSpits", name := "addFire", desc := "()I" } : Jvm.MethodName)) ∈ uW := uW_of 501 (by decide +kernel) rfl
theorem u_im_X4_addFire : (Jvm.Cond.instanceMethod ({ cls := "KitchenSpits", name := "addFire", desc := "()I" } : Jvm.MethodName)) ∈ uW := uW_of 502 (by decide +kernel) rfl
theorem u_se_X4_addFire : (Jvm.Cond.selects "KitchenSpits" ({ cls := "KitchenSpits", name := "addFire", desc := "()I" } : Jvm.MethodName) ({ cls := "KitchenSpits", name := "addFire", desc := "()I" } : Jvm.MethodName)) ∈ uW := uW_of 503 (by decide +kernel) rfl
theorem u_co_X4_addFire : (Jvm.Cond.code ({ cls := "KitchenSpits", name := "addFire", desc := "()I" } : Jvm.MethodName) prog_1_method_2_code (2 : Nat) (Option.some Jvm.ClassFile.FieldType.int)) ∈ uW := uW_of 504 (by decide +kernel) rfl
theorem u_ml_X4_19 : (Jvm.Cond.methodLink "KitchenSpits" (19 : Nat) ({ cls := "KitchenSpits$Kitchen", name := "placeFire", desc := "()I" } : Jvm.MethodName)) ∈ uW := uW_of 505 (by decide +kernel) rfl
theorem u_im_X1_placeFire : (Jvm.Cond.instanceMethod ({ cls := "KitchenSpits$Kitchen", name := "placeFire", desc := "()I" } : Jvm.MethodName)) ∈ uW := uW_of 506 (by decide +kernel) rfl
theorem u_se_X1_placeFire : (Jvm.Cond.selects "KitchenSpits$Kitchen" ({ cls := "KitchenSpits$Kitchen", name := "placeFire", desc := "()I" } : Jvm.MethodName) ({ cls := "KitchenSpits$Kitchen", name := "placeFire", desc := "()I" } : Jvm.MethodName)) ∈ uW := uW_of 507 (by decide +kernel) rfl
theorem u_co_X1_placeFire : (Jvm.Cond.code ({ cls := "KitchenSpits$Kitchen", name := "placeFire", desc := "()I" } : Jvm.MethodName) prog_3_method_6_code (1 : Nat) (Option.some Jvm.ClassFile.FieldType.int)) ∈ uW := uW_of 508 (by decide +kernel) rfl
theorem u_cl_X4_23 : (Jvm.Cond.classLink "KitchenSpits" (23 : Nat) "java/lang/IllegalStateException") ∈ uW := uW_of 509 (by decide +kernel) rfl
theorem u_ins_JS : (Jvm.Cond.instantiable "java/lang/IllegalStateException" (6 : Nat)) ∈ uW := uW_of 510 (by decide +kernel) rfl
theorem u_se_JS_fillInStackTrace_512 : (Jvm.Cond.selects "java/lang/IllegalStateException" ({ cls := "java/lang/Throwable", name := "fillInStackTrace", desc := "(I)Ljava/lang/Throwable;" } : Jvm.MethodName) ({ cls := "java/lang/Throwable", name := "fillInStackTrace", desc := "(I)Ljava/lang/Throwable;" } : Jvm.MethodName)) ∈ uW := uW_of 512 (by decide +kernel) rfl
theorem u_ml_X4_27 : (Jvm.Cond.methodLink "KitchenSpits" (27 : Nat) ({ cls := "java/lang/IllegalStateException", name := "<init>", desc := "(Ljava/lang/String;)V" } : Jvm.MethodName)) ∈ uW := uW_of 519 (by decide +kernel) rfl
theorem u_im_JS_init : (Jvm.Cond.instanceMethod ({ cls := "java/lang/IllegalStateException", name := "<init>", desc := "(Ljava/lang/String;)V" } : Jvm.MethodName)) ∈ uW := uW_of 520 (by decide +kernel) rfl
theorem u_co_JS_init : (Jvm.Cond.code ({ cls := "java/lang/IllegalStateException", name := "<init>", desc := "(Ljava/lang/String;)V" } : Jvm.MethodName) prog_12_method_2_code (2 : Nat) (Option.none : Option Jvm.ClassFile.FieldType)) ∈ uW := uW_of 521 (by decide +kernel) rfl
theorem u_ml_JS_7 : (Jvm.Cond.methodLink "java/lang/IllegalStateException" (7 : Nat) ({ cls := "java/lang/RuntimeException", name := "<init>", desc := "(Ljava/lang/String;)V" } : Jvm.MethodName)) ∈ uW := uW_of 522 (by decide +kernel) rfl
theorem u_ml_L_34 : (Jvm.Cond.methodLink "KitchenSpitsLaw" (34 : Nat) ({ cls := "KitchenSpits", name := "addSpit", desc := "(II)I" } : Jvm.MethodName)) ∈ uW := uW_of 525 (by decide +kernel) rfl
theorem u_im_X4_addSpit : (Jvm.Cond.instanceMethod ({ cls := "KitchenSpits", name := "addSpit", desc := "(II)I" } : Jvm.MethodName)) ∈ uW := uW_of 526 (by decide +kernel) rfl
theorem u_se_X4_addSpit : (Jvm.Cond.selects "KitchenSpits" ({ cls := "KitchenSpits", name := "addSpit", desc := "(II)I" } : Jvm.MethodName) ({ cls := "KitchenSpits", name := "addSpit", desc := "(II)I" } : Jvm.MethodName)) ∈ uW := uW_of 527 (by decide +kernel) rfl
theorem u_co_X4_addSpit : (Jvm.Cond.code ({ cls := "KitchenSpits", name := "addSpit", desc := "(II)I" } : Jvm.MethodName) prog_1_method_4_code (4 : Nat) (Option.some Jvm.ClassFile.FieldType.int)) ∈ uW := uW_of 528 (by decide +kernel) rfl
theorem u_ml_X4_51 : (Jvm.Cond.methodLink "KitchenSpits" (51 : Nat) ({ cls := "KitchenSpits", name := "needFeet", desc := "(I)V" } : Jvm.MethodName)) ∈ uW := uW_of 529 (by decide +kernel) rfl
theorem u_st_X4_needFeet : (Jvm.Cond.static ({ cls := "KitchenSpits", name := "needFeet", desc := "(I)V" } : Jvm.MethodName)) ∈ uW := uW_of 530 (by decide +kernel) rfl
theorem u_co_X4_needFeet : (Jvm.Cond.code ({ cls := "KitchenSpits", name := "needFeet", desc := "(I)V" } : Jvm.MethodName) prog_1_method_46_code (1 : Nat) (Option.none : Option Jvm.ClassFile.FieldType)) ∈ uW := uW_of 531 (by decide +kernel) rfl
theorem u_ml_X4_55 : (Jvm.Cond.methodLink "KitchenSpits" (55 : Nat) ({ cls := "KitchenSpits$Kitchen", name := "placeSpit", desc := "(II)I" } : Jvm.MethodName)) ∈ uW := uW_of 533 (by decide +kernel) rfl
theorem u_im_X1_placeSpit : (Jvm.Cond.instanceMethod ({ cls := "KitchenSpits$Kitchen", name := "placeSpit", desc := "(II)I" } : Jvm.MethodName)) ∈ uW := uW_of 534 (by decide +kernel) rfl
theorem u_se_X1_placeSpit : (Jvm.Cond.selects "KitchenSpits$Kitchen" ({ cls := "KitchenSpits$Kitchen", name := "placeSpit", desc := "(II)I" } : Jvm.MethodName) ({ cls := "KitchenSpits$Kitchen", name := "placeSpit", desc := "(II)I" } : Jvm.MethodName)) ∈ uW := uW_of 535 (by decide +kernel) rfl
theorem u_co_X1_placeSpit : (Jvm.Cond.code ({ cls := "KitchenSpits$Kitchen", name := "placeSpit", desc := "(II)I" } : Jvm.MethodName) prog_3_method_7_code (4 : Nat) (Option.some Jvm.ClassFile.FieldType.int)) ∈ uW := uW_of 536 (by decide +kernel) rfl
theorem u_ml_L_37 : (Jvm.Cond.methodLink "KitchenSpitsLaw" (37 : Nat) ({ cls := "java/lang/Math", name := "min", desc := "(II)I" } : Jvm.MethodName)) ∈ uW := uW_of 538 (by decide +kernel) rfl
theorem u_ml_L_42 : (Jvm.Cond.methodLink "KitchenSpitsLaw" (42 : Nat) ({ cls := "KitchenSpits", name := "layLogs", desc := "(II)I" } : Jvm.MethodName)) ∈ uW := uW_of 539 (by decide +kernel) rfl
theorem u_im_X4_layLogs : (Jvm.Cond.instanceMethod ({ cls := "KitchenSpits", name := "layLogs", desc := "(II)I" } : Jvm.MethodName)) ∈ uW := uW_of 540 (by decide +kernel) rfl
theorem u_se_X4_layLogs : (Jvm.Cond.selects "KitchenSpits" ({ cls := "KitchenSpits", name := "layLogs", desc := "(II)I" } : Jvm.MethodName) ({ cls := "KitchenSpits", name := "layLogs", desc := "(II)I" } : Jvm.MethodName)) ∈ uW := uW_of 541 (by decide +kernel) rfl
theorem u_co_X4_layLogs : (Jvm.Cond.code ({ cls := "KitchenSpits", name := "layLogs", desc := "(II)I" } : Jvm.MethodName) prog_1_method_3_code (4 : Nat) (Option.some Jvm.ClassFile.FieldType.int)) ∈ uW := uW_of 542 (by decide +kernel) rfl
theorem u_ml_X4_45 : (Jvm.Cond.methodLink "KitchenSpits" (45 : Nat) ({ cls := "java/lang/Math", name := "min", desc := "(II)I" } : Jvm.MethodName)) ∈ uW := uW_of 544 (by decide +kernel) rfl
theorem u_ml_L_45 : (Jvm.Cond.methodLink "KitchenSpitsLaw" (45 : Nat) ({ cls := "KitchenSpits", name := "moveSpit", desc := "(II)I" } : Jvm.MethodName)) ∈ uW := uW_of 545 (by decide +kernel) rfl
theorem u_im_X4_moveSpit : (Jvm.Cond.instanceMethod ({ cls := "KitchenSpits", name := "moveSpit", desc := "(II)I" } : Jvm.MethodName)) ∈ uW := uW_of 546 (by decide +kernel) rfl
theorem u_se_X4_moveSpit : (Jvm.Cond.selects "KitchenSpits" ({ cls := "KitchenSpits", name := "moveSpit", desc := "(II)I" } : Jvm.MethodName) ({ cls := "KitchenSpits", name := "moveSpit", desc := "(II)I" } : Jvm.MethodName)) ∈ uW := uW_of 547 (by decide +kernel) rfl
theorem u_co_X4_moveSpit : (Jvm.Cond.code ({ cls := "KitchenSpits", name := "moveSpit", desc := "(II)I" } : Jvm.MethodName) prog_1_method_5_code (5 : Nat) (Option.some Jvm.ClassFile.FieldType.int)) ∈ uW := uW_of 548 (by decide +kernel) rfl
theorem u_ml_L_48 : (Jvm.Cond.methodLink "KitchenSpitsLaw" (48 : Nat) ({ cls := "KitchenSpits", name := "turnEach", desc := "(II)I" } : Jvm.MethodName)) ∈ uW := uW_of 549 (by decide +kernel) rfl
theorem u_im_X4_turnEach : (Jvm.Cond.instanceMethod ({ cls := "KitchenSpits", name := "turnEach", desc := "(II)I" } : Jvm.MethodName)) ∈ uW := uW_of 550 (by decide +kernel) rfl
theorem u_se_X4_turnEach : (Jvm.Cond.selects "KitchenSpits" ({ cls := "KitchenSpits", name := "turnEach", desc := "(II)I" } : Jvm.MethodName) ({ cls := "KitchenSpits", name := "turnEach", desc := "(II)I" } : Jvm.MethodName)) ∈ uW := uW_of 551 (by decide +kernel) rfl
theorem u_co_X4_turnEach : (Jvm.Cond.code ({ cls := "KitchenSpits", name := "turnEach", desc := "(II)I" } : Jvm.MethodName) prog_1_method_6_code (5 : Nat) (Option.some Jvm.ClassFile.FieldType.int)) ∈ uW := uW_of 552 (by decide +kernel) rfl
theorem u_ml_X4_74 : (Jvm.Cond.methodLink "KitchenSpits" (74 : Nat) ({ cls := "KitchenSpits$Spit", name := "countAnew", desc := "(I)V" } : Jvm.MethodName)) ∈ uW := uW_of 554 (by decide +kernel) rfl
theorem u_im_X3_countAnew : (Jvm.Cond.instanceMethod ({ cls := "KitchenSpits$Spit", name := "countAnew", desc := "(I)V" } : Jvm.MethodName)) ∈ uW := uW_of 555 (by decide +kernel) rfl
theorem u_se_X3_countAnew : (Jvm.Cond.selects "KitchenSpits$Spit" ({ cls := "KitchenSpits$Spit", name := "countAnew", desc := "(I)V" } : Jvm.MethodName) ({ cls := "KitchenSpits$Spit", name := "countAnew", desc := "(I)V" } : Jvm.MethodName)) ∈ uW := uW_of 556 (by decide +kernel) rfl
theorem u_co_X3_countAnew : (Jvm.Cond.code ({ cls := "KitchenSpits$Spit", name := "countAnew", desc := "(I)V" } : Jvm.MethodName) prog_5_method_3_code (2 : Nat) (Option.none : Option Jvm.ClassFile.FieldType)) ∈ uW := uW_of 557 (by decide +kernel) rfl
theorem u_ml_L_55 : (Jvm.Cond.methodLink "KitchenSpitsLaw" (55 : Nat) ({ cls := "KitchenSpits", name := "setFeast", desc := "(I)I" } : Jvm.MethodName)) ∈ uW := uW_of 558 (by decide +kernel) rfl
theorem u_im_X4_setFeast : (Jvm.Cond.instanceMethod ({ cls := "KitchenSpits", name := "setFeast", desc := "(I)I" } : Jvm.MethodName)) ∈ uW := uW_of 559 (by decide +kernel) rfl
theorem u_se_X4_setFeast : (Jvm.Cond.selects "KitchenSpits" ({ cls := "KitchenSpits", name := "setFeast", desc := "(I)I" } : Jvm.MethodName) ({ cls := "KitchenSpits", name := "setFeast", desc := "(I)I" } : Jvm.MethodName)) ∈ uW := uW_of 560 (by decide +kernel) rfl
theorem u_co_X4_setFeast : (Jvm.Cond.code ({ cls := "KitchenSpits", name := "setFeast", desc := "(I)I" } : Jvm.MethodName) prog_1_method_7_code (3 : Nat) (Option.some Jvm.ClassFile.FieldType.int)) ∈ uW := uW_of 561 (by decide +kernel) rfl
theorem u_ml_L_63 : (Jvm.Cond.methodLink "KitchenSpitsLaw" (63 : Nat) ({ cls := "KitchenSpits", name := "hang", desc := "(II)I" } : Jvm.MethodName)) ∈ uW := uW_of 563 (by decide +kernel) rfl
theorem u_im_X4_hang : (Jvm.Cond.instanceMethod ({ cls := "KitchenSpits", name := "hang", desc := "(II)I" } : Jvm.MethodName)) ∈ uW := uW_of 564 (by decide +kernel) rfl
theorem u_se_X4_hang : (Jvm.Cond.selects "KitchenSpits" ({ cls := "KitchenSpits", name := "hang", desc := "(II)I" } : Jvm.MethodName) ({ cls := "KitchenSpits", name := "hang", desc := "(II)I" } : Jvm.MethodName)) ∈ uW := uW_of 565 (by decide +kernel) rfl
theorem u_co_X4_hang : (Jvm.Cond.code ({ cls := "KitchenSpits", name := "hang", desc := "(II)I" } : Jvm.MethodName) prog_1_method_8_code (4 : Nat) (Option.some Jvm.ClassFile.FieldType.int)) ∈ uW := uW_of 566 (by decide +kernel) rfl
theorem u_ml_X4_82 : (Jvm.Cond.methodLink "KitchenSpits" (82 : Nat) ({ cls := "KitchenSpits", name := "needPounds", desc := "(I)V" } : Jvm.MethodName)) ∈ uW := uW_of 567 (by decide +kernel) rfl
theorem u_st_X4_needPounds : (Jvm.Cond.static ({ cls := "KitchenSpits", name := "needPounds", desc := "(I)V" } : Jvm.MethodName)) ∈ uW := uW_of 568 (by decide +kernel) rfl
theorem u_co_X4_needPounds : (Jvm.Cond.code ({ cls := "KitchenSpits", name := "needPounds", desc := "(I)V" } : Jvm.MethodName) prog_1_method_47_code (1 : Nat) (Option.none : Option Jvm.ClassFile.FieldType)) ∈ uW := uW_of 569 (by decide +kernel) rfl
theorem u_ml_X4_85 : (Jvm.Cond.methodLink "KitchenSpits" (85 : Nat) ({ cls := "KitchenSpits$Kitchen", name := "placeRoast", desc := "(II)I" } : Jvm.MethodName)) ∈ uW := uW_of 571 (by decide +kernel) rfl
theorem u_im_X1_placeRoast : (Jvm.Cond.instanceMethod ({ cls := "KitchenSpits$Kitchen", name := "placeRoast", desc := "(II)I" } : Jvm.MethodName)) ∈ uW := uW_of 572 (by decide +kernel) rfl
theorem u_se_X1_placeRoast : (Jvm.Cond.selects "KitchenSpits$Kitchen" ({ cls := "KitchenSpits$Kitchen", name := "placeRoast", desc := "(II)I" } : Jvm.MethodName) ({ cls := "KitchenSpits$Kitchen", name := "placeRoast", desc := "(II)I" } : Jvm.MethodName)) ∈ uW := uW_of 573 (by decide +kernel) rfl
theorem u_co_X1_placeRoast : (Jvm.Cond.code ({ cls := "KitchenSpits$Kitchen", name := "placeRoast", desc := "(II)I" } : Jvm.MethodName) prog_3_method_8_code (5 : Nat) (Option.some Jvm.ClassFile.FieldType.int)) ∈ uW := uW_of 574 (by decide +kernel) rfl
theorem u_ml_X1_64 : (Jvm.Cond.methodLink "KitchenSpits$Kitchen" (64 : Nat) ({ cls := "KitchenSpits$Kitchen", name := "spitAt", desc := "(I)LKitchenSpits$Spit;" } : Jvm.MethodName)) ∈ uW := uW_of 575 (by decide +kernel) rfl
theorem u_ml_L_66 : (Jvm.Cond.methodLink "KitchenSpitsLaw" (66 : Nat) ({ cls := "KitchenSpitsLaw$Sim", name := "hang", desc := "(II)I" } : Jvm.MethodName)) ∈ uW := uW_of 577 (by decide +kernel) rfl
theorem u_im_X6_hang : (Jvm.Cond.instanceMethod ({ cls := "KitchenSpitsLaw$Sim", name := "hang", desc := "(II)I" } : Jvm.MethodName)) ∈ uW := uW_of 578 (by decide +kernel) rfl
theorem u_se_X6_hang : (Jvm.Cond.selects "KitchenSpitsLaw$Sim" ({ cls := "KitchenSpitsLaw$Sim", name := "hang", desc := "(II)I" } : Jvm.MethodName) ({ cls := "KitchenSpitsLaw$Sim", name := "hang", desc := "(II)I" } : Jvm.MethodName)) ∈ uW := uW_of 579 (by decide +kernel) rfl
theorem u_co_X6_hang : (Jvm.Cond.code ({ cls := "KitchenSpitsLaw$Sim", name := "hang", desc := "(II)I" } : Jvm.MethodName) prog_8_method_3_code (5 : Nat) (Option.some Jvm.ClassFile.FieldType.int)) ∈ uW := uW_of 580 (by decide +kernel) rfl
theorem u_cl_X6_22 : (Jvm.Cond.classLink "KitchenSpitsLaw$Sim" (22 : Nat) "KitchenSpitsLaw$Roast") ∈ uW := uW_of 581 (by decide +kernel) rfl
theorem u_ins_X5 : (Jvm.Cond.instantiable "KitchenSpitsLaw$Roast" (7 : Nat)) ∈ uW := uW_of 583 (by decide +kernel) rfl
theorem u_im_X5_init : (Jvm.Cond.instanceMethod ({ cls := "KitchenSpitsLaw$Roast", name := "<init>", desc := "()V" } : Jvm.MethodName)) ∈ uW := uW_of 585 (by decide +kernel) rfl
theorem u_co_X5_init : (Jvm.Cond.code ({ cls := "KitchenSpitsLaw$Roast", name := "<init>", desc := "()V" } : Jvm.MethodName) prog_7_method_1_code (1 : Nat) (Option.none : Option Jvm.ClassFile.FieldType)) ∈ uW := uW_of 586 (by decide +kernel) rfl
theorem u_ml_X5_1 : (Jvm.Cond.methodLink "KitchenSpitsLaw$Roast" (1 : Nat) ({ cls := "java/lang/Object", name := "<init>", desc := "()V" } : Jvm.MethodName)) ∈ uW := uW_of 587 (by decide +kernel) rfl
theorem u_fl_X5_13 : (Jvm.Cond.fieldLink "KitchenSpitsLaw$Roast" (13 : Nat) "KitchenSpitsLaw$Roast" "pounds" "I") ∈ uW := uW_of 588 (by decide +kernel) rfl
theorem u_fl_X6_29 : (Jvm.Cond.fieldLink "KitchenSpitsLaw$Sim" (29 : Nat) "KitchenSpitsLaw$Roast" "pounds" "I") ∈ uW := uW_of 589 (by decide +kernel) rfl
theorem u_fl_X6_32 : (Jvm.Cond.fieldLink "KitchenSpitsLaw$Sim" (32 : Nat) "KitchenSpitsLaw$Roast" "spit" "I") ∈ uW := uW_of 590 (by decide +kernel) rfl
theorem u_fl_L_81 : (Jvm.Cond.fieldLink "KitchenSpitsLaw" (81 : Nat) "KitchenSpitsLaw$Roast" "spit" "I") ∈ uW := uW_of 591 (by decide +kernel) rfl
theorem u_fl_L_67 : (Jvm.Cond.fieldLink "KitchenSpitsLaw" (67 : Nat) "KitchenSpitsLaw$Roast" "side" "I") ∈ uW := uW_of 592 (by decide +kernel) rfl
theorem u_fl_X5_23 : (Jvm.Cond.fieldLink "KitchenSpitsLaw$Roast" (23 : Nat) "KitchenSpitsLaw$Roast" "side" "I") ∈ uW := uW_of 593 (by decide +kernel) rfl
theorem u_fl_X6_61 : (Jvm.Cond.fieldLink "KitchenSpitsLaw$Sim" (61 : Nat) "KitchenSpitsLaw$Roast" "side" "I") ∈ uW := uW_of 594 (by decide +kernel) rfl
theorem u_fl_X6_35 : (Jvm.Cond.fieldLink "KitchenSpitsLaw$Sim" (35 : Nat) "KitchenSpitsLaw$Roast" "fat" "I") ∈ uW := uW_of 595 (by decide +kernel) rfl
theorem u_fl_L_75 : (Jvm.Cond.fieldLink "KitchenSpitsLaw" (75 : Nat) "KitchenSpitsLaw$Roast" "wet" "I") ∈ uW := uW_of 596 (by decide +kernel) rfl
theorem u_fl_X5_17 : (Jvm.Cond.fieldLink "KitchenSpitsLaw$Roast" (17 : Nat) "KitchenSpitsLaw$Roast" "wet" "I") ∈ uW := uW_of 597 (by decide +kernel) rfl
theorem u_fl_X6_126 : (Jvm.Cond.fieldLink "KitchenSpitsLaw$Sim" (126 : Nat) "KitchenSpitsLaw$Roast" "wet" "I") ∈ uW := uW_of 598 (by decide +kernel) rfl
theorem u_fl_X5_20 : (Jvm.Cond.fieldLink "KitchenSpitsLaw$Roast" (20 : Nat) "KitchenSpitsLaw$Roast" "got" "I") ∈ uW := uW_of 599 (by decide +kernel) rfl
theorem u_fl_X6_58 : (Jvm.Cond.fieldLink "KitchenSpitsLaw$Sim" (58 : Nat) "KitchenSpitsLaw$Roast" "got" "I") ∈ uW := uW_of 600 (by decide +kernel) rfl
theorem u_fl_X5_7 : (Jvm.Cond.fieldLink "KitchenSpitsLaw$Roast" (7 : Nat) "KitchenSpitsLaw$Roast" "brown" "[I") ∈ uW := uW_of 601 (by decide +kernel) rfl
theorem u_fl_X6_138 : (Jvm.Cond.fieldLink "KitchenSpitsLaw$Sim" (138 : Nat) "KitchenSpitsLaw$Roast" "brown" "[I") ∈ uW := uW_of 602 (by decide +kernel) rfl
theorem u_ml_L_72 : (Jvm.Cond.methodLink "KitchenSpitsLaw" (72 : Nat) ({ cls := "KitchenSpits", name := "turnNow", desc := "(I)I" } : Jvm.MethodName)) ∈ uW := uW_of 618 (by decide +kernel) rfl
theorem u_im_X4_turnNow : (Jvm.Cond.instanceMethod ({ cls := "KitchenSpits", name := "turnNow", desc := "(I)I" } : Jvm.MethodName)) ∈ uW := uW_of 619 (by decide +kernel) rfl
theorem u_se_X4_turnNow : (Jvm.Cond.selects "KitchenSpits" ({ cls := "KitchenSpits", name := "turnNow", desc := "(I)I" } : Jvm.MethodName) ({ cls := "KitchenSpits", name := "turnNow", desc := "(I)I" } : Jvm.MethodName)) ∈ uW := uW_of 620 (by decide +kernel) rfl
theorem u_co_X4_turnNow : (Jvm.Cond.code ({ cls := "KitchenSpits", name := "turnNow", desc := "(I)I" } : Jvm.MethodName) prog_1_method_9_code (3 : Nat) (Option.some Jvm.ClassFile.FieldType.int)) ∈ uW := uW_of 621 (by decide +kernel) rfl
theorem u_ml_X4_90 : (Jvm.Cond.methodLink "KitchenSpits" (90 : Nat) ({ cls := "KitchenSpits", name := "needRoastOf", desc := "(LKitchenSpits$Spit;)LKitchenSpits$Roast;" } : Jvm.MethodName)) ∈ uW := uW_of 622 (by decide +kernel) rfl
theorem u_im_X4_needRoastOf : (Jvm.Cond.instanceMethod ({ cls := "KitchenSpits", name := "needRoastOf", desc := "(LKitchenSpits$Spit;)LKitchenSpits$Roast;" } : Jvm.MethodName)) ∈ uW := uW_of 624 (by decide +kernel) rfl
theorem u_co_X4_needRoastOf : (Jvm.Cond.code ({ cls := "KitchenSpits", name := "needRoastOf", desc := "(LKitchenSpits$Spit;)LKitchenSpits$Roast;" } : Jvm.MethodName) prog_1_method_45_code (3 : Nat) (Option.some (Jvm.ClassFile.FieldType.object "KitchenSpits$Roast"))) ∈ uW := uW_of 625 (by decide +kernel) rfl
theorem u_ml_X4_94 : (Jvm.Cond.methodLink "KitchenSpits" (94 : Nat) ({ cls := "KitchenSpits$Roast", name := "turn", desc := "()V" } : Jvm.MethodName)) ∈ uW := uW_of 627 (by decide +kernel) rfl
theorem u_ml_L_78 : (Jvm.Cond.methodLink "KitchenSpitsLaw" (78 : Nat) ({ cls := "KitchenSpits", name := "baste", desc := "(I)I" } : Jvm.MethodName)) ∈ uW := uW_of 628 (by decide +kernel) rfl
theorem u_im_X4_baste : (Jvm.Cond.instanceMethod ({ cls := "KitchenSpits", name := "baste", desc := "(I)I" } : Jvm.MethodName)) ∈ uW := uW_of 629 (by decide +kernel) rfl
theorem u_se_X4_baste : (Jvm.Cond.selects "KitchenSpits" ({ cls := "KitchenSpits", name := "baste", desc := "(I)I" } : Jvm.MethodName) ({ cls := "KitchenSpits", name := "baste", desc := "(I)I" } : Jvm.MethodName)) ∈ uW := uW_of 630 (by decide +kernel) rfl
theorem u_co_X4_baste : (Jvm.Cond.code ({ cls := "KitchenSpits", name := "baste", desc := "(I)I" } : Jvm.MethodName) prog_1_method_10_code (4 : Nat) (Option.some Jvm.ClassFile.FieldType.int)) ∈ uW := uW_of 631 (by decide +kernel) rfl
theorem u_ml_L_84 : (Jvm.Cond.methodLink "KitchenSpitsLaw" (84 : Nat) ({ cls := "KitchenSpits", name := "takeDown", desc := "(I)I" } : Jvm.MethodName)) ∈ uW := uW_of 633 (by decide +kernel) rfl
theorem u_im_X4_takeDown : (Jvm.Cond.instanceMethod ({ cls := "KitchenSpits", name := "takeDown", desc := "(I)I" } : Jvm.MethodName)) ∈ uW := uW_of 634 (by decide +kernel) rfl
theorem u_se_X4_takeDown : (Jvm.Cond.selects "KitchenSpits" ({ cls := "KitchenSpits", name := "takeDown", desc := "(I)I" } : Jvm.MethodName) ({ cls := "KitchenSpits", name := "takeDown", desc := "(I)I" } : Jvm.MethodName)) ∈ uW := uW_of 635 (by decide +kernel) rfl
theorem u_co_X4_takeDown : (Jvm.Cond.code ({ cls := "KitchenSpits", name := "takeDown", desc := "(I)I" } : Jvm.MethodName) prog_1_method_11_code (5 : Nat) (Option.some Jvm.ClassFile.FieldType.int)) ∈ uW := uW_of 636 (by decide +kernel) rfl
theorem u_ml_L_87 : (Jvm.Cond.methodLink "KitchenSpitsLaw" (87 : Nat) ({ cls := "KitchenSpits", name := "emptyPan", desc := "(I)I" } : Jvm.MethodName)) ∈ uW := uW_of 637 (by decide +kernel) rfl
theorem u_im_X4_emptyPan : (Jvm.Cond.instanceMethod ({ cls := "KitchenSpits", name := "emptyPan", desc := "(I)I" } : Jvm.MethodName)) ∈ uW := uW_of 638 (by decide +kernel) rfl
theorem u_se_X4_emptyPan : (Jvm.Cond.selects "KitchenSpits" ({ cls := "KitchenSpits", name := "emptyPan", desc := "(I)I" } : Jvm.MethodName) ({ cls := "KitchenSpits", name := "emptyPan", desc := "(I)I" } : Jvm.MethodName)) ∈ uW := uW_of 639 (by decide +kernel) rfl
theorem u_co_X4_emptyPan : (Jvm.Cond.code ({ cls := "KitchenSpits", name := "emptyPan", desc := "(I)I" } : Jvm.MethodName) prog_1_method_12_code (4 : Nat) (Option.some Jvm.ClassFile.FieldType.int)) ∈ uW := uW_of 640 (by decide +kernel) rfl
theorem u_ml_L_105 : (Jvm.Cond.methodLink "KitchenSpitsLaw" (105 : Nat) ({ cls := "KitchenSpitsLaw", name := "build", desc := "(LKitchenSpits;[I)LKitchenSpitsLaw$Sim;" } : Jvm.MethodName)) ∈ uW := uW_of 641 (by decide +kernel) rfl
theorem u_st_L_build : (Jvm.Cond.static ({ cls := "KitchenSpitsLaw", name := "build", desc := "(LKitchenSpits;[I)LKitchenSpitsLaw$Sim;" } : Jvm.MethodName)) ∈ uW := uW_of 642 (by decide +kernel) rfl
theorem u_co_L_build : (Jvm.Cond.code ({ cls := "KitchenSpitsLaw", name := "build", desc := "(LKitchenSpits;[I)LKitchenSpitsLaw$Sim;" } : Jvm.MethodName) method_5_code (5 : Nat) (Option.some (Jvm.ClassFile.FieldType.object "KitchenSpitsLaw$Sim"))) ∈ uW := uW_of 643 (by decide +kernel) rfl
theorem u_cl_L_10 : (Jvm.Cond.classLink "KitchenSpitsLaw" (10 : Nat) "KitchenSpitsLaw$Sim") ∈ uW := uW_of 644 (by decide +kernel) rfl
theorem u_ins_X6 : (Jvm.Cond.instantiable "KitchenSpitsLaw$Sim" (5 : Nat)) ∈ uW := uW_of 645 (by decide +kernel) rfl
theorem u_im_X6_init : (Jvm.Cond.instanceMethod ({ cls := "KitchenSpitsLaw$Sim", name := "<init>", desc := "()V" } : Jvm.MethodName)) ∈ uW := uW_of 647 (by decide +kernel) rfl
theorem u_co_X6_init : (Jvm.Cond.code ({ cls := "KitchenSpitsLaw$Sim", name := "<init>", desc := "()V" } : Jvm.MethodName) prog_8_method_1_code (1 : Nat) (Option.none : Option Jvm.ClassFile.FieldType)) ∈ uW := uW_of 648 (by decide +kernel) rfl
theorem u_ml_X6_1 : (Jvm.Cond.methodLink "KitchenSpitsLaw$Sim" (1 : Nat) ({ cls := "java/lang/Object", name := "<init>", desc := "()V" } : Jvm.MethodName)) ∈ uW := uW_of 649 (by decide +kernel) rfl
theorem u_fl_X6_39 : (Jvm.Cond.fieldLink "KitchenSpitsLaw$Sim" (39 : Nat) "KitchenSpitsLaw$Sim" "minute" "I") ∈ uW := uW_of 650 (by decide +kernel) rfl
theorem u_fl_X6_7 : (Jvm.Cond.fieldLink "KitchenSpitsLaw$Sim" (7 : Nat) "KitchenSpitsLaw$Sim" "feast" "I") ∈ uW := uW_of 651 (by decide +kernel) rfl
theorem u_fl_L_51 : (Jvm.Cond.fieldLink "KitchenSpitsLaw" (51 : Nat) "KitchenSpitsLaw$Sim" "feast" "I") ∈ uW := uW_of 652 (by decide +kernel) rfl
theorem u_fl_X6_15 : (Jvm.Cond.fieldLink "KitchenSpitsLaw$Sim" (15 : Nat) "KitchenSpitsLaw$Sim" "fires" "[[I") ∈ uW := uW_of 653 (by decide +kernel) rfl
theorem u_fl_L_9 : (Jvm.Cond.fieldLink "KitchenSpitsLaw" (9 : Nat) "KitchenSpitsLaw$Sim" "fires" "[[I") ∈ uW := uW_of 654 (by decide +kernel) rfl
theorem u_fl_X6_19 : (Jvm.Cond.fieldLink "KitchenSpitsLaw$Sim" (19 : Nat) "KitchenSpitsLaw$Sim" "spits" "[[I") ∈ uW := uW_of 655 (by decide +kernel) rfl
theorem u_fl_L_31 : (Jvm.Cond.fieldLink "KitchenSpitsLaw" (31 : Nat) "KitchenSpitsLaw$Sim" "spits" "[[I") ∈ uW := uW_of 656 (by decide +kernel) rfl
theorem u_fl_X6_24 : (Jvm.Cond.fieldLink "KitchenSpitsLaw$Sim" (24 : Nat) "KitchenSpitsLaw$Sim" "roasts" "[LKitchenSpitsLaw$Roast;") ∈ uW := uW_of 657 (by decide +kernel) rfl
theorem u_fl_L_59 : (Jvm.Cond.fieldLink "KitchenSpitsLaw" (59 : Nat) "KitchenSpitsLaw$Sim" "roasts" "[LKitchenSpitsLaw$Roast;") ∈ uW := uW_of 658 (by decide +kernel) rfl
theorem u_ml_L_165 : (Jvm.Cond.methodLink "KitchenSpitsLaw" (165 : Nat) ({ cls := "java/lang/Math", name := "max", desc := "(II)I" } : Jvm.MethodName)) ∈ uW := uW_of 670 (by decide +kernel) rfl
theorem u_cl_L_113 : (Jvm.Cond.classLink "KitchenSpitsLaw" (113 : Nat) "[[I") ∈ uW := uW_of 671 (by decide +kernel) rfl
theorem u_ac_boolean : (Jvm.Cond.arrayClass Jvm.ClassFile.FieldType.boolean) ∈ uW := uW_of 672 (by decide +kernel) rfl
end
section
/-! THE WORLD: cells by number. 0: the class's object; 1..45, 46..90: its two kitchens; 91: the law's kitchen, 92..94 its rows, 95.. fires, 98.. spits, 104 + 2 * i a roast, behind it its sides; 136: the law's row of rows, 137.. its rows, 153..161: rows of numbers; 162, 163: rows being made. Which of them are there: L; where: ad (and ad (1000 + k): how long row k is); their numbers: Kp. -/
abbrev Kp : Type := Nat → Nat → Int32
abbrev Gt : Type := (va_G × List Nat) × (Nat → ClassId) × (Nat → Nat)
abbrev Qr (f : Nat → Option Nat) : (Nat → Int32) ⊕ (Nat → Int64) ⊕ (Nat → UInt32) ⊕ (Nat → UInt64) ⊕ (Nat → Option Nat) := .inr (.inr (.inr (.inr f)))
def up2 (κ : Kp) (k j : Nat) (v : Int32) : Kp := va_up κ k (va_up (κ k) j v)
theorem up2_at (κ : Kp) (k j : Nat) (v : Int32) (q i : Nat) : up2 κ k j v q i = if q = k ∧ i = j then v else κ q i := by
  unfold up2 va_up
  by_cases h1 : q = k
  · subst h1
    by_cases h2 : i = j
    · simp [h2]
    · simp [h2]
  · simp [h1]
theorem up2_self (κ : Kp) (k j : Nat) (v : Int32) : up2 κ k j v k j = v := by rw [up2_at]; simp
theorem up2_ne (κ : Kp) {k j : Nat} (v : Int32) {q i : Nat} (h : q ≠ k ∨ i ≠ j) : up2 κ k j v q i = κ q i := by
  rw [up2_at, if_neg]
  rintro ⟨a, b⟩
  rcases h with h | h
  · exact h a
  · exact h b
theorem up2_row {κ : Kp} {k j : Nat} {v : Int32} {q : Nat} (h : ¬ q = k) : up2 κ k j v q = κ q := by
  funext i
  exact up2_ne κ v (Or.inl h)
/-- the kind of a cell -/
def kdL : List Nat := [4] ++ [1, 7, 8, 9, 0, 0, 0, 3, 3, 3, 3, 3, 3, 2, 6, 2, 6, 2, 6, 2, 6, 2, 6, 2, 6, 2, 6, 2, 6, 2, 6, 2, 6, 2, 6, 2, 6, 2, 6, 2, 6, 2, 6, 2, 6] ++ [1, 7, 8, 9, 0, 0, 0, 3, 3, 3, 3, 3, 3, 2, 6, 2, 6, 2, 6, 2, 6, 2, 6, 2, 6, 2, 6, 2, 6, 2, 6, 2, 6, 2, 6, 2, 6, 2, 6, 2, 6, 2, 6, 2, 6] ++ [15, 16, 17, 18, 19, 19, 19, 20, 20, 20, 20, 20, 20, 21, 27, 21, 27, 21, 27, 21, 27, 21, 27, 21, 27, 21, 27, 21, 27, 21, 27, 21, 27, 21, 27, 21, 27, 21, 27, 21, 27, 21, 27, 21, 27, 22, 27, 27, 27, 27, 27, 27, 27, 27, 27, 27, 27, 27, 27, 27, 27, 27, 23, 23, 23, 24, 23, 23, 23, 23, 23, 25, 26]
def kd (k : Nat) : Nat := kdL.getD k 99
theorem kd_lt0 : ∀ k, k < 164 → kd k < 15 → k < 91 := by decide +kernel
theorem kd_out {k : Nat} (h : 164 ≤ k) : kd k = 99 := by
  unfold kd
  rw [List.getD_eq_getElem?_getD, List.getElem?_eq_none (by simpa [kdL] using h)]
  rfl
theorem kd_lt {k n : Nat} (h : kd k = n) (hn : n < 15) : k < 91 := by
  rcases Nat.lt_or_ge k 164 with q | q
  · exact kd_lt0 k q (by omega)
  · have := kd_out q
    omega
theorem kd_164 {k n : Nat} (h : kd k = n) (hn : n < 99) : k < 164 := by
  rcases Nat.lt_or_ge k 164 with q | q
  · exact q
  · have := kd_out q
    omega
/-- what a cell holds, by its kind -/
def sh (c : Nat → ClassId) (ad : Nat → Nat) (k : Nat) (r : Nat → Int32) : va_E := match kd k with
  | 0 => .inr (0, [.int (r 0), .int (r 1), .int (r 2)])
  | 1 => .inr (1, [.ref (ad (k + 1)), .ref (ad (k + 2)), .ref (ad (k + 3)), .int (r 3), .int (r 4), .int (r 5), .int (r 6), .int (r 7)])
  | 2 => .inr (2, [.ref (ad (k + 1)), .int (r 1), .int (r 2), .int (r 3), .int (r 4), .int (r 5)])
  | 3 => .inr (3, [.int (r 0), .int (r 1), .int (r 2), .int (r 3), .int (r 4), .int (r 5)])
  | 4 => .inr (4, [.ref (ad (k + 1)), .ref (ad (k + 46))])
  | 6 => .inl (c 0, 4, .inl r)
  | 7 => .inl (c 2, 3, Qr (fun i => if i < 3 then some (ad (k + 3 + i)) else none))
  | 8 => .inl (c 3, 6, Qr (fun i => if i < 6 then some (ad (k + 5 + i)) else none))
  | 9 => .inl (c 4, 16, Qr (fun i => if i < 16 then some (ad (k + 10 + 2 * i)) else none))
  | 15 => .inr (6, [.int (r 0), .int (r 1), .ref (ad (k + 1)), .ref (ad (k + 2)), .ref (ad (k + 3))])
  | 16 => .inl (c 1, ad (1000 + k), Qr (fun i => if i < ad (1000 + k) then some (ad (k + 3 + i)) else none))
  | 17 => .inl (c 1, ad (1000 + k), Qr (fun i => if i < ad (1000 + k) then some (ad (k + 5 + i)) else none))
  | 18 => .inl (c 5, ad (1000 + k), Qr (fun i => if i < ad (1000 + k) then some (ad (k + 10 + 2 * i)) else none))
  | 19 => .inl (c 0, 2, .inl r)
  | 20 => .inl (c 0, 6, .inl r)
  | 21 => .inr (5, [.int (r 0), .int (r 1), .int (r 2), .int (r 3), .int (r 4), .int (r 5), .ref (ad (k + 1))])
  | 22 => .inl (c 1, ad (1000 + k), Qr (fun i => if i < ad (1000 + k) then some (ad (k + 1 + i)) else none))
  | 23 => .inl (c 0, ad (1000 + k), .inl r)
  | 24 => .inl (c 6, ad (1000 + k), .inl r)
  | 25 => .inl (c 5, ad (1000 + k), Qr (fun i => if i < (r 0).toNatClampNeg then some (ad (104 + 2 * i)) else none))
  | 26 => .inl (c 1, ad (1000 + k), Qr (fun i => if i < (r 0).toNatClampNeg then some (ad ((r 1).toNatClampNeg + i)) else none))
  | 27 => .inl (c 0, 4, .inl r)
  | _ => .inl (c 0, 0, .inl r)
section SH
variable {c : Nat → ClassId} {ad : Nat → Nat} {k : Nat} {r : Nat → Int32}
theorem sh0 (h : kd k = 0) : sh c ad k r = .inr (0, [.int (r 0), .int (r 1), .int (r 2)]) := by unfold sh; rw [h]; rfl
theorem sh1 (h : kd k = 1) : sh c ad k r = .inr (1, [.ref (ad (k + 1)), .ref (ad (k + 2)), .ref (ad (k + 3)), .int (r 3), .int (r 4), .int (r 5), .int (r 6), .int (r 7)]) := by unfold sh; rw [h]; rfl
theorem sh2 (h : kd k = 2) : sh c ad k r = .inr (2, [.ref (ad (k + 1)), .int (r 1), .int (r 2), .int (r 3), .int (r 4), .int (r 5)]) := by unfold sh; rw [h]; rfl
theorem sh3 (h : kd k = 3) : sh c ad k r = .inr (3, [.int (r 0), .int (r 1), .int (r 2), .int (r 3), .int (r 4), .int (r 5)]) := by unfold sh; rw [h]; rfl
theorem sh4 (h : kd k = 4) : sh c ad k r = .inr (4, [.ref (ad (k + 1)), .ref (ad (k + 46))]) := by unfold sh; rw [h]; rfl
theorem sh6 (h : kd k = 6) : sh c ad k r = .inl (c 0, 4, .inl r) := by unfold sh; rw [h]; rfl
theorem sh7 (h : kd k = 7) : sh c ad k r = .inl (c 2, 3, Qr (fun i => if i < 3 then some (ad (k + 3 + i)) else none)) := by unfold sh; rw [h]; rfl
theorem sh8 (h : kd k = 8) : sh c ad k r = .inl (c 3, 6, Qr (fun i => if i < 6 then some (ad (k + 5 + i)) else none)) := by unfold sh; rw [h]; rfl
theorem sh9 (h : kd k = 9) : sh c ad k r = .inl (c 4, 16, Qr (fun i => if i < 16 then some (ad (k + 10 + 2 * i)) else none)) := by unfold sh; rw [h]; rfl
theorem sh15 (h : kd k = 15) : sh c ad k r = .inr (6, [.int (r 0), .int (r 1), .ref (ad (k + 1)), .ref (ad (k + 2)), .ref (ad (k + 3))]) := by unfold sh; rw [h]; rfl
theorem sh16 (h : kd k = 16) : sh c ad k r = .inl (c 1, ad (1000 + k), Qr (fun i => if i < ad (1000 + k) then some (ad (k + 3 + i)) else none)) := by unfold sh; rw [h]; rfl
theorem sh17 (h : kd k = 17) : sh c ad k r = .inl (c 1, ad (1000 + k), Qr (fun i => if i < ad (1000 + k) then some (ad (k + 5 + i)) else none)) := by unfold sh; rw [h]; rfl
theorem sh18 (h : kd k = 18) : sh c ad k r = .inl (c 5, ad (1000 + k), Qr (fun i => if i < ad (1000 + k) then some (ad (k + 10 + 2 * i)) else none)) := by unfold sh; rw [h]; rfl
theorem sh19 (h : kd k = 19) : sh c ad k r = .inl (c 0, 2, .inl r) := by unfold sh; rw [h]; rfl
theorem sh20 (h : kd k = 20) : sh c ad k r = .inl (c 0, 6, .inl r) := by unfold sh; rw [h]; rfl
theorem sh21 (h : kd k = 21) : sh c ad k r = .inr (5, [.int (r 0), .int (r 1), .int (r 2), .int (r 3), .int (r 4), .int (r 5), .ref (ad (k + 1))]) := by unfold sh; rw [h]; rfl
theorem sh22 (h : kd k = 22) : sh c ad k r = .inl (c 1, ad (1000 + k), Qr (fun i => if i < ad (1000 + k) then some (ad (k + 1 + i)) else none)) := by unfold sh; rw [h]; rfl
theorem sh23 (h : kd k = 23) : sh c ad k r = .inl (c 0, ad (1000 + k), .inl r) := by unfold sh; rw [h]; rfl
theorem sh24 (h : kd k = 24) : sh c ad k r = .inl (c 6, ad (1000 + k), .inl r) := by unfold sh; rw [h]; rfl
theorem sh25 (h : kd k = 25) : sh c ad k r = .inl (c 5, ad (1000 + k), Qr (fun i => if i < (r 0).toNatClampNeg then some (ad (104 + 2 * i)) else none)) := by unfold sh; rw [h]; rfl
theorem sh26 (h : kd k = 26) : sh c ad k r = .inl (c 1, ad (1000 + k), Qr (fun i => if i < (r 0).toNatClampNeg then some (ad ((r 1).toNatClampNeg + i)) else none)) := by unfold sh; rw [h]; rfl
theorem sh27 (h : kd k = 27) : sh c ad k r = .inl (c 0, 4, .inl r) := by unfold sh; rw [h]; rfl
end SH
/-- the kinds of a kitchen's parts -/
theorem kd_kit : ∀ k, k < 91 → kd k = 1 → kd (k + 1) = 7 ∧ kd (k + 2) = 8 ∧ kd (k + 3) = 9 ∧ (∀ i, i < 3 → kd (k + 4 + i) = 0) ∧ (∀ i, i < 6 → kd (k + 7 + i) = 3) ∧ (∀ i, i < 16 → kd (k + 13 + 2 * i) = 2) ∧ (k = 1 ∨ k = 46) := by decide +kernel
theorem kd_roast : ∀ k, k < 91 → kd k = 2 → kd (k + 1) = 6 := by decide +kernel
section KD
variable {k i : Nat}
theorem kd1_7 (h : kd k = 1) : kd (k + 1) = 7 := (kd_kit k (kd_lt h (by decide)) h).1
theorem kd1_8 (h : kd k = 1) : kd (k + 2) = 8 := (kd_kit k (kd_lt h (by decide)) h).2.1
theorem kd1_9 (h : kd k = 1) : kd (k + 3) = 9 := (kd_kit k (kd_lt h (by decide)) h).2.2.1
theorem kd1_0 (h : kd k = 1) (hi : i < 3) : kd (k + 4 + i) = 0 := (kd_kit k (kd_lt h (by decide)) h).2.2.2.1 i hi
theorem kd1_3 (h : kd k = 1) (hi : i < 6) : kd (k + 7 + i) = 3 := (kd_kit k (kd_lt h (by decide)) h).2.2.2.2.1 i hi
theorem kd1_2 (h : kd k = 1) (hi : i < 16) : kd (k + 13 + 2 * i) = 2 := (kd_kit k (kd_lt h (by decide)) h).2.2.2.2.2.1 i hi
theorem kd1_or (h : kd k = 1) : k = 1 ∨ k = 46 := (kd_kit k (kd_lt h (by decide)) h).2.2.2.2.2.2
theorem kd2_6 (h : kd k = 2) : kd (k + 1) = 6 := kd_roast k (kd_lt h (by decide)) h
end KD
theorem kd_0 : kd 0 = 4 := by decide
theorem kd_1 : kd 1 = 1 := by decide
theorem kd_46 : kd 46 = 1 := by decide
theorem kd_91 : kd 91 = 15 := by decide
theorem kd_92 : kd 92 = 16 := by decide
theorem kd_93 : kd 93 = 17 := by decide
theorem kd_94 : kd 94 = 18 := by decide
theorem kd_136 : kd 136 = 22 := by decide
theorem kd_156 : kd 156 = 24 := by decide
theorem kd_162 : kd 162 = 25 := by decide
theorem kd_163 : kd 163 = 26 := by decide
theorem kdF : ∀ i, i < 3 → kd (95 + i) = 19 := by decide +kernel
theorem kdS : ∀ i, i < 6 → kd (98 + i) = 20 := by decide +kernel
theorem kdR : ∀ i, i < 16 → kd (104 + 2 * i) = 21 ∧ kd (104 + 2 * i + 1) = 27 := by decide +kernel
theorem kdB : ∀ i, i < 16 → kd (137 + i) = 27 := by decide +kernel
theorem kd21_27 {k : Nat} (h : kd k = 21) : kd (k + 1) = 27 := by
  have h1 : ∀ k, k < 164 → kd k = 21 → kd (k + 1) = 27 := by decide +kernel
  exact h1 k (kd_164 h (by decide)) h
/-- the cells that are there, each where it is -/
def wl (c : Nat → ClassId) (ad : Nat → Nat) (L : List Nat) (κ : Kp) : va_W := L.map fun k => (ad k, sh c ad k (κ k))
theorem ix_ne {a k : Nat} {t : List Nat} (e : ¬ a = k) : (a :: t).idxOf k = t.idxOf k + 1 := by
  have h : (a == k) = false := by simp [e]
  rw [List.idxOf_cons, h]; rfl
theorem ix_get {L : List Nat} {k : Nat} (h : k ∈ L) : L[L.idxOf k]? = some k := by
  induction L with
  | nil => cases h
  | cons a t ih =>
    by_cases e : a = k
    · subst e
      rw [List.idxOf_cons_self]; rfl
    · have ht : k ∈ t := by
        rcases List.mem_cons.mp h with q | q
        · exact absurd q.symm e
        · exact q
      rw [ix_ne e]
      exact ih ht
section WL
variable {c : Nat → ClassId} {ad : Nat → Nat} {L : List Nat} {κ : Kp} {k : Nat}
theorem wl_get (h : k ∈ L) : (wl c ad L κ)[L.idxOf k]? = some (ad k, sh c ad k (κ k)) := by
  unfold wl
  rw [List.getElem?_map, ix_get h]; rfl
theorem wl_lt {i : Nat} {q : Nat × va_E} (h : (wl c ad L κ)[i]? = some q) : ∃ k, L[i]? = some k ∧ q = (ad k, sh c ad k (κ k)) := by
  unfold wl at h
  rw [List.getElem?_map, Option.map_eq_some_iff] at h
  obtain ⟨k, h1, h2⟩ := h
  exact ⟨k, h1, h2.symm⟩
theorem wl_set (r : Nat → Int32) (hn : L.Nodup) (hk : k ∈ L) : (wl c ad L κ).set (L.idxOf k) (ad k, sh c ad k r) = wl c ad L (va_up κ k r) := by
  induction L with
  | nil => cases hk
  | cons a t ih =>
    obtain ⟨hn1, hn2⟩ := List.nodup_cons.mp hn
    by_cases e : a = k
    · subst e
      rw [List.idxOf_cons_self]
      show (ad a, sh c ad a r) :: wl c ad t κ = (ad a, sh c ad a (va_up κ a r a)) :: wl c ad t (va_up κ a r)
      rw [va_up_self]
      congr 1
      apply List.map_congr_left
      intro q hq
      rw [va_up_ne κ r (fun z : q = a => hn1 (by rw [← z]; exact hq))]
    · have ht : k ∈ t := by
        rcases List.mem_cons.mp hk with q | q
        · exact absurd q.symm e
        · exact q
      rw [ix_ne e]
      show (ad a, sh c ad a (κ a)) :: (wl c ad t κ).set (t.idxOf k) (ad k, sh c ad k r) = (ad a, sh c ad a (va_up κ k r a)) :: wl c ad t (va_up κ k r)
      rw [ih hn2 ht, va_up_ne κ r e]
end WL
/-- the cells' addresses: apart, in A; the class's cells are there -/
def Gok (A : Nat → Prop) (L : List Nat) (ad : Nat → Nat) : Prop := L.Nodup ∧ (∀ i ∈ L, ∀ j ∈ L, ad i = ad j → i = j) ∧ (∀ k ∈ L, A (ad k)) ∧ (∀ k, k < 91 → k ∈ L) ∧ (∀ k ∈ L, k < 164)
theorem Gok.to {A B : Nat → Prop} {L : List Nat} {ad : Nat → Nat} (h : Gok A L ad) (hB : ∀ k ∈ L, B (ad k)) : Gok B L ad := ⟨h.1, h.2.1, hB, h.2.2.2⟩
theorem wl_D {A : Nat → Prop} {c : Nat → ClassId} {L : List Nat} {ad : Nat → Nat} (h : Gok A L ad) (κ : Kp) : va_D A (wl c ad L κ) := by
  refine ⟨fun i j p q h1 h2 e => ?_, fun k q h1 => ?_⟩
  · obtain ⟨a, a1, rfl⟩ := wl_lt h1
    obtain ⟨b, b1, rfl⟩ := wl_lt h2
    have hab : a = b := h.2.1 a (List.mem_of_getElem? a1) b (List.mem_of_getElem? b1) e
    subst hab
    obtain ⟨i1, i2⟩ := List.getElem?_eq_some_iff.mp a1
    obtain ⟨j1, j2⟩ := List.getElem?_eq_some_iff.mp b1
    rcases Nat.lt_trichotomy i j with q | q | q
    · exact absurd (i2.trans j2.symm) (List.pairwise_iff_getElem.mp h.1 i j i1 j1 q)
    · exact q
    · exact absurd (j2.trans i2.symm) (List.pairwise_iff_getElem.mp h.1 j i j1 i1 q)
  · obtain ⟨a, a1, rfl⟩ := wl_lt h1
    exact h.2.2.1 a (List.mem_of_getElem? a1)
def fr (g : Gt) (sz : Nat) : Nat → Prop := fun q => (∃ k, k ∈ g.1.2 ∧ q = g.2.2 k) ∨ sz ≤ q
def tyl (c : Nat → ClassId) : List (ClassId × FieldType) := [(c 0, .int), (c 1, .array .int), (c 2, .object "KitchenSpits$Fire"), (c 3, .object "KitchenSpits$Spit"), (c 4, .object "KitchenSpits$Roast"), (c 5, .object "KitchenSpitsLaw$Roast"), (c 6, .boolean)]
def nISE : String := "java/lang/IllegalStateException"
def nIAE : String := "java/lang/IllegalArgumentException"
def nIOE : String := "java/lang/IndexOutOfBoundsException"
/-- words of the tables that aren't good ones, but hold through calls all the same -/
def nwl : List Cond := [.castable nISE nISE, .castable nIAE nIAE, .castable nIOE nIOE, .declares ⟨"java/lang/RuntimeException", "<init>", "(Ljava/lang/String;)V"⟩, .declares ⟨"java/lang/Exception", "<init>", "(Ljava/lang/String;)V"⟩, .declares ⟨"java/lang/Throwable", "<init>", "(Ljava/lang/String;)V"⟩]
theorem nwl_warm {w : Cond} (h : w ∈ nwl) {s U : State} (hW : s.WarmedH U.vm) (hz : va_Nw w s) : va_Nw w U := by
  simp only [nwl, List.mem_cons, List.not_mem_nil, or_false] at h
  rcases h with rfl | rfl | rfl | rfl | rfl | rfl
  · exact va_Nw.warmC hW hz
  · exact va_Nw.warmC hW hz
  · exact va_Nw.warmC hW hz
  · exact va_Nw.warmD hW hz
  · exact va_Nw.warmD hW hz
  · exact va_Nw.warmD hW hz
theorem nwl_tab {w : Cond} (h : w ∈ nwl) : w.onTables = true := by
  simp only [nwl, List.mem_cons, List.not_mem_nil, or_false] at h
  rcases h with rfl | rfl | rfl | rfl | rfl | rfl <;> rfl
def strl : List (Nat × String) := [(25, "there are 3 fires"), (213, "there is no such fire"), (36, "logs is not 1 to 40"), (227, "feet is not 1 to 3"), (58, "there are 6 spits"), (218, "there is no such spit"), (69, "minutes is not 0 to 9"), (77, "minute is not 0 to 5000"), (229, "pounds is not 1 to 12"), (88, "the spit has a roast, or 16 roasts were hung already"), (225, "the spit has no roast"), (105, "the pan has less than 2 drippings"), (116, "minutes is not 1 to 200"), (223, "there is no such roast"), (157, "side is not 0 to 3")]
/-- what the law's own making of things stands on -/
def EnvL (U : State) : Prop := va_AOA .int U ∧ va_AO "KitchenSpitsLaw$Roast" U ∧ va_Nw (.methodLinkNest RX6 28 yX5_init "KitchenSpitsLaw") U ∧ va_Nw (.methodLinkNest RL 95 yX6_init "KitchenSpitsLaw") U
theorem EnvL.warm {s U : State} (hW : s.WarmedH U.vm) (h : EnvL s) : EnvL U := ⟨va_AOA.moved hW.alike h.1, va_AO.moved hW.alike h.2.1, va_Nw.warmM hW h.2.2.1, va_Nw.warmM hW h.2.2.2⟩
theorem EnvL.same {s U : State} (e : s.vm = U.vm) (h : EnvL s) : EnvL U := by
  have hal : s.vm.Alike U.vm := by rw [e]; exact Vm.Alike.refl _
  exact ⟨va_AOA.moved hal h.1, va_AO.moved hal h.2.1, va_Nw.same rfl e h.2.2.1, va_Nw.same rfl e h.2.2.2⟩
/-- what holds besides the cells: what a throw needs, and what the law needs -/
def Env0 (U : State) : Prop := (∀ w ∈ nwl, va_Nw w U) ∧ (∀ q ∈ strl, ∃ a, vk_R RX4 q.1 q.2 a U) ∧ va_Nc nIAE nIOE U ∧ va_Nc nISE nIOE U ∧ va_Nc nISE nIAE U ∧ EnvL U
def Zs (A : Nat → Prop) (U : State) (H : Heap) : Prop := vx_Zq Bundle.tN "UNASSIGNED_STACK" Bundle.steD A U H ∧ vx_Zq Bundle.tN "SUPPRESSED_SENTINEL" Bundle.listD A U H
def Ec (D : va_G) (cA : Nat → ClassId) (U : State) : Prop := va_K D vwCl (tyl cA) U ∧ Env0 U
def Env1 (g : Gt) (U : State) : Prop := Ec g.1.1 g.2.1 U ∧ Gok (fr g U.heap.size) g.1.2 g.2.2 ∧ Zs (fr g U.heap.size) U U.heap
def Wp (g : Gt) (κ : Kp) (U : State) : Prop := va_P g.1.1 vwCl (wl g.2.1 g.2.2 g.1.2 κ) U.heap
def Wd (g : Gt) (κ : Kp) (U : State) : Prop := Wp g κ U ∧ Env1 g U
theorem Env0.warm {s U : State} (hW : s.WarmedH U.vm) (h : Env0 s) : Env0 U :=
  ⟨fun w hw => nwl_warm hw hW (h.1 w hw), fun q hq => by obtain ⟨a, ha⟩ := h.2.1 q hq; exact ⟨a, vk_R.warm hW ha⟩, va_Nc.moved hW.alike h.2.2.1, va_Nc.moved hW.alike h.2.2.2.1, va_Nc.moved hW.alike h.2.2.2.2.1, h.2.2.2.2.2.warm hW⟩
theorem Env0.same {s U : State} (e : s.vm = U.vm) (h : Env0 s) : Env0 U :=
  ⟨fun w hw => va_Nw.same (nwl_tab hw) e (h.1 w hw), fun q hq => by obtain ⟨a, ha⟩ := h.2.1 q hq; exact ⟨a, vk_R.same e.symm ha⟩, va_Nc.moved (by rw [e]; exact Vm.Alike.refl _) h.2.2.1, va_Nc.moved (by rw [e]; exact Vm.Alike.refl _) h.2.2.2.1, va_Nc.moved (by rw [e]; exact Vm.Alike.refl _) h.2.2.2.2.1, h.2.2.2.2.2.same e⟩
theorem Ec.warm {D : va_G} {cA : Nat → ClassId} {s U : State} (hW : s.WarmedH U.vm) (h : Ec D cA s) : Ec D cA U := ⟨va_K.moved hW.alike h.1, h.2.warm hW⟩
theorem Wd.blind {g : Gt} {κ : Kp} {U : State} (a : Array Value) (f : JFrame) (mk : MethodId) (h : Wd g κ U) : Wd g κ (U.calling f mk a) := by
  obtain ⟨h1, ⟨hK, h0⟩, hi, hz⟩ := h
  have hal : U.vm.Alike (U.calling f mk a).vm := Vm.Alike.refl U.vm
  refine ⟨h1, ⟨va_K.moved hal hK, Env0.same (s := U) (U := U.calling f mk a) rfl h0⟩, hi, vx_Zq.moved hal hz.1, vx_Zq.moved hal hz.2⟩
/-- in a method: the cells now, and what has been written since its start -/
def Wa (A : Nat → Prop) (D : va_G) (cA : Nat → ClassId) (L : List Nat) (ad : Nat → Nat) (s : State) (κ : Kp) (H : Heap) (locs : List Loc) : Prop := va_P D vwCl (wl cA ad L κ) H ∧ va_S A s.heap H locs ∧ Gok A L ad ∧ ∀ q, s.heap.size ≤ q → A q
abbrev Ws (g : Gt) (s : State) (κ : Kp) (H : Heap) (locs : List Loc) : Prop := Wa (fr g s.heap.size) g.1.1 g.2.1 g.1.2 g.2.2 s κ H locs
def Ma (A : Nat → Prop) (D : va_G) (cA : Nat → ClassId) (p : Program) (s : State) (m : MethodId) (args : Array Value) (meth : Method) (c : Code) (cc : ByteArray) (nL : Nat) (own : String) : Prop :=
  CallFix p m c cc nL s args uW own ∧ Ec D cA s ∧ Zs A s s.heap ∧ meth.locks = false
abbrev Mc (g : Gt) (p : Program) (s : State) (m : MethodId) (args : Array Value) (meth : Method) (c : Code) (cc : ByteArray) (nL : Nat) (own : String) : Prop := Ma (fr g s.heap.size) g.1.1 g.2.1 p s m args meth c cc nL own
section WAM
variable {p : Program} {s U : State} {m : MethodId} {args : Array Value} {meth : Method} {c : Code} {H : Heap} {locs : List Loc}
variable {cc : ByteArray} {nL k n : Nat} {A : Nat → Prop} {D : va_G} {cA : Nat → ClassId} {L : List Nat} {ad : Nat → Nat} {κ : Kp} {own : String}
theorem Wa.dm (hw : Wa A D cA L ad s κ H locs) (h : kd k = n) (hn : n < 15) : k ∈ L := hw.2.2.1.2.2.2.1 k (kd_lt h hn)
theorem Wa.dd (hw : Wa A D cA L ad s κ H locs) : va_D A (wl cA ad L κ) := wl_D hw.2.2.1 κ
theorem fr_lt (hw : Wa A D cA L ad s κ H locs) : ∀ q, fr ((D, L), cA, ad) H.size q → A q := by
  intro q h
  rcases h with ⟨k, hk, rfl⟩ | h
  · exact hw.2.2.1.2.2.1 k hk
  · exact hw.2.2.2 q (Nat.le_trans hw.2.1.1 h)
theorem Wd.warm (hM : Ma A D cA p s m args meth c cc nL own) (hw : Wa A D cA L ad s κ H locs) (hU : U.heap = H) (hW : s.WarmedH U.vm) : Wd ((D, L), cA, ad) κ U := by
  have hA := fr_lt hw
  refine ⟨by show va_P _ _ _ U.heap; rw [hU]; exact hw.1, hM.2.1.warm hW, hw.2.2.1.to (fun k hk => Or.inl ⟨k, hk, rfl⟩), ?_, ?_⟩
  · rw [hU]
    exact (vx_Zq.moved hW.alike (hM.2.2.1.1.kept hw.2.1.2.1)).narrow hA
  · rw [hU]
    exact (vx_Zq.moved hW.alike (hM.2.2.1.2.kept hw.2.1.2.1)).narrow hA
theorem Ma.x (hM : Ma A D cA p s m args meth c cc nL own) : p.tables.exec = Jvm.exec := hM.1.1
theorem Ma.b (hM : Ma A D cA p s m args meth c cc nL own) : c.code = cc := hM.1.2.1
theorem Ma.ml (hM : Ma A D cA p s m args meth c cc nL own) : c.maxLocals = nL := hM.1.2.2.1
theorem Ma.ow (hM : Ma A D cA p s m args meth c cc nL own) : s.vm.findClass own = some m.cls := hM.1.2.2.2.1
theorem Ma.ts (hM : Ma A D cA p s m args meth c cc nL own) : ∀ w ∈ uW, w.before args s = true := hM.1.2.2.2.2
theorem Ma.K (hM : Ma A D cA p s m args meth c cc nL own) : va_K D vwCl (tyl cA) s := hM.2.1.1
end WAM
def PRE (g : Gt) (κ : Kp) (sz : Nat) (av : List Value) : Array Value → State → Prop := va_Pc av (fun U => U.heap.size = sz ∧ Wd g κ U)
theorem PRE.blind {g : Gt} {κ : Kp} {sz : Nat} {av : List Value} : FrameBlind (PRE g κ sz av) := fun a U f mk h => ⟨h.1, h.2.1, h.2.2.blind a f mk⟩
def bi (b : Bool) : Int32 := if b then 1 else 0
theorem bi_narrow (b : Bool) : narrow .boolean (.int (bi b)) = .int (bi b) := by cases b <;> rfl
end
section
section KR
variable {p : Program} {l : Launch} {e : Env} {R : Room} {s : State} {m : MethodId} {args : Array Value} {below : List Frame} {meth : Method} {c : Code} {H : Heap} {locs : List Loc} {cells slots : Nat} {Q : State → Prop}
variable {cc : ByteArray} {pc nL : Nat} {ls : Array Slot} {rest : List Value} {A : Nat → Prop} {D : va_G} {cA : Nat → ClassId} {L : List Nat} {ad : Nat → Nat} {κ : Kp} {own : String}
/-- a number field of a cell -/
theorem k_get {ci idx : Nat} {C : String} {T : u_T} {N k : Nat} {fs : List Value} {v : Value} (hM : Ma A D cA p s m args meth c cc nL own) (hw : Wa A D cA L ad s κ H locs) (hk : k ∈ L) (hsh : sh cA ad k (κ k) = .inr (ci, fs)) (hc : vwCl[ci]? = some (C, T, N)) (hin : ∀ w ∈ u_ws C T N, w ∈ uW) (j : Nat) (hj : j < N)
    (hlink : Cond.fieldLink own idx (T j).1 (T j).2.1 (T j).2.2.1 ∈ uW) (hv : fs[j]? = some v) (hdg : decode cc pc = .ok (.getfield idx, 3))
    (kk : W p l e R s m args below meth c H locs cells slots Q (F0 m (pc + 3) ls (v :: rest))) : W p l e R s m args below meth c H locs cells slots Q (F0 m pc ls (.ref (ad k) :: rest)) :=
  va_get hM.x hM.b hM.ts hin hM.ow hM.K hw.1 (L.idxOf k) (by rw [wl_get hk, hsh]) hc j hj (hM.ts _ hlink) (fun _ h => h) hv hdg kk
theorem k_put {ci idx : Nat} {C : String} {T : u_T} {N k : Nat} {fs : List Value} {x : Int32} (hM : Ma A D cA p s m args meth c cc nL own) (hw : Wa A D cA L ad s κ H locs) (hk : k ∈ L) (hsh : sh cA ad k (κ k) = .inr (ci, fs)) (hc : vwCl[ci]? = some (C, T, N)) (hin : ∀ w ∈ u_ws C T N, w ∈ uW) (ty0 : Nat → FieldType) (hty : ∀ k, k < N → parseFieldDescriptor (T k).2.2.1 = some (ty0 k)) (hnm : ∀ a, a < N → ∀ b, b < N → a ≠ b → (T a).2.1 ≠ (T b).2.1) (j : Nat) (hj : j < N)
    (hlink : Cond.fieldLink own idx (T j).1 (T j).2.1 (T j).2.2.1 ∈ uW) (hfin : (T j).2.2.2 = false) (hd : parseFieldDescriptor (T j).2.2.1 = some .int) (hl : j < fs.length) (hset : sh cA ad k (va_up (κ k) j x) = .inr (ci, fs.set j (.int x))) (hdg : decode cc pc = .ok (.putfield idx, 3))
    (kk : ∀ (H1 : Heap) (locs1 : List Loc), Wa A D cA L ad s (up2 κ k j x) H1 locs1 → W p l e R s m args below meth c H1 locs1 cells slots Q (F0 m (pc + 3) ls rest)) : W p l e R s m args below meth c H locs cells slots Q (F0 m pc ls (.int x :: .ref (ad k) :: rest)) := by
  refine va_put hM.x hM.b hM.ts hin ty0 hty hnm hM.ow hM.K hw.1 hw.dd hw.2.1 (L.idxOf k) (by rw [wl_get hk, hsh]) hc j hj (hM.ts _ hlink) (fun _ h => h) hfin hd rfl rfl hl hdg (fun H1 locs1 hP hD hS => kk H1 locs1 ⟨?_, hS, hw.2.2⟩)
  rw [← hset, wl_set _ hw.2.2.1.1 hk] at hP
  exact hP
end KR
theorem inW0 : ∀ w ∈ u_ws RX0 TX0 3, w ∈ uW := fun w h => List.mem_filter.mpr ⟨(by decide +kernel : ∀ w ∈ u_ws RX0 TX0 3, w ∈ lw_tbl) w h, (by decide +kernel : ∀ w ∈ u_ws RX0 TX0 3, goodWord w = true) w h⟩
theorem inW1 : ∀ w ∈ u_ws RX1 TX1 8, w ∈ uW := fun w h => List.mem_filter.mpr ⟨(by decide +kernel : ∀ w ∈ u_ws RX1 TX1 8, w ∈ lw_tbl) w h, (by decide +kernel : ∀ w ∈ u_ws RX1 TX1 8, goodWord w = true) w h⟩
theorem inW2 : ∀ w ∈ u_ws RX2 TX2 6, w ∈ uW := fun w h => List.mem_filter.mpr ⟨(by decide +kernel : ∀ w ∈ u_ws RX2 TX2 6, w ∈ lw_tbl) w h, (by decide +kernel : ∀ w ∈ u_ws RX2 TX2 6, goodWord w = true) w h⟩
theorem inW3 : ∀ w ∈ u_ws RX3 TX3 6, w ∈ uW := fun w h => List.mem_filter.mpr ⟨(by decide +kernel : ∀ w ∈ u_ws RX3 TX3 6, w ∈ lw_tbl) w h, (by decide +kernel : ∀ w ∈ u_ws RX3 TX3 6, goodWord w = true) w h⟩
theorem inW4 : ∀ w ∈ u_ws RX4 TX4 2, w ∈ uW := fun w h => List.mem_filter.mpr ⟨(by decide +kernel : ∀ w ∈ u_ws RX4 TX4 2, w ∈ lw_tbl) w h, (by decide +kernel : ∀ w ∈ u_ws RX4 TX4 2, goodWord w = true) w h⟩
theorem inW5 : ∀ w ∈ u_ws RX5 TX5 7, w ∈ uW := fun w h => List.mem_filter.mpr ⟨(by decide +kernel : ∀ w ∈ u_ws RX5 TX5 7, w ∈ lw_tbl) w h, (by decide +kernel : ∀ w ∈ u_ws RX5 TX5 7, goodWord w = true) w h⟩
theorem inW6 : ∀ w ∈ u_ws RX6 TX6 5, w ∈ uW := fun w h => List.mem_filter.mpr ⟨(by decide +kernel : ∀ w ∈ u_ws RX6 TX6 5, w ∈ lw_tbl) w h, (by decide +kernel : ∀ w ∈ u_ws RX6 TX6 5, goodWord w = true) w h⟩
section KR2
variable {p : Program} {l : Launch} {e : Env} {R : Room} {s : State} {m : MethodId} {args : Array Value} {below : List Frame} {meth : Method} {c : Code} {H : Heap} {locs : List Loc} {cells slots : Nat} {Q : State → Prop}
variable {cc : ByteArray} {pc nL : Nat} {ls : Array Slot} {rest : List Value} {A : Nat → Prop} {D : va_G} {cA : Nat → ClassId} {L : List Nat} {ad : Nat → Nat} {κ : Kp} {own : String} {idx k : Nat}
-- Fire
theorem k_get0 (j : Nat) (hM : Ma A D cA p s m args meth c cc nL own) (hw : Wa A D cA L ad s κ H locs) (h : kd k = 0) (hj : j < 3) (hlink : Cond.fieldLink own idx (TX0 j).1 (TX0 j).2.1 (TX0 j).2.2.1 ∈ uW) (hdg : decode cc pc = .ok (.getfield idx, 3))
    (kk : W p l e R s m args below meth c H locs cells slots Q (F0 m (pc + 3) ls (.int (κ k j) :: rest))) : W p l e R s m args below meth c H locs cells slots Q (F0 m pc ls (.ref (ad k) :: rest)) :=
  k_get (C := RX0) (T := TX0) (N := 3) hM hw (hw.dm h (by decide)) (sh0 h) rfl inW0 j hj hlink (by match j, hj with | 0, _ => rfl | 1, _ => rfl | 2, _ => rfl) hdg kk
theorem k_put0 (j : Nat) {x : Int32} (hM : Ma A D cA p s m args meth c cc nL own) (hw : Wa A D cA L ad s κ H locs) (h : kd k = 0) (hj : j < 3) (hlink : Cond.fieldLink own idx (TX0 j).1 (TX0 j).2.1 (TX0 j).2.2.1 ∈ uW) (hdg : decode cc pc = .ok (.putfield idx, 3))
    (kk : ∀ (H1 : Heap) (locs1 : List Loc), Wa A D cA L ad s (up2 κ k j x) H1 locs1 → W p l e R s m args below meth c H1 locs1 cells slots Q (F0 m (pc + 3) ls rest)) : W p l e R s m args below meth c H locs cells slots Q (F0 m pc ls (.int x :: .ref (ad k) :: rest)) :=
  k_put (C := RX0) (T := TX0) (N := 3) hM hw (hw.dm h (by decide)) (sh0 h) rfl inW0 tyX0 tyX0_ok nmX0 j hj hlink (by match j, hj with | 0, _ => rfl | 1, _ => rfl | 2, _ => rfl) (by match j, hj with | 0, _ => exact tyX0_ok 0 (by decide) | 1, _ => exact tyX0_ok 1 (by decide) | 2, _ => exact tyX0_ok 2 (by decide)) hj (by rw [sh0 h]; match j, hj with | 0, _ => rfl | 1, _ => rfl | 2, _ => rfl) hdg kk
-- Spit
theorem k_get3 (j : Nat) (hM : Ma A D cA p s m args meth c cc nL own) (hw : Wa A D cA L ad s κ H locs) (h : kd k = 3) (hj : j < 6) (hlink : Cond.fieldLink own idx (TX3 j).1 (TX3 j).2.1 (TX3 j).2.2.1 ∈ uW) (hdg : decode cc pc = .ok (.getfield idx, 3))
    (kk : W p l e R s m args below meth c H locs cells slots Q (F0 m (pc + 3) ls (.int (κ k j) :: rest))) : W p l e R s m args below meth c H locs cells slots Q (F0 m pc ls (.ref (ad k) :: rest)) :=
  k_get (C := RX3) (T := TX3) (N := 6) hM hw (hw.dm h (by decide)) (sh3 h) rfl inW3 j hj hlink (by match j, hj with | 0, _ => rfl | 1, _ => rfl | 2, _ => rfl | 3, _ => rfl | 4, _ => rfl | 5, _ => rfl) hdg kk
theorem k_put3 (j : Nat) {x : Int32} (hM : Ma A D cA p s m args meth c cc nL own) (hw : Wa A D cA L ad s κ H locs) (h : kd k = 3) (hj : j < 6) (hlink : Cond.fieldLink own idx (TX3 j).1 (TX3 j).2.1 (TX3 j).2.2.1 ∈ uW) (hdg : decode cc pc = .ok (.putfield idx, 3))
    (kk : ∀ (H1 : Heap) (locs1 : List Loc), Wa A D cA L ad s (up2 κ k j x) H1 locs1 → W p l e R s m args below meth c H1 locs1 cells slots Q (F0 m (pc + 3) ls rest)) : W p l e R s m args below meth c H locs cells slots Q (F0 m pc ls (.int x :: .ref (ad k) :: rest)) :=
  k_put (C := RX3) (T := TX3) (N := 6) hM hw (hw.dm h (by decide)) (sh3 h) rfl inW3 tyX3 tyX3_ok nmX3 j hj hlink (by match j, hj with | 0, _ => rfl | 1, _ => rfl | 2, _ => rfl | 3, _ => rfl | 4, _ => rfl | 5, _ => rfl) (by match j, hj with | 0, _ => exact tyX3_ok 0 (by decide) | 1, _ => exact tyX3_ok 1 (by decide) | 2, _ => exact tyX3_ok 2 (by decide) | 3, _ => exact tyX3_ok 3 (by decide) | 4, _ => exact tyX3_ok 4 (by decide) | 5, _ => exact tyX3_ok 5 (by decide)) hj (by rw [sh3 h]; match j, hj with | 0, _ => rfl | 1, _ => rfl | 2, _ => rfl | 3, _ => rfl | 4, _ => rfl | 5, _ => rfl) hdg kk
-- Roast: field 0 is its row
theorem k_get2 (j : Nat) (hM : Ma A D cA p s m args meth c cc nL own) (hw : Wa A D cA L ad s κ H locs) (h : kd k = 2) (hj : 0 < j ∧ j < 6) (hlink : Cond.fieldLink own idx (TX2 j).1 (TX2 j).2.1 (TX2 j).2.2.1 ∈ uW) (hdg : decode cc pc = .ok (.getfield idx, 3))
    (kk : W p l e R s m args below meth c H locs cells slots Q (F0 m (pc + 3) ls (.int (κ k j) :: rest))) : W p l e R s m args below meth c H locs cells slots Q (F0 m pc ls (.ref (ad k) :: rest)) :=
  k_get (C := RX2) (T := TX2) (N := 6) hM hw (hw.dm h (by decide)) (sh2 h) rfl inW2 j hj.2 hlink (by match j, hj with | 1, _ => rfl | 2, _ => rfl | 3, _ => rfl | 4, _ => rfl | 5, _ => rfl) hdg kk
theorem k_get2r (hM : Ma A D cA p s m args meth c cc nL own) (hw : Wa A D cA L ad s κ H locs) (h : kd k = 2) (hlink : Cond.fieldLink own idx (TX2 0).1 (TX2 0).2.1 (TX2 0).2.2.1 ∈ uW) (hdg : decode cc pc = .ok (.getfield idx, 3))
    (kk : W p l e R s m args below meth c H locs cells slots Q (F0 m (pc + 3) ls (.ref (ad (k + 1)) :: rest))) : W p l e R s m args below meth c H locs cells slots Q (F0 m pc ls (.ref (ad k) :: rest)) :=
  k_get (C := RX2) (T := TX2) (N := 6) hM hw (hw.dm h (by decide)) (sh2 h) rfl inW2 0 (by decide) hlink rfl hdg kk
theorem k_put2 (j : Nat) {x : Int32} (hM : Ma A D cA p s m args meth c cc nL own) (hw : Wa A D cA L ad s κ H locs) (h : kd k = 2) (hj : 0 < j ∧ j < 6) (hlink : Cond.fieldLink own idx (TX2 j).1 (TX2 j).2.1 (TX2 j).2.2.1 ∈ uW) (hdg : decode cc pc = .ok (.putfield idx, 3))
    (kk : ∀ (H1 : Heap) (locs1 : List Loc), Wa A D cA L ad s (up2 κ k j x) H1 locs1 → W p l e R s m args below meth c H1 locs1 cells slots Q (F0 m (pc + 3) ls rest)) : W p l e R s m args below meth c H locs cells slots Q (F0 m pc ls (.int x :: .ref (ad k) :: rest)) :=
  k_put (C := RX2) (T := TX2) (N := 6) hM hw (hw.dm h (by decide)) (sh2 h) rfl inW2 tyX2 tyX2_ok nmX2 j hj.2 hlink (by match j, hj with | 1, _ => rfl | 2, _ => rfl | 3, _ => rfl | 4, _ => rfl | 5, _ => rfl) (by match j, hj with | 1, _ => exact tyX2_ok 1 (by decide) | 2, _ => exact tyX2_ok 2 (by decide) | 3, _ => exact tyX2_ok 3 (by decide) | 4, _ => exact tyX2_ok 4 (by decide) | 5, _ => exact tyX2_ok 5 (by decide)) hj.2 (by rw [sh2 h]; match j, hj with | 1, _ => rfl | 2, _ => rfl | 3, _ => rfl | 4, _ => rfl | 5, _ => rfl) hdg kk
-- Kitchen: fields 0, 1, 2 are its rows
theorem k_get1 (j : Nat) (hM : Ma A D cA p s m args meth c cc nL own) (hw : Wa A D cA L ad s κ H locs) (h : kd k = 1) (hj : 2 < j ∧ j < 8) (hlink : Cond.fieldLink own idx (TX1 j).1 (TX1 j).2.1 (TX1 j).2.2.1 ∈ uW) (hdg : decode cc pc = .ok (.getfield idx, 3))
    (kk : W p l e R s m args below meth c H locs cells slots Q (F0 m (pc + 3) ls (.int (κ k j) :: rest))) : W p l e R s m args below meth c H locs cells slots Q (F0 m pc ls (.ref (ad k) :: rest)) :=
  k_get (C := RX1) (T := TX1) (N := 8) hM hw (hw.dm h (by decide)) (sh1 h) rfl inW1 j hj.2 hlink (by match j, hj with | 3, _ => rfl | 4, _ => rfl | 5, _ => rfl | 6, _ => rfl | 7, _ => rfl) hdg kk
theorem k_get1r (j : Nat) (hM : Ma A D cA p s m args meth c cc nL own) (hw : Wa A D cA L ad s κ H locs) (h : kd k = 1) (hj : j < 3) (hlink : Cond.fieldLink own idx (TX1 j).1 (TX1 j).2.1 (TX1 j).2.2.1 ∈ uW) (hdg : decode cc pc = .ok (.getfield idx, 3))
    (kk : W p l e R s m args below meth c H locs cells slots Q (F0 m (pc + 3) ls (.ref (ad (k + (j + 1))) :: rest))) : W p l e R s m args below meth c H locs cells slots Q (F0 m pc ls (.ref (ad k) :: rest)) :=
  k_get (C := RX1) (T := TX1) (N := 8) hM hw (hw.dm h (by decide)) (sh1 h) rfl inW1 j (by omega) hlink (by match j, hj with | 0, _ => rfl | 1, _ => rfl | 2, _ => rfl) hdg kk
theorem k_put1 (j : Nat) {x : Int32} (hM : Ma A D cA p s m args meth c cc nL own) (hw : Wa A D cA L ad s κ H locs) (h : kd k = 1) (hj : 2 < j ∧ j < 8) (hlink : Cond.fieldLink own idx (TX1 j).1 (TX1 j).2.1 (TX1 j).2.2.1 ∈ uW) (hdg : decode cc pc = .ok (.putfield idx, 3))
    (kk : ∀ (H1 : Heap) (locs1 : List Loc), Wa A D cA L ad s (up2 κ k j x) H1 locs1 → W p l e R s m args below meth c H1 locs1 cells slots Q (F0 m (pc + 3) ls rest)) : W p l e R s m args below meth c H locs cells slots Q (F0 m pc ls (.int x :: .ref (ad k) :: rest)) :=
  k_put (C := RX1) (T := TX1) (N := 8) hM hw (hw.dm h (by decide)) (sh1 h) rfl inW1 tyX1 tyX1_ok nmX1 j hj.2 hlink (by match j, hj with | 3, _ => rfl | 4, _ => rfl | 5, _ => rfl | 6, _ => rfl | 7, _ => rfl) (by match j, hj with | 3, _ => exact tyX1_ok 3 (by decide) | 4, _ => exact tyX1_ok 4 (by decide) | 5, _ => exact tyX1_ok 5 (by decide) | 6, _ => exact tyX1_ok 6 (by decide) | 7, _ => exact tyX1_ok 7 (by decide)) hj.2 (by rw [sh1 h]; match j, hj with | 3, _ => rfl | 4, _ => rfl | 5, _ => rfl | 6, _ => rfl | 7, _ => rfl) hdg kk
-- KitchenSpits: the object 0
theorem k_get4a (hM : Ma A D cA p s m args meth c cc nL own) (hw : Wa A D cA L ad s κ H locs) (hlink : Cond.fieldLink own idx (TX4 0).1 (TX4 0).2.1 (TX4 0).2.2.1 ∈ uW) (hdg : decode cc pc = .ok (.getfield idx, 3))
    (kk : W p l e R s m args below meth c H locs cells slots Q (F0 m (pc + 3) ls (.ref (ad 1) :: rest))) : W p l e R s m args below meth c H locs cells slots Q (F0 m pc ls (.ref (ad 0) :: rest)) :=
  k_get (C := RX4) (T := TX4) (N := 2) hM hw (hw.dm kd_0 (by decide)) (sh4 kd_0) rfl inW4 0 (by decide) hlink rfl hdg kk
theorem k_get4b (hM : Ma A D cA p s m args meth c cc nL own) (hw : Wa A D cA L ad s κ H locs) (hlink : Cond.fieldLink own idx (TX4 1).1 (TX4 1).2.1 (TX4 1).2.2.1 ∈ uW) (hdg : decode cc pc = .ok (.getfield idx, 3))
    (kk : W p l e R s m args below meth c H locs cells slots Q (F0 m (pc + 3) ls (.ref (ad 46) :: rest))) : W p l e R s m args below meth c H locs cells slots Q (F0 m pc ls (.ref (ad 0) :: rest)) :=
  k_get (C := RX4) (T := TX4) (N := 2) hM hw (hw.dm kd_0 (by decide)) (sh4 kd_0) rfl inW4 1 (by decide) hlink rfl hdg kk
-- rows of numbers
theorem k_iald {n : Nat} {i : Int32} (hM : Ma A D cA p s m args meth c cc nL own) (hw : Wa A D cA L ad s κ H locs) (hk : k ∈ L) (hsh : sh cA ad k (κ k) = .inl (cA 0, n, .inl (κ k))) (hin : vp_in i n) (hdg : decode cc pc = .ok (.iaload, 1))
    (kk : W p l e R s m args below meth c H locs cells slots Q (F0 m (pc + 1) ls (.int (κ k i.toNatClampNeg) :: rest))) : W p l e R s m args below meth c H locs cells slots Q (F0 m pc ls (.int i :: .ref (ad k) :: rest)) :=
  va_iald hM.x hM.b hM.K hw.1 (L.idxOf k) 0 (by rw [wl_get hk, hsh]) rfl hin hdg kk
theorem k_iast {n : Nat} {i x : Int32} (hM : Ma A D cA p s m args meth c cc nL own) (hw : Wa A D cA L ad s κ H locs) (hk : k ∈ L) (hsh : ∀ r : Nat → Int32, sh cA ad k r = .inl (cA 0, n, .inl r)) (hin : vp_in i n) (hdg : decode cc pc = .ok (.iastore, 1))
    (kk : ∀ (H1 : Heap) (locs1 : List Loc), Wa A D cA L ad s (up2 κ k i.toNatClampNeg x) H1 locs1 → W p l e R s m args below meth c H1 locs1 cells slots Q (F0 m (pc + 1) ls rest)) : W p l e R s m args below meth c H locs cells slots Q (F0 m pc ls (.int x :: .int i :: .ref (ad k) :: rest)) := by
  refine va_iast hM.x hM.b hM.K hw.1 hw.dd hw.2.1 (L.idxOf k) 0 (by rw [wl_get hk, hsh]) rfl hin hdg (fun H1 locs1 hP hD hS => kk H1 locs1 ⟨?_, hS, hw.2.2⟩)
  have e1 : upd (κ k) i.toNatClampNeg x = va_up (κ k) i.toNatClampNeg x := rfl
  rw [e1, ← hsh, wl_set _ hw.2.2.1.1 hk] at hP
  exact hP
theorem k_alen {v : Int32} (hM : Ma A D cA p s m args meth c cc nL own) (hw : Wa A D cA L ad s κ H locs) (hk : k ∈ L) {a : vp_A} (t : Nat) {ci : ClassId} {ty : FieldType} (hsh : sh cA ad k (κ k) = .inl (ci, a)) (ht : (tyl cA)[t]? = some (ci, ty)) (hn : Int32.ofNat a.1 = v) (hdg : decode cc pc = .ok (.arraylength, 1))
    (kk : W p l e R s m args below meth c H locs cells slots Q (F0 m (pc + 1) ls (.int v :: rest))) : W p l e R s m args below meth c H locs cells slots Q (F0 m pc ls (.ref (ad k) :: rest)) :=
  va_alen hM.x hM.b hM.K hw.1 (L.idxOf k) t (by rw [wl_get hk, hsh]) ht hn hdg kk
-- rows of objects
theorem k_aldq {C : String} {i : Int32} {n t x : Nat} {f : Nat → Option Nat} (hM : Ma A D cA p s m args meth c cc nL own) (hw : Wa A D cA L ad s κ H locs) (hk : k ∈ L) (hsh : sh cA ad k (κ k) = .inl (cA t, n, Qr f)) (ht : (tyl cA)[t]? = some (cA t, .object C)) (hin : vp_in i n) (hf : f i.toNatClampNeg = some x) (hdg : decode cc pc = .ok (.aaload, 1))
    (kk : W p l e R s m args below meth c H locs cells slots Q (F0 m (pc + 1) ls (.ref x :: rest))) : W p l e R s m args below meth c H locs cells slots Q (F0 m pc ls (.int i :: .ref (ad k) :: rest)) :=
  va_aldq hM.x hM.b hM.K hw.1 (L.idxOf k) t (by rw [wl_get hk, hsh]) ht hin hdg (by rw [hf]; exact kk)
/-- .. of rows -/
theorem k_alda {ty : FieldType} {i : Int32} {n t x : Nat} {f : Nat → Option Nat} (hM : Ma A D cA p s m args meth c cc nL own) (hw : Wa A D cA L ad s κ H locs) (hk : k ∈ L) (hsh : sh cA ad k (κ k) = .inl (cA t, n, Qr f)) (ht : (tyl cA)[t]? = some (cA t, .array ty)) (hin : vp_in i n) (hf : f i.toNatClampNeg = some x) (hdg : decode cc pc = .ok (.aaload, 1))
    (kk : W p l e R s m args below meth c H locs cells slots Q (F0 m (pc + 1) ls (.ref x :: rest))) : W p l e R s m args below meth c H locs cells slots Q (F0 m pc ls (.int i :: .ref (ad k) :: rest)) := by
  have hlt : i.toNatClampNeg < n := Nat.not_le.mp fun q => hin (Or.inr q)
  have h1 : va_at D vwCl (ad k, .inl (cA t, n, Qr f)) H := hw.1 (L.idxOf k) _ (by rw [wl_get hk, hsh])
  exact W.aald (v := va_rf (f i.toNatClampNeg)) (ty := .array ty) hM.x hM.b h1 ((hM.K.2 t _ ht).1 n (fun j => va_rf (f j))) rfl (fun q => by cases q) (by show ¬ (i < 0 ∨ (arrV _ _ _).slots.size ≤ _); rw [arrV_size]; exact hin) (by show (arrV _ _ _).slots[_]? = _; rw [arrV_read _ _ hlt]) rfl rfl hdg (by rw [hf]; exact kk)
theorem vpi_lt {x : Int32} {n : Nat} (h : vp_in x n) : x.toNatClampNeg < n := Nat.not_le.mp fun q => h (Or.inr q)
theorem k_ald7 {i : Int32} (hM : Ma A D cA p s m args meth c cc nL own) (hw : Wa A D cA L ad s κ H locs) (h : kd k = 1) (hin : vp_in i 3) (hdg : decode cc pc = .ok (.aaload, 1))
    (kk : W p l e R s m args below meth c H locs cells slots Q (F0 m (pc + 1) ls (.ref (ad (k + 4 + i.toNatClampNeg)) :: rest))) : W p l e R s m args below meth c H locs cells slots Q (F0 m pc ls (.int i :: .ref (ad (k + 1)) :: rest)) :=
  k_aldq (t := 2) hM hw (hw.dm (kd1_7 h) (by decide)) (sh7 (kd1_7 h)) rfl hin (by rw [if_pos (vpi_lt hin), show k + 1 + 3 + i.toNatClampNeg = k + 4 + i.toNatClampNeg by omega]) hdg kk
theorem k_ald8 {i : Int32} (hM : Ma A D cA p s m args meth c cc nL own) (hw : Wa A D cA L ad s κ H locs) (h : kd k = 1) (hin : vp_in i 6) (hdg : decode cc pc = .ok (.aaload, 1))
    (kk : W p l e R s m args below meth c H locs cells slots Q (F0 m (pc + 1) ls (.ref (ad (k + 7 + i.toNatClampNeg)) :: rest))) : W p l e R s m args below meth c H locs cells slots Q (F0 m pc ls (.int i :: .ref (ad (k + 2)) :: rest)) :=
  k_aldq (t := 3) hM hw (hw.dm (kd1_8 h) (by decide)) (sh8 (kd1_8 h)) rfl hin (by rw [if_pos (vpi_lt hin), show k + 2 + 5 + i.toNatClampNeg = k + 7 + i.toNatClampNeg by omega]) hdg kk
theorem k_ald9 {i : Int32} (hM : Ma A D cA p s m args meth c cc nL own) (hw : Wa A D cA L ad s κ H locs) (h : kd k = 1) (hin : vp_in i 16) (hdg : decode cc pc = .ok (.aaload, 1))
    (kk : W p l e R s m args below meth c H locs cells slots Q (F0 m (pc + 1) ls (.ref (ad (k + 13 + 2 * i.toNatClampNeg)) :: rest))) : W p l e R s m args below meth c H locs cells slots Q (F0 m pc ls (.int i :: .ref (ad (k + 3)) :: rest)) :=
  k_aldq (t := 4) hM hw (hw.dm (kd1_9 h) (by decide)) (sh9 (kd1_9 h)) rfl hin (by rw [if_pos (vpi_lt hin), show k + 3 + 10 + 2 * i.toNatClampNeg = k + 13 + 2 * i.toNatClampNeg by omega]) hdg kk
-- the law's roast: 0 pounds, 1 spit, 2 side, 3 fat, 4 wet, 5 got, behind them its sides
theorem k_get5 (j : Nat) (hM : Ma A D cA p s m args meth c cc nL own) (hw : Wa A D cA L ad s κ H locs) (h : kd k = 21) (hk : k ∈ L) (hj : j < 6) (hlink : Cond.fieldLink own idx (TX5 j).1 (TX5 j).2.1 (TX5 j).2.2.1 ∈ uW) (hdg : decode cc pc = .ok (.getfield idx, 3))
    (kk : W p l e R s m args below meth c H locs cells slots Q (F0 m (pc + 3) ls (.int (κ k j) :: rest))) : W p l e R s m args below meth c H locs cells slots Q (F0 m pc ls (.ref (ad k) :: rest)) :=
  k_get (C := RX5) (T := TX5) (N := 7) hM hw hk (sh21 h) rfl inW5 j (by omega) hlink (by match j, hj with | 0, _ => rfl | 1, _ => rfl | 2, _ => rfl | 3, _ => rfl | 4, _ => rfl | 5, _ => rfl) hdg kk
theorem k_get5r (hM : Ma A D cA p s m args meth c cc nL own) (hw : Wa A D cA L ad s κ H locs) (h : kd k = 21) (hk : k ∈ L) (hlink : Cond.fieldLink own idx (TX5 6).1 (TX5 6).2.1 (TX5 6).2.2.1 ∈ uW) (hdg : decode cc pc = .ok (.getfield idx, 3))
    (kk : W p l e R s m args below meth c H locs cells slots Q (F0 m (pc + 3) ls (.ref (ad (k + 1)) :: rest))) : W p l e R s m args below meth c H locs cells slots Q (F0 m pc ls (.ref (ad k) :: rest)) :=
  k_get (C := RX5) (T := TX5) (N := 7) hM hw hk (sh21 h) rfl inW5 6 (by decide) hlink rfl hdg kk
theorem k_put5 (j : Nat) {x : Int32} (hM : Ma A D cA p s m args meth c cc nL own) (hw : Wa A D cA L ad s κ H locs) (h : kd k = 21) (hk : k ∈ L) (hj : j < 6) (hlink : Cond.fieldLink own idx (TX5 j).1 (TX5 j).2.1 (TX5 j).2.2.1 ∈ uW) (hdg : decode cc pc = .ok (.putfield idx, 3))
    (kk : ∀ (H1 : Heap) (locs1 : List Loc), Wa A D cA L ad s (up2 κ k j x) H1 locs1 → W p l e R s m args below meth c H1 locs1 cells slots Q (F0 m (pc + 3) ls rest)) : W p l e R s m args below meth c H locs cells slots Q (F0 m pc ls (.int x :: .ref (ad k) :: rest)) :=
  k_put (C := RX5) (T := TX5) (N := 7) hM hw hk (sh21 h) rfl inW5 tyX5 tyX5_ok nmX5 j (by omega) hlink (by match j, hj with | 0, _ => rfl | 1, _ => rfl | 2, _ => rfl | 3, _ => rfl | 4, _ => rfl | 5, _ => rfl) (by match j, hj with | 0, _ => exact tyX5_ok 0 (by decide) | 1, _ => exact tyX5_ok 1 (by decide) | 2, _ => exact tyX5_ok 2 (by decide) | 3, _ => exact tyX5_ok 3 (by decide) | 4, _ => exact tyX5_ok 4 (by decide) | 5, _ => exact tyX5_ok 5 (by decide)) (by show j < 7; omega) (by rw [sh21 h]; match j, hj with | 0, _ => rfl | 1, _ => rfl | 2, _ => rfl | 3, _ => rfl | 4, _ => rfl | 5, _ => rfl) hdg kk
-- the law's kitchen: 0 minute, 1 feast, then its rows
theorem k_get6 (j : Nat) (hM : Ma A D cA p s m args meth c cc nL own) (hw : Wa A D cA L ad s κ H locs) (hk : 91 ∈ L) (hj : j < 2) (hlink : Cond.fieldLink own idx (TX6 j).1 (TX6 j).2.1 (TX6 j).2.2.1 ∈ uW) (hdg : decode cc pc = .ok (.getfield idx, 3))
    (kk : W p l e R s m args below meth c H locs cells slots Q (F0 m (pc + 3) ls (.int (κ 91 j) :: rest))) : W p l e R s m args below meth c H locs cells slots Q (F0 m pc ls (.ref (ad 91) :: rest)) :=
  k_get (C := RX6) (T := TX6) (N := 5) hM hw hk (sh15 kd_91) rfl inW6 j (by omega) hlink (by match j, hj with | 0, _ => rfl | 1, _ => rfl) hdg kk
theorem k_get6r (j : Nat) (hM : Ma A D cA p s m args meth c cc nL own) (hw : Wa A D cA L ad s κ H locs) (hk : 91 ∈ L) (hj : j < 3) (hlink : Cond.fieldLink own idx (TX6 (j + 2)).1 (TX6 (j + 2)).2.1 (TX6 (j + 2)).2.2.1 ∈ uW) (hdg : decode cc pc = .ok (.getfield idx, 3))
    (kk : W p l e R s m args below meth c H locs cells slots Q (F0 m (pc + 3) ls (.ref (ad (92 + j)) :: rest))) : W p l e R s m args below meth c H locs cells slots Q (F0 m pc ls (.ref (ad 91) :: rest)) :=
  k_get (C := RX6) (T := TX6) (N := 5) hM hw hk (sh15 kd_91) rfl inW6 (j + 2) (by omega) hlink (by match j, hj with | 0, _ => rfl | 1, _ => rfl | 2, _ => rfl) hdg kk
theorem k_put6 (j : Nat) {x : Int32} (hM : Ma A D cA p s m args meth c cc nL own) (hw : Wa A D cA L ad s κ H locs) (hk : 91 ∈ L) (hj : j < 2) (hlink : Cond.fieldLink own idx (TX6 j).1 (TX6 j).2.1 (TX6 j).2.2.1 ∈ uW) (hdg : decode cc pc = .ok (.putfield idx, 3))
    (kk : ∀ (H1 : Heap) (locs1 : List Loc), Wa A D cA L ad s (up2 κ 91 j x) H1 locs1 → W p l e R s m args below meth c H1 locs1 cells slots Q (F0 m (pc + 3) ls rest)) : W p l e R s m args below meth c H locs cells slots Q (F0 m pc ls (.int x :: .ref (ad 91) :: rest)) :=
  k_put (C := RX6) (T := TX6) (N := 5) hM hw hk (sh15 kd_91) rfl inW6 tyX6 tyX6_ok nmX6 j (by omega) hlink (by match j, hj with | 0, _ => rfl | 1, _ => rfl) (by match j, hj with | 0, _ => exact tyX6_ok 0 (by decide) | 1, _ => exact tyX6_ok 1 (by decide)) (by show j < 5; omega) (by rw [sh15 kd_91]; match j, hj with | 0, _ => rfl | 1, _ => rfl) hdg kk
/-- how long a row is -/
theorem k_alenD {v : Int32} (hM : Ma A D cA p s m args meth c cc nL own) (hw : Wa A D cA L ad s κ H locs) (hk : k ∈ L) {n : Nat} {a : (Nat → Int32) ⊕ (Nat → Int64) ⊕ (Nat → UInt32) ⊕ (Nat → UInt64) ⊕ (Nat → Option Nat)} (t : Nat) {ty : FieldType} (hsh : sh cA ad k (κ k) = .inl (cA t, n, a)) (ht : (tyl cA)[t]? = some (cA t, ty)) (hn : nI n = v) (hdg : decode cc pc = .ok (.arraylength, 1))
    (kk : W p l e R s m args below meth c H locs cells slots Q (F0 m (pc + 1) ls (.int v :: rest))) : W p l e R s m args below meth c H locs cells slots Q (F0 m pc ls (.ref (ad k) :: rest)) :=
  k_alen hM hw hk (a := (n, a)) t hsh ht hn hdg kk
-- rows of booleans
theorem k_zald {n : Nat} {i : Int32} (hM : Ma A D cA p s m args meth c cc nL own) (hw : Wa A D cA L ad s κ H locs) (hk : k ∈ L) (hsh : sh cA ad k (κ k) = .inl (cA 6, n, .inl (κ k))) (hin : vp_in i n) (hdg : decode cc pc = .ok (.baload, 1))
    (kk : W p l e R s m args below meth c H locs cells slots Q (F0 m (pc + 1) ls (.int (κ k i.toNatClampNeg) :: rest))) : W p l e R s m args below meth c H locs cells slots Q (F0 m pc ls (.int i :: .ref (ad k) :: rest)) :=
  va_zald hM.x hM.b hM.K hw.1 (L.idxOf k) 6 (by rw [wl_get hk, hsh]) rfl hin hdg kk
theorem k_zast {n : Nat} {i x : Int32} (hM : Ma A D cA p s m args meth c cc nL own) (hw : Wa A D cA L ad s κ H locs) (hk : k ∈ L) (hsh : ∀ r : Nat → Int32, sh cA ad k r = .inl (cA 6, n, .inl r)) (hin : vp_in i n) (hx : vp_nar .boolean x = x) (hdg : decode cc pc = .ok (.bastore, 1))
    (kk : ∀ (H1 : Heap) (locs1 : List Loc), Wa A D cA L ad s (up2 κ k i.toNatClampNeg x) H1 locs1 → W p l e R s m args below meth c H1 locs1 cells slots Q (F0 m (pc + 1) ls rest)) : W p l e R s m args below meth c H locs cells slots Q (F0 m pc ls (.int x :: .int i :: .ref (ad k) :: rest)) := by
  refine va_zast hM.x hM.b hM.K hw.1 hw.dd hw.2.1 (L.idxOf k) 6 (by rw [wl_get hk, hsh]) rfl hin hdg (fun H1 locs1 hP hD hS => kk H1 locs1 ⟨?_, hS, hw.2.2⟩)
  have e1 : upd (κ k) i.toNatClampNeg (vp_nar .boolean x) = va_up (κ k) i.toNatClampNeg x := by rw [hx]; rfl
  rw [e1, ← hsh, wl_set _ hw.2.2.1.1 hk] at hP
  exact hP
end KR2
end
section
theorem uW_good {ws : List Cond} (h : ∀ w ∈ ws, w ∈ uW) : GoodIn uW (ws ++ uW) := by
  intro w hw
  have h1 : w ∈ uW := by
    rcases List.mem_append.mp hw with h2 | h2
    · exact h w h2
    · exact h2
  exact ⟨h1, good_of_word (List.mem_filter.mp h1).2⟩
theorem k_gV {own : String} {idx : Nat} {C : String} {y : MethodName} {w5 : Cond} (h1 : Cond.methodLink own idx y ∈ uW) (h2 : Cond.instanceMethod y ∈ uW) (h3 : Cond.selects C y y ∈ uW) (h4 : Cond.initialized C ∈ uW) (h5 : w5 ∈ uW) : GoodIn uW (wsV own idx C y (w5 :: uW)) := by
  have h := uW_good (ws := [.methodLink own idx y, .instanceMethod y, .selects C y y, .initialized C, w5]) (by
    intro w hw
    simp only [List.mem_cons, List.not_mem_nil, or_false] at hw
    rcases hw with rfl | rfl | rfl | rfl | rfl
    · exact h1
    · exact h2
    · exact h3
    · exact h4
    · exact h5)
  exact h
theorem k_gS {own : String} {idx : Nat} {y : MethodName} {w5 : Cond} (h1 : Cond.methodLink own idx y ∈ uW) (h2 : Cond.static y ∈ uW) (h4 : Cond.initialized y.cls ∈ uW) (h5 : w5 ∈ uW) : GoodIn uW (va_wsS own idx y (w5 :: uW)) := by
  have h := uW_good (ws := [.methodLink own idx y, .static y, .initialized y.cls, w5]) (by
    intro w hw
    simp only [List.mem_cons, List.not_mem_nil, or_false] at hw
    rcases hw with rfl | rfl | rfl | rfl
    · exact h1
    · exact h2
    · exact h4
    · exact h5)
  exact h
/-- the facts by which a method can be called -/
abbrev hdV (y : MethodName) (C : String) (n : Nat) : Prop := y.cls = C ∧ y.cls ≠ "java/lang/invoke/MethodHandle" ∧ y.cls ≠ "java/lang/invoke/VarHandle" ∧ (parseMethodDescriptor y.desc).map (fun d => d.parameters.length) = some n
abbrev rmOk (R rm : Room) (maxL : Nat) : Prop := rm.frames + 1 ≤ R.frames ∧ 8 + (maxL + 11) + rm.locals ≤ R.locals
/-- what a throw leaves behind -/
def xE (g : Gt) (XE : String → Kp → Prop) : String → Kp → State → Prop := fun E u t => XE E u ∧ Wp g u t
abbrev xC (g : Gt) (sz : Nat) (XE : String → Kp → Prop) : String → State → State → Prop := vx_X (fun _ : Kp => True) (xE g XE) (fr g sz)
section KC
variable {p : Program} {l : Launch} {e : Env} {R : Room} {s : State} {m : MethodId} {args : Array Value} {below : List Frame} {meth : Method} {c : Code} {H : Heap} {locs : List Loc} {cells slots : Nat} {Q : State → Prop}
variable {cc bytes : ByteArray} {pc nL maxL mc ms n idx k : Nat} {ls : Array Slot} {rest st0 As : List Value} {A : Nat → Prop} {D : va_G} {cA : Nat → ClassId} {L : List Nat} {ad : Nat → Nat} {κ : Kp} {own C : String} {y : MethodName} {ret : Option FieldType} {rm : Room} {Qc : Array Value → State → Outcome → State → Prop} {XC : String → State → State → Prop} {a : Array Value}
theorem k_runV {ci N : Nat} {T : u_T} {fs : List Value} (As rest : List Value) (hM : Ma A D cA p s m args meth c cc nL own) (hw : Wa A D cA L ad s κ H locs) (ct : Met l y (.code y bytes maxL ret :: uW) rm (PRE ((D, L), cA, ad) κ H.size (.ref (ad k) :: As)) Qc mc ms (fr ((D, L), cA, ad) H.size)) (hk : k ∈ L) (hsh : sh cA ad k (κ k) = .inr (ci, fs)) (hc : vwCl[ci]? = some (C, T, N))
    (hG : GoodIn uW (wsV own idx C y (.code y bytes maxL ret :: uW))) (hd : hdV y C n) (hn : As.length = n) (hrc : rm.cells = mc) (hrs : rm.slots = ms) (hR : rmOk R rm maxL) (hls : ls.size = nL) (hst : st0 = As.reverse ++ .ref (ad k) :: rest) (hsum : (rest.map fun v => v.category).sum ≤ 8) (hdg : decode cc pc = .ok (.invokevirtual idx, 3)) (hf : cells + mc ≤ R.cells ∧ slots + ms ≤ R.slots) :
    va_Run p l e R s m args below meth c H locs cells slots mc ms (F0 m pc ls st0) rest (Qc (Value.ref (ad k) :: As).toArray) (fr ((D, L), cA, ad) H.size) :=
  va_runV (As := As) (rest := rest) hM.1 ct (cwV n hM.ts hG rfl hrc hrs hd hR) ⟨PRE.blind, va_recv hM.K hw.1 hc (by rw [wl_get hk, hsh]), fun U hU hW => ⟨rfl, by rw [hU], Wd.warm hM hw hU hW⟩⟩ rfl hn hls hst (lv_room hsum) hdg hf
theorem k_runS (As rest : List Value) (hM : Ma A D cA p s m args meth c cc nL own) (hw : Wa A D cA L ad s κ H locs) (ct : Met l y (.code y bytes maxL ret :: uW) rm (PRE ((D, L), cA, ad) κ H.size As) Qc mc ms (fr ((D, L), cA, ad) H.size))
    (hG : GoodIn uW (va_wsS own idx y (.code y bytes maxL ret :: uW))) (hd : hdV y C n) (hn : As.length = n) (hrc : rm.cells = mc) (hrs : rm.slots = ms) (hR : rmOk R rm maxL) (hls : ls.size = nL) (hst : st0 = As.reverse ++ rest) (hsum : (rest.map fun v => v.category).sum ≤ 8) (hdg : decode cc pc = .ok (.invokestatic idx, 3)) (hf : cells + mc ≤ R.cells ∧ slots + ms ≤ R.slots) :
    va_Run p l e R s m args below meth c H locs cells slots mc ms (F0 m pc ls st0) rest (Qc As.toArray) (fr ((D, L), cA, ad) H.size) :=
  va_runS (As := As) (rest := rest) hM.1 ct (va_cwS n hM.ts hG rfl hrc hrs hd.2 hR) ⟨PRE.blind, fun U hU hW => ⟨rfl, by rw [hU], Wd.warm hM hw hU hW⟩⟩ rfl hn hls hst (lv_room hsum) hdg hf
theorem k_runXV {ci N : Nat} {T : u_T} {fs : List Value} (As rest : List Value) (hM : Ma A D cA p s m args meth c cc nL own) (hw : Wa A D cA L ad s κ H locs) (ct : vx_Met l y (.code y bytes maxL ret :: uW) rm (PRE ((D, L), cA, ad) κ H.size (.ref (ad k) :: As)) Qc XC mc ms (fr ((D, L), cA, ad) H.size)) (hk : k ∈ L) (hsh : sh cA ad k (κ k) = .inr (ci, fs)) (hc : vwCl[ci]? = some (C, T, N))
    (hG : GoodIn uW (wsV own idx C y (.code y bytes maxL ret :: uW))) (hd : hdV y C n) (hn : As.length = n) (hrc : rm.cells = mc) (hrs : rm.slots = ms) (hR : rmOk R rm maxL) (hls : ls.size = nL) (hst : st0 = As.reverse ++ .ref (ad k) :: rest) (hsum : (rest.map fun v => v.category).sum ≤ 8) (hdg : decode cc pc = .ok (.invokevirtual idx, 3)) (hf : cells + mc ≤ R.cells ∧ slots + ms ≤ R.slots) :
    vx_Run p l e R s m args below meth c H locs cells slots mc ms (F0 m pc ls st0) rest (Qc (Value.ref (ad k) :: As).toArray) XC (fr ((D, L), cA, ad) H.size) :=
  vx_runV (As := As) (rest := rest) hM.1 ct (cwV n hM.ts hG rfl hrc hrs hd hR) ⟨PRE.blind, va_recv hM.K hw.1 hc (by rw [wl_get hk, hsh]), fun U hU hW => ⟨rfl, by rw [hU], Wd.warm hM hw hU hW⟩⟩ rfl hn hls hst (lv_room hsum) hdg hf
theorem k_runXS (As rest : List Value) (hM : Ma A D cA p s m args meth c cc nL own) (hw : Wa A D cA L ad s κ H locs) (ct : vx_Met l y (.code y bytes maxL ret :: uW) rm (PRE ((D, L), cA, ad) κ H.size As) Qc XC mc ms (fr ((D, L), cA, ad) H.size))
    (hG : GoodIn uW (va_wsS own idx y (.code y bytes maxL ret :: uW))) (hd : hdV y C n) (hn : As.length = n) (hrc : rm.cells = mc) (hrs : rm.slots = ms) (hR : rmOk R rm maxL) (hls : ls.size = nL) (hst : st0 = As.reverse ++ rest) (hsum : (rest.map fun v => v.category).sum ≤ 8) (hdg : decode cc pc = .ok (.invokestatic idx, 3)) (hf : cells + mc ≤ R.cells ∧ slots + ms ≤ R.slots) :
    vx_Run p l e R s m args below meth c H locs cells slots mc ms (F0 m pc ls st0) rest (Qc As.toArray) XC (fr ((D, L), cA, ad) H.size) :=
  vx_runS (As := As) (rest := rest) hM.1 ct (va_cwS n hM.ts hG rfl hrc hrs hd.2 hR) ⟨PRE.blind, fun U hU hW => ⟨rfl, by rw [hU], Wd.warm hM hw hU hW⟩⟩ rfl hn hls hst (lv_room hsum) hdg hf
-- behind a call that returns
theorem k_ci {post : Int32 → Kp → Prop} (hw : Wa A D cA L ad s κ H locs) (hr : va_Run p l e R s m args below meth c H locs cells slots mc ms (F0 m pc ls st0) rest (va_Qi post (Wp ((D, L), cA, ad)) (fr ((D, L), cA, ad) H.size) a) (fr ((D, L), cA, ad) H.size))
    (kk : ∀ (r : Int32) (κ' : Kp) (H1 : Heap) (locs1 : List Loc), post r κ' → Wa A D cA L ad s κ' H1 locs1 → W p l e R s m args below meth c H1 locs1 (cells + mc) (slots + ms) Q (F0 m (pc + 3) ls (.int r :: rest))) : W p l e R s m args below meth c H locs cells slots Q (F0 m pc ls st0) :=
  va_calli hr hw.2.1 (fun q _ h => fr_lt hw q h) (fr_lt hw) (fun r u t H1 locs1 ht hvm hp hB hz hk hS => kk r u H1 locs1 hp ⟨by rw [← ht]; exact hB, hS, hw.2.2⟩)
theorem k_cl {post : Int64 → Kp → Prop} (hw : Wa A D cA L ad s κ H locs) (hr : va_Run p l e R s m args below meth c H locs cells slots mc ms (F0 m pc ls st0) rest (va_Ql post (Wp ((D, L), cA, ad)) (fr ((D, L), cA, ad) H.size) a) (fr ((D, L), cA, ad) H.size))
    (kk : ∀ (r : Int64) (κ' : Kp) (H1 : Heap) (locs1 : List Loc), post r κ' → Wa A D cA L ad s κ' H1 locs1 → W p l e R s m args below meth c H1 locs1 (cells + mc) (slots + ms) Q (F0 m (pc + 3) ls (.long r :: rest))) : W p l e R s m args below meth c H locs cells slots Q (F0 m pc ls st0) :=
  va_calll hr hw.2.1 (fun q _ h => fr_lt hw q h) (fr_lt hw) (fun r u t H1 locs1 ht hvm hp hB hz hk hS => kk r u H1 locs1 hp ⟨by rw [← ht]; exact hB, hS, hw.2.2⟩)
theorem k_cv {post : Kp → Prop} (hw : Wa A D cA L ad s κ H locs) (hr : va_Run p l e R s m args below meth c H locs cells slots mc ms (F0 m pc ls st0) rest (va_Qv post (Wp ((D, L), cA, ad)) (fr ((D, L), cA, ad) H.size) a) (fr ((D, L), cA, ad) H.size))
    (kk : ∀ (κ' : Kp) (H1 : Heap) (locs1 : List Loc), post κ' → Wa A D cA L ad s κ' H1 locs1 → W p l e R s m args below meth c H1 locs1 (cells + mc) (slots + ms) Q (F0 m (pc + 3) ls rest)) : W p l e R s m args below meth c H locs cells slots Q (F0 m pc ls st0) :=
  va_callv hr hw.2.1 (fun q _ h => fr_lt hw q h) (fr_lt hw) (fun u t H1 locs1 ht hvm hp hB hz hk hS => kk u H1 locs1 hp ⟨by rw [← ht]; exact hB, hS, hw.2.2⟩)
theorem k_ce {post : Option Nat → Kp → Prop} (hw : Wa A D cA L ad s κ H locs) (hr : va_Run p l e R s m args below meth c H locs cells slots mc ms (F0 m pc ls st0) rest (va_Qe ad post (Wp ((D, L), cA, ad)) (fr ((D, L), cA, ad) H.size) a) (fr ((D, L), cA, ad) H.size))
    (kk : ∀ (r : Option Nat) (κ' : Kp) (H1 : Heap) (locs1 : List Loc), post r κ' → Wa A D cA L ad s κ' H1 locs1 → W p l e R s m args below meth c H1 locs1 (cells + mc) (slots + ms) Q (F0 m (pc + 3) ls (va_re ad r :: rest))) : W p l e R s m args below meth c H locs cells slots Q (F0 m pc ls st0) :=
  va_calle hr hw.2.1 (fun q _ h => fr_lt hw q h) (fr_lt hw) (fun r u t H1 locs1 ht hvm hp hB hz hk hS => kk r u H1 locs1 hp ⟨by rw [← ht]; exact hB, hS, hw.2.2⟩)
-- .. that answers a number and leaves the cells as they are
theorem k_cip {v : Int32} (hw : Wa A D cA L ad s κ H locs) (hr : va_Run p l e R s m args below meth c H locs cells slots mc ms (F0 m pc ls st0) rest (va_Qi (fun r κ' => r = v ∧ κ' = κ) (Wp ((D, L), cA, ad)) (fr ((D, L), cA, ad) H.size) a) (fr ((D, L), cA, ad) H.size))
    (kk : ∀ (H1 : Heap) (locs1 : List Loc), Wa A D cA L ad s κ H1 locs1 → W p l e R s m args below meth c H1 locs1 (cells + mc) (slots + ms) Q (F0 m (pc + 3) ls (.int v :: rest))) : W p l e R s m args below meth c H locs cells slots Q (F0 m pc ls st0) :=
  k_ci hw hr (fun r κ' H1 locs1 hp hw1 => by obtain ⟨rfl, rfl⟩ := hp; exact kk H1 locs1 hw1)
theorem k_clp {v : Int64} (hw : Wa A D cA L ad s κ H locs) (hr : va_Run p l e R s m args below meth c H locs cells slots mc ms (F0 m pc ls st0) rest (va_Ql (fun r κ' => r = v ∧ κ' = κ) (Wp ((D, L), cA, ad)) (fr ((D, L), cA, ad) H.size) a) (fr ((D, L), cA, ad) H.size))
    (kk : ∀ (H1 : Heap) (locs1 : List Loc), Wa A D cA L ad s κ H1 locs1 → W p l e R s m args below meth c H1 locs1 (cells + mc) (slots + ms) Q (F0 m (pc + 3) ls (.long v :: rest))) : W p l e R s m args below meth c H locs cells slots Q (F0 m pc ls st0) :=
  k_cl hw hr (fun r κ' H1 locs1 hp hw1 => by obtain ⟨rfl, rfl⟩ := hp; exact kk H1 locs1 hw1)
theorem k_cep {v : Option Nat} (hw : Wa A D cA L ad s κ H locs) (hr : va_Run p l e R s m args below meth c H locs cells slots mc ms (F0 m pc ls st0) rest (va_Qe ad (fun r κ' => r = v ∧ κ' = κ) (Wp ((D, L), cA, ad)) (fr ((D, L), cA, ad) H.size) a) (fr ((D, L), cA, ad) H.size))
    (kk : ∀ (H1 : Heap) (locs1 : List Loc), Wa A D cA L ad s κ H1 locs1 → W p l e R s m args below meth c H1 locs1 (cells + mc) (slots + ms) Q (F0 m (pc + 3) ls (va_re ad v :: rest))) : W p l e R s m args below meth c H locs cells slots Q (F0 m pc ls st0) :=
  k_ce hw hr (fun r κ' H1 locs1 hp hw1 => by obtain ⟨rfl, rfl⟩ := hp; exact kk H1 locs1 hw1)
theorem k_cvp {κ2 : Kp} (hw : Wa A D cA L ad s κ H locs) (hr : va_Run p l e R s m args below meth c H locs cells slots mc ms (F0 m pc ls st0) rest (va_Qv (fun κ' => κ' = κ2) (Wp ((D, L), cA, ad)) (fr ((D, L), cA, ad) H.size) a) (fr ((D, L), cA, ad) H.size))
    (kk : ∀ (κ' : Kp) (H1 : Heap) (locs1 : List Loc), κ2 = κ' → Wa A D cA L ad s κ' H1 locs1 → W p l e R s m args below meth c H1 locs1 (cells + mc) (slots + ms) Q (F0 m (pc + 3) ls rest)) : W p l e R s m args below meth c H locs cells slots Q (F0 m pc ls st0) :=
  k_cv hw hr (fun κ' H1 locs1 hp hw1 => kk κ' H1 locs1 hp.symm hw1)
-- behind a call that may throw
theorem k_xi {post : Int32 → Kp → Prop} {XE : String → Kp → Prop} (hw : Wa A D cA L ad s κ H locs) (hr : vx_Run p l e R s m args below meth c H locs cells slots mc ms (F0 m pc ls st0) rest (va_Qi post (Wp ((D, L), cA, ad)) (fr ((D, L), cA, ad) H.size) a) (xC ((D, L), cA, ad) H.size XE) (fr ((D, L), cA, ad) H.size))
    (kx : ∀ (E : String) (κ' : Kp) (ce : Cell) (q9 : Addr) (H1 : Heap) (locs1 : List Loc), XE E κ' → Wa A D cA L ad s κ' H1 locs1 → H1[q9]? = some ce → ce.vm = .none → s.vm.findClass E = some ce.cls → vx_W p l e R s m args below meth c H1 locs1 (cells + mc) (slots + ms) Q (F0 m pc ls rest) q9)
    (kk : ∀ (r : Int32) (κ' : Kp) (H1 : Heap) (locs1 : List Loc), post r κ' → Wa A D cA L ad s κ' H1 locs1 → W p l e R s m args below meth c H1 locs1 (cells + mc) (slots + ms) Q (F0 m (pc + 3) ls (.int r :: rest))) : W p l e R s m args below meth c H locs cells slots Q (F0 m pc ls st0) :=
  vx_calli hr hw.2.1 (fun q _ h => fr_lt hw q h) (fr_lt hw) (fun q _ h => fr_lt hw q h) (fun E ce q u t H1 locs1 ht hvm hp hB hz hk hS h1 h2 h3 => kx E u ce q H1 locs1 hB.1 ⟨by rw [← ht]; exact hB.2, hS, hw.2.2⟩ h1 h2 h3) (fun r u t H1 locs1 ht hvm hp hB hz hk hS => kk r u H1 locs1 hp ⟨by rw [← ht]; exact hB, hS, hw.2.2⟩)
theorem k_xv {post : Kp → Prop} {XE : String → Kp → Prop} (hw : Wa A D cA L ad s κ H locs) (hr : vx_Run p l e R s m args below meth c H locs cells slots mc ms (F0 m pc ls st0) rest (va_Qv post (Wp ((D, L), cA, ad)) (fr ((D, L), cA, ad) H.size) a) (xC ((D, L), cA, ad) H.size XE) (fr ((D, L), cA, ad) H.size))
    (kx : ∀ (E : String) (κ' : Kp) (ce : Cell) (q9 : Addr) (H1 : Heap) (locs1 : List Loc), XE E κ' → Wa A D cA L ad s κ' H1 locs1 → H1[q9]? = some ce → ce.vm = .none → s.vm.findClass E = some ce.cls → vx_W p l e R s m args below meth c H1 locs1 (cells + mc) (slots + ms) Q (F0 m pc ls rest) q9)
    (kk : ∀ (κ' : Kp) (H1 : Heap) (locs1 : List Loc), post κ' → Wa A D cA L ad s κ' H1 locs1 → W p l e R s m args below meth c H1 locs1 (cells + mc) (slots + ms) Q (F0 m (pc + 3) ls rest)) : W p l e R s m args below meth c H locs cells slots Q (F0 m pc ls st0) :=
  vx_callv hr hw.2.1 (fun q _ h => fr_lt hw q h) (fr_lt hw) (fun q _ h => fr_lt hw q h) (fun E ce q u t H1 locs1 ht hvm hp hB hz hk hS h1 h2 h3 => kx E u ce q H1 locs1 hB.1 ⟨by rw [← ht]; exact hB.2, hS, hw.2.2⟩ h1 h2 h3) (fun u t H1 locs1 ht hvm hp hB hz hk hS => kk u H1 locs1 hp ⟨by rw [← ht]; exact hB, hS, hw.2.2⟩)
theorem k_xe {post : Option Nat → Kp → Prop} {XE : String → Kp → Prop} (hw : Wa A D cA L ad s κ H locs) (hr : vx_Run p l e R s m args below meth c H locs cells slots mc ms (F0 m pc ls st0) rest (va_Qe ad post (Wp ((D, L), cA, ad)) (fr ((D, L), cA, ad) H.size) a) (xC ((D, L), cA, ad) H.size XE) (fr ((D, L), cA, ad) H.size))
    (kx : ∀ (E : String) (κ' : Kp) (ce : Cell) (q9 : Addr) (H1 : Heap) (locs1 : List Loc), XE E κ' → Wa A D cA L ad s κ' H1 locs1 → H1[q9]? = some ce → ce.vm = .none → s.vm.findClass E = some ce.cls → vx_W p l e R s m args below meth c H1 locs1 (cells + mc) (slots + ms) Q (F0 m pc ls rest) q9)
    (kk : ∀ (r : Option Nat) (κ' : Kp) (H1 : Heap) (locs1 : List Loc), post r κ' → Wa A D cA L ad s κ' H1 locs1 → W p l e R s m args below meth c H1 locs1 (cells + mc) (slots + ms) Q (F0 m (pc + 3) ls (va_re ad r :: rest))) : W p l e R s m args below meth c H locs cells slots Q (F0 m pc ls st0) := by
  intro T hT X
  rcases hr T hT X with ⟨v, st₀, t, T', L, h0, X', hL, e1, e2, ⟨⟨r, u, hv, hp, hb⟩, hF⟩, st⟩ | ⟨q, st₀, t, T', L, E, ce, h0, X', hL, e1, e2, ⟨u, hp, hb, hF⟩, hce, hcv, hcl, st⟩
  · cases hv
    obtain ⟨k1, k2, k3⟩ := vx_keep h0 e1 hw.2.1 (fun q _ h => fr_lt hw q h) (fr_lt hw) hL hF
    obtain ⟨t2, a1, b1⟩ := kk r u T'.heap (locs ++ L) hp ⟨by rw [e1]; exact hb, k3, hw.2.2⟩ T' rfl X'
    exact ⟨t2, st t2 a1, b1⟩
  · obtain ⟨k1, k2, k3⟩ := vx_keep h0 e1 hw.2.1 (fun q _ h => fr_lt hw q h) (fr_lt hw) hL hF
    obtain ⟨t2, a1, b1⟩ := kx E u ce q T'.heap (locs ++ L) hb.1 ⟨by rw [e1]; exact hb.2, k3, hw.2.2⟩ (by rw [e1]; exact hce) hcv hcl T' rfl X'
    exact ⟨t2, st.trans a1, b1⟩
end KC
section KCO
variable {p : Program} {l : Launch} {e : Env} {R : Room} {s : State} {m : MethodId} {args : Array Value} {below : List Frame} {meth : Method} {c : Code} {H : Heap} {locs : List Loc} {cells slots : Nat}
variable {cc : ByteArray} {pc nL mc ms : Nat} {ls : Array Slot} {rest : List Value} {g : Gt} {κ : Kp} {own : String} {Qc : Array Value → State → Outcome → State → Prop}
/-- not caught: on to the caller -/
theorem k_xout {XE : String → Kp → Prop} {E : String} {ce : Cell} {q9 : Addr} (hM : Mc g p s m args meth c cc nL own) (hno : ∀ x ∈ c.exceptionTable.toList, False) (hw : Ws g s κ H locs) (h1 : H[q9]? = some ce) (h2 : ce.vm = .none) (h3 : s.vm.findClass E = some ce.cls) (hx : XE E κ) (hc : cells ≤ mc) (hs : slots ≤ ms) :
    vx_W p l e R s m args below meth c H locs cells slots (vx_MQ below Qc (xC g s.heap.size XE) args s mc ms (fr g s.heap.size)) (F0 m pc ls rest) q9 :=
  vx_out (fun x h => (hno x h).elim) hM.2.2.2 h1 h2 h3 (fun t ht hvm => ⟨κ, trivial, ⟨hx, by show va_P _ _ _ t.heap; rw [ht]; exact hw.1⟩, hw.2.1.F ht⟩) hw.2.1.2.2 hc hs
end KCO
section KX2
variable {l : Launch}
/-- the entry of a method that may throw -/
theorem k_xenter {y : MethodName} {rm : Room} {g : Gt} {κ : Kp} {sz : Nat} {av : List Value} {Qc : Array Value → State → Outcome → State → Prop} {XC : String → State → State → Prop} {mc ms maxL : Nat} {cc : ByteArray} {ret : Option FieldType} (hy : plainName y.cls = true) (hlen : (lg_sl av).length ≤ maxL)
    (body : ∀ (p : Program) (e : Env) (s : State) (m : MethodId) (below : List Frame) (meth : Method) (c : Code) (ls : Array Slot), Mc g p s m av.toArray meth c cc maxL y.cls → (∀ x ∈ c.exceptionTable.toList, False) → meth.sig.returnType = ret → lv_has ls maxL (lv_args 0 av) → Ws g s κ s.heap [] → s.heap.size = sz →
      W p l e rm s m av.toArray below meth c s.heap [] 0 0 (vx_MQ below Qc XC av.toArray s mc ms (fr g s.heap.size)) (F0 m 0 ls [])) : vx_Met l y (Cond.code y cc maxL ret :: uW) rm (PRE g κ sz av) Qc XC mc ms (fr g sz) := by
  refine vx_ofW (cc := cc) (maxL := maxL) (ret := ret) hy rfl ?_
  intro p e s m args below meth c s₁ B hml hno hv
  obtain ⟨rfl, rfl, hP, hE⟩ := hv
  have hts := atoms_spec (ws := Cond.code y cc maxL ret :: uW) B.pre
  have hl := lv_entry av (n := maxL) hlen
  rw [lg_entry_eq]
  generalize (lg_sl av ++ List.replicate (maxL - (lg_sl av).length) Slot.unset).toArray = ls at hl ⊢
  exact body p e s m below meth c ls ⟨⟨B.exec, B.bytes, hml, findClass_of_methodNamed B.named, fun w h => hts w (List.mem_cons_of_mem _ h)⟩, hE.1, hE.2.2, B.notSynchronized⟩ hno B.returns hl ⟨hP, va_S.rf, hE.2.1, fun q hq => Or.inr hq⟩ rfl
end KX2
abbrev xnames : List String := ["java/lang/RuntimeException", "java/lang/Exception"]
section KT
variable {p : Program} {l : Launch} {e : Env} {R : Room} {s : State} {m : MethodId} {args : Array Value} {below : List Frame} {meth : Method} {c : Code} {H : Heap} {locs : List Loc} {cells slots mc ms : Nat}
variable {cc : ByteArray} {pc nL : Nat} {ls : Array Slot} {rest : List Value} {g : Gt} {κ : Kp} {Qc : Array Value → State → Outcome → State → Prop} {XE : String → Kp → Prop}
/-- throw new cls("text") -/
theorem k_throw {cls text : String} {ik is ic : Nat} (hl : l.stackTraces = false) (hM : Mc g p s m args meth c cc nL RX4) (hno : ∀ x ∈ c.exceptionTable.toList, False) (hw : Ws g s κ H locs) (hcls : Bundle.fit cls = true) (hk : Cond.classLink RX4 ik cls ∈ uW) (hini : Cond.initialized cls ∈ uW) (hstr : (is, text) ∈ strl)
    (hat : ∀ w ∈ (vx_atS RX4 ic cls xnames).filter goodWord, w ∈ uW) (hbad : ∀ w ∈ (vx_atS RX4 ic cls xnames).filter (fun w => !goodWord w), w ∈ nwl) (hgood : ∀ w ∈ Cond.classLink RX4 ik cls :: Cond.initialized cls :: vx_atS RX4 ic cls xnames, vx_ot w = true)
    (hls : ls.size = nL) (d0 : decode cc pc = .ok (.new ik, 3)) (d3 : decode cc (pc + 3) = .ok (.dup, 1)) (d4 : decode cc (pc + 4) = .ok (.ldc is, 2)) (d6 : decode cc (pc + 6) = .ok (.invokespecial ic, 3)) (d9 : decode cc (pc + 9) = .ok (.athrow, 1))
    (hRf : 5 < R.frames) (hRl : (rest.map fun v => v.category).sum + 82 ≤ R.locals) (hRc : cells + 1 ≤ R.cells) (hRs : slots + 6 ≤ R.slots) (hx : XE cls κ) (hc : cells + 1 ≤ mc) (hs : slots + 6 ≤ ms) :
    W p l e R s m args below meth c H locs cells slots (vx_MQ below Qc (xC g s.heap.size XE) args s mc ms (fr g s.heap.size)) (F0 m pc ls rest) := by
  obtain ⟨hK, h0⟩ := hM.2.1
  have hz := hM.2.2.1
  obtain ⟨sa, hsa⟩ := h0.2.1 _ hstr
  refine vx_throwS (names := xnames) (text := text) (A := fr g s.heap.size) hM.x hM.b hl hM.ow hcls (by decide +kernel) (hM.ts _ hk) (hM.ts _ hini) hsa ?_ hgood hz.1 hz.2 hw.2.1 (by rw [hM.ml]; exact hls) d0 d3 d4 d6 d9 (fun x h => (hno x h).elim) hRf hRl hRc hRs hM.2.2.2 (fun t hvm h1 h2 => ⟨κ, trivial, ⟨hx, ?_⟩, ?_⟩) hw.2.1.2.2 hc hs
  · refine vx_hat (B := nwl) (fun w hw => hM.ts _ (hat w hw)) hbad (fun w hw => va_Nw.use (nwl_tab hw) (h0.1 w hw))
  · exact hw.1.kept (fun k q hq => h2 q.1 ((hw.1 k q hq).lt))
  · exact ⟨Nat.le_trans hw.2.1.1 h1, fun q hq hn => by rw [h2 q (Nat.lt_of_lt_of_le hq hw.2.1.1)]; exact hw.2.1.2.1 q hq hn⟩
end KT
theorem xISE1 : ∀ w ∈ (vx_atS RX4 27 nISE xnames).filter goodWord, w ∈ uW := fun w h => List.mem_filter.mpr ⟨(by decide +kernel : ∀ w ∈ (vx_atS RX4 27 nISE xnames).filter goodWord, w ∈ lw_tbl) w h, (List.mem_filter.mp h).2⟩
theorem xISE2 : ∀ w ∈ (vx_atS RX4 27 nISE xnames).filter (fun w => !goodWord w), w ∈ nwl := by decide +kernel
theorem xISE3 : ∀ w ∈ Cond.classLink RX4 23 nISE :: Cond.initialized nISE :: vx_atS RX4 27 nISE xnames, vx_ot w = true := by decide +kernel
theorem xIAE1 : ∀ w ∈ (vx_atS RX4 38 nIAE xnames).filter goodWord, w ∈ uW := fun w h => List.mem_filter.mpr ⟨(by decide +kernel : ∀ w ∈ (vx_atS RX4 38 nIAE xnames).filter goodWord, w ∈ lw_tbl) w h, (List.mem_filter.mp h).2⟩
theorem xIAE2 : ∀ w ∈ (vx_atS RX4 38 nIAE xnames).filter (fun w => !goodWord w), w ∈ nwl := by decide +kernel
theorem xIAE3 : ∀ w ∈ Cond.classLink RX4 34 nIAE :: Cond.initialized nIAE :: vx_atS RX4 38 nIAE xnames, vx_ot w = true := by decide +kernel
theorem xIOE1 : ∀ w ∈ (vx_atS RX4 159 nIOE xnames).filter goodWord, w ∈ uW := fun w h => List.mem_filter.mpr ⟨(by decide +kernel : ∀ w ∈ (vx_atS RX4 159 nIOE xnames).filter goodWord, w ∈ lw_tbl) w h, (List.mem_filter.mp h).2⟩
theorem xIOE2 : ∀ w ∈ (vx_atS RX4 159 nIOE xnames).filter (fun w => !goodWord w), w ∈ nwl := by decide +kernel
theorem xIOE3 : ∀ w ∈ Cond.classLink RX4 155 nIOE :: Cond.initialized nIOE :: vx_atS RX4 159 nIOE xnames, vx_ot w = true := by decide +kernel
section KX
variable {l : Launch}
/-- a method's entry -/
theorem k_enter {y : MethodName} {rm : Room} {g : Gt} {κ : Kp} {sz : Nat} {av : List Value} {Qc : Array Value → State → Outcome → State → Prop} {mc ms maxL : Nat} {cc : ByteArray} {ret : Option FieldType} (hy : plainName y.cls = true) (hlen : (lg_sl av).length ≤ maxL)
    (body : ∀ (p : Program) (e : Env) (s : State) (m : MethodId) (below : List Frame) (meth : Method) (c : Code) (ls : Array Slot), Mc g p s m av.toArray meth c cc maxL y.cls → meth.sig.returnType = ret → lv_has ls maxL (lv_args 0 av) → Ws g s κ s.heap [] → s.heap.size = sz →
      W p l e rm s m av.toArray below meth c s.heap [] 0 0 (MQ below Qc av.toArray s mc ms (fr g s.heap.size)) (F0 m 0 ls [])) : Met l y (Cond.code y cc maxL ret :: uW) rm (PRE g κ sz av) Qc mc ms (fr g sz) := by
  refine Met.ofW (cc := cc) (maxL := maxL) (ret := ret) hy rfl ?_
  intro p e s m args below meth c s₁ B hml hv
  obtain ⟨rfl, rfl, hP, hE⟩ := hv
  have hts := atoms_spec (ws := Cond.code y cc maxL ret :: uW) B.pre
  have hl := lv_entry av (n := maxL) hlen
  rw [lg_entry_eq]
  generalize (lg_sl av ++ List.replicate (maxL - (lg_sl av).length) Slot.unset).toArray = ls at hl ⊢
  exact body p e s m below meth c ls ⟨⟨B.exec, B.bytes, hml, findClass_of_methodNamed B.named, fun w h => hts w (List.mem_cons_of_mem _ h)⟩, hE.1, hE.2.2, B.notSynchronized⟩ B.returns hl ⟨hP, va_S.rf, hE.2.1, fun q hq => Or.inr hq⟩ rfl
end KX
section KE
variable {p : Program} {l : Launch} {e : Env} {R : Room} {s : State} {m : MethodId} {args : Array Value} {below : List Frame} {meth : Method} {c : Code} {H : Heap} {locs : List Loc} {cells slots mc ms : Nat}
variable {cc : ByteArray} {pc nL : Nat} {ls : Array Slot} {g : Gt} {κ : Kp} {own : String}
theorem k_iret {v : Int32} {post : Int32 → Kp → Prop} (hM : Mc g p s m args meth c cc nL own) (hr : meth.sig.returnType = some .int) (hw : Ws g s κ H locs) (hc : cells ≤ mc) (hs : slots ≤ ms) (hp : post v κ) (hdg : decode cc pc = .ok (.ireturn, 1)) :
    W p l e R s m args below meth c H locs cells slots (MQ below (va_Qi post (Wp g) (fr g s.heap.size)) args s mc ms (fr g s.heap.size)) (F0 m pc ls [.int v]) :=
  W.widen hc hs (W.iret hM.x hM.b hr (fun t ht hW => ⟨⟨v, κ, rfl, hp, by show va_P _ _ _ t.heap; rw [ht]; exact hw.1⟩, hw.2.1.F ht⟩) hw.2.1.2.2 hdg hM.2.2.2)
theorem k_zret {b : Bool} {post : Int32 → Kp → Prop} (hM : Mc g p s m args meth c cc nL own) (hr : meth.sig.returnType = some .boolean) (hw : Ws g s κ H locs) (hc : cells ≤ mc) (hs : slots ≤ ms) (hp : post (bi b) κ) (hdg : decode cc pc = .ok (.ireturn, 1)) :
    W p l e R s m args below meth c H locs cells slots (MQ below (va_Qi post (Wp g) (fr g s.heap.size)) args s mc ms (fr g s.heap.size)) (F0 m pc ls [.int (bi b)]) :=
  W.widen hc hs (W.zret hM.x hM.b hr (bi_narrow b) (fun t ht hW => ⟨⟨bi b, κ, rfl, hp, by show va_P _ _ _ t.heap; rw [ht]; exact hw.1⟩, hw.2.1.F ht⟩) hw.2.1.2.2 hdg hM.2.2.2)
theorem k_vret {post : Kp → Prop} (hM : Mc g p s m args meth c cc nL own) (hr : meth.sig.returnType = none) (hw : Ws g s κ H locs) (hc : cells ≤ mc) (hs : slots ≤ ms) (hp : post κ) (hdg : decode cc pc = .ok (.return_, 1)) :
    W p l e R s m args below meth c H locs cells slots (MQ below (va_Qv post (Wp g) (fr g s.heap.size)) args s mc ms (fr g s.heap.size)) (F0 m pc ls []) :=
  W.widen hc hs (W.vret hM.x hM.b hr (fun t ht hW => ⟨⟨κ, rfl, hp, by show va_P _ _ _ t.heap; rw [ht]; exact hw.1⟩, hw.2.1.F ht⟩) hw.2.1.2.2 hdg hM.2.2.2)
theorem k_lret {v : Int64} {post : Int64 → Kp → Prop} (hM : Mc g p s m args meth c cc nL own) (hr : meth.sig.returnType = some .long) (hw : Ws g s κ H locs) (hc : cells ≤ mc) (hs : slots ≤ ms) (hp : post v κ) (hdg : decode cc pc = .ok (.lreturn, 1)) :
    W p l e R s m args below meth c H locs cells slots (MQ below (va_Ql post (Wp g) (fr g s.heap.size)) args s mc ms (fr g s.heap.size)) (F0 m pc ls [.long v]) :=
  W.widen hc hs (W.lret hM.x hM.b hr (fun t ht hW => ⟨⟨v, κ, rfl, hp, by show va_P _ _ _ t.heap; rw [ht]; exact hw.1⟩, hw.2.1.F ht⟩) hw.2.1.2.2 hdg hM.2.2.2)
/-- an answer that is one of the cells, or null -/
theorem k_eret {v : Option Nat} {rt : String} {post : Option Nat → Kp → Prop} (hM : Mc g p s m args meth c cc nL own) (hr : meth.sig.returnType = some (.object rt)) (hw : Ws g s κ H locs) (hc : cells ≤ mc) (hs : slots ≤ ms) (hp : post v κ) (hdg : decode cc pc = .ok (.areturn, 1)) :
    W p l e R s m args below meth c H locs cells slots (MQ below (va_Qe g.2.2 post (Wp g) (fr g s.heap.size)) args s mc ms (fr g s.heap.size)) (F0 m pc ls [va_re g.2.2 v]) :=
  W.widen hc hs (W.aret hM.x hM.b hr (Or.inl ⟨_, rfl⟩) (va_re_or _ _) (fun t ht hW => ⟨⟨v, κ, rfl, hp, by show va_P _ _ _ t.heap; rw [ht]; exact hw.1⟩, hw.2.1.F ht⟩) hw.2.1.2.2 hdg hM.2.2.2)
end KE
end
section
theorem vpin1 {x M : Int32} {n : Nat} (hM : M.toInt = n) (h0 : ¬ x < 0) (h1 : ¬ M ≤ x) : vp_in x n := by
  rw [vp_in_iff, ← hM]
  rw [Int32.lt_iff_toInt_lt] at h0
  rw [Int32.le_iff_toInt_le] at h1
  have e0 : (0 : Int32).toInt = 0 := rfl
  omega
theorem vpin2 {x M : Int32} {n : Nat} (hM : M.toInt = n) (h0 : ¬ x < 0) (h1 : x < M) : vp_in x n := by
  rw [vp_in_iff, ← hM]
  rw [Int32.lt_iff_toInt_lt] at h0 h1
  have e0 : (0 : Int32).toInt = 0 := rfl
  omega
theorem vpin_lt {x : Int32} {n : Nat} (h : vp_in x n) : x.toNatClampNeg < n := Nat.not_le.mp fun q => h (Or.inr q)
theorem nz_pos1 {y : Int32} (h : ¬ y ≤ 0) : ¬ y = 0 := by
  rintro rfl
  exact h (by decide)
theorem nz_pos2 {y : Int32} (h : 0 < y) : ¬ y = 0 := by
  rintro rfl
  exact absurd h (by decide)
section KN
variable {p : Program} {l : Launch} {e : Env} {R : Room} {s : State} {m : MethodId} {args : Array Value} {below : List Frame} {meth : Method} {c : Code} {H : Heap} {locs : List Loc} {cells slots : Nat} {Q : State → Prop}
variable {cc : ByteArray} {pc nL mc ms : Nat} {ls : Array Slot} {rest st0 : List Value} {A : Nat → Prop} {D : va_G} {cA : Nat → ClassId} {L : List Nat} {ad : Nat → Nat} {κ : Kp} {own : String} {k : Nat} {arr : Array Value}
theorem k_iaddN {a b : Nat} (hM : Ma A D cA p s m args meth c cc nL own) (hdg : decode cc pc = .ok (.iadd, 1)) (kk : W p l e R s m args below meth c H locs cells slots Q (F0 m (pc + 1) ls (.int (nI (a + b)) :: rest))) : W p l e R s m args below meth c H locs cells slots Q (F0 m pc ls (.int (nI b) :: .int (nI a) :: rest)) :=
  lv_iadd hM.x hM.b hdg (by rw [nI_add]; exact kk)
theorem k_imulN {a b : Nat} (hM : Ma A D cA p s m args meth c cc nL own) (hdg : decode cc pc = .ok (.imul, 1)) (kk : W p l e R s m args below meth c H locs cells slots Q (F0 m (pc + 1) ls (.int (nI (a * b)) :: rest))) : W p l e R s m args below meth c H locs cells slots Q (F0 m pc ls (.int (nI b) :: .int (nI a) :: rest)) :=
  lv_imul hM.x hM.b hdg (by rw [pk_mul]; exact kk)
theorem k_ialdN {n i : Nat} (hM : Ma A D cA p s m args meth c cc nL own) (hw : Wa A D cA L ad s κ H locs) (hk : k ∈ L) (hsh : sh cA ad k (κ k) = .inl (cA 0, n, .inl (κ k))) (hi : i < n) (hn : n < 2 ^ 31) (hdg : decode cc pc = .ok (.iaload, 1))
    (kk : W p l e R s m args below meth c H locs cells slots Q (F0 m (pc + 1) ls (.int (κ k i) :: rest))) : W p l e R s m args below meth c H locs cells slots Q (F0 m pc ls (.int (nI i) :: .ref (ad k) :: rest)) :=
  k_iald hM hw hk hsh (vp_in_nI hi hn) hdg (by rw [nI_clamp (Nat.lt_trans hi hn)]; exact kk)
theorem k_iastN {n i : Nat} {x : Int32} (hM : Ma A D cA p s m args meth c cc nL own) (hw : Wa A D cA L ad s κ H locs) (hk : k ∈ L) (hsh : ∀ r : Nat → Int32, sh cA ad k r = .inl (cA 0, n, .inl r)) (hi : i < n) (hn : n < 2 ^ 31) (hdg : decode cc pc = .ok (.iastore, 1))
    (kk : ∀ (H1 : Heap) (locs1 : List Loc), Wa A D cA L ad s (up2 κ k i x) H1 locs1 → W p l e R s m args below meth c H1 locs1 cells slots Q (F0 m (pc + 1) ls rest)) : W p l e R s m args below meth c H locs cells slots Q (F0 m pc ls (.int x :: .int (nI i) :: .ref (ad k) :: rest)) :=
  k_iast hM hw hk hsh (vp_in_nI hi hn) hdg (by rw [nI_clamp (Nat.lt_trans hi hn)]; exact kk)
theorem k_ald7N {i : Nat} (hM : Ma A D cA p s m args meth c cc nL own) (hw : Wa A D cA L ad s κ H locs) (h : kd k = 1) (hi : i < 3) (hdg : decode cc pc = .ok (.aaload, 1))
    (kk : W p l e R s m args below meth c H locs cells slots Q (F0 m (pc + 1) ls (.ref (ad (k + 4 + i)) :: rest))) : W p l e R s m args below meth c H locs cells slots Q (F0 m pc ls (.int (nI i) :: .ref (ad (k + 1)) :: rest)) :=
  k_ald7 hM hw h (vp_in_nI hi (by decide)) hdg (by rw [nI_clamp (by omega)]; exact kk)
theorem k_ald8N {i : Nat} (hM : Ma A D cA p s m args meth c cc nL own) (hw : Wa A D cA L ad s κ H locs) (h : kd k = 1) (hi : i < 6) (hdg : decode cc pc = .ok (.aaload, 1))
    (kk : W p l e R s m args below meth c H locs cells slots Q (F0 m (pc + 1) ls (.ref (ad (k + 7 + i)) :: rest))) : W p l e R s m args below meth c H locs cells slots Q (F0 m pc ls (.int (nI i) :: .ref (ad (k + 2)) :: rest)) :=
  k_ald8 hM hw h (vp_in_nI hi (by decide)) hdg (by rw [nI_clamp (by omega)]; exact kk)
theorem k_ald9N {i : Nat} (hM : Ma A D cA p s m args meth c cc nL own) (hw : Wa A D cA L ad s κ H locs) (h : kd k = 1) (hi : i < 16) (hdg : decode cc pc = .ok (.aaload, 1))
    (kk : W p l e R s m args below meth c H locs cells slots Q (F0 m (pc + 1) ls (.ref (ad (k + 13 + 2 * i)) :: rest))) : W p l e R s m args below meth c H locs cells slots Q (F0 m pc ls (.int (nI i) :: .ref (ad (k + 3)) :: rest)) :=
  k_ald9 hM hw h (vp_in_nI hi (by decide)) hdg (by rw [nI_clamp (by omega)]; exact kk)
theorem k_cepO {v : Option Nat} (hw : Wa A D cA L ad s κ H locs) (hr : va_Run p l e R s m args below meth c H locs cells slots mc ms (F0 m pc ls st0) rest (va_Qe ad (fun r κ' => r = v ∧ κ' = κ) (Wp ((D, L), cA, ad)) (fr ((D, L), cA, ad) H.size) arr) (fr ((D, L), cA, ad) H.size))
    (kn : ∀ (H1 : Heap) (locs1 : List Loc), v = none → Wa A D cA L ad s κ H1 locs1 → W p l e R s m args below meth c H1 locs1 (cells + mc) (slots + ms) Q (F0 m (pc + 3) ls (.null :: rest)))
    (kk : ∀ (p1 : Nat) (H1 : Heap) (locs1 : List Loc), v = some p1 → Wa A D cA L ad s κ H1 locs1 → W p l e R s m args below meth c H1 locs1 (cells + mc) (slots + ms) Q (F0 m (pc + 3) ls (.ref (ad p1) :: rest))) : W p l e R s m args below meth c H locs cells slots Q (F0 m pc ls st0) := by
  refine k_cep hw hr (fun H1 locs1 hw1 => ?_)
  cases v with
  | none => exact kn H1 locs1 rfl hw1
  | some p1 => exact kk p1 H1 locs1 rfl hw1
end KN
end
section
theorem nIle {a b : Nat} (ha : a < 2 ^ 31) (hb : b < 2 ^ 31) : nI a ≤ nI b ↔ a ≤ b := by
  rw [Int32.le_iff_toInt_le, nI_toInt ha, nI_toInt hb]; omega
theorem nIlt {a b : Nat} (ha : a < 2 ^ 31) (hb : b < 2 ^ 31) : nI a < nI b ↔ a < b := by
  rw [Int32.lt_iff_toInt_lt, nI_toInt ha, nI_toInt hb]; omega
theorem nIeq {a b : Nat} (ha : a < 2 ^ 31) (hb : b < 2 ^ 31) : nI a = nI b ↔ a = b := by
  constructor
  · intro h
    have h2 := congrArg Int32.toInt h
    rw [nI_toInt ha, nI_toInt hb] at h2
    omega
  · rintro rfl; rfl
theorem nI0 {a : Nat} (ha : a < 2 ^ 31) : ¬ nI a < 0 := by
  show ¬ nI a < nI 0
  rw [nIlt ha (by decide)]; omega
end
section
theorem q_X0_burn : hdV yX0_burn RX0 1 := ⟨rfl, by decide +kernel, by decide +kernel, by decide +kernel⟩
def f_X0_burn (κ : Kp) (k : Nat) (a : Int32) : Kp := if (κ (k) 0) ≤ 0 then ((fun κ1 : Kp => (fun κ2 : Kp => κ2) (up2 κ1 (k) 2 (0))) (up2 κ (k) 1 ((if (0) < ((if (((κ (k) 1) + (((κ (k) 2) + ((-1)))))) < (9) then (((κ (k) 1) + (((κ (k) 2) + ((-1)))))) else (9))) then ((if (((κ (k) 1) + (((κ (k) 2) + ((-1)))))) < (9) then (((κ (k) 1) + (((κ (k) 2) + ((-1)))))) else (9))) else (0))))) else (if (((a) - (a) / (5) * (5))) = 0 then ((fun κ5 : Kp => (fun κ6 : Kp => (fun κ7 : Kp => κ7) (up2 κ6 (k) 2 (0))) (up2 κ5 (k) 1 ((if (0) < ((if (((κ5 (k) 1) + (((κ (k) 2) + (1))))) < (9) then (((κ5 (k) 1) + (((κ (k) 2) + (1))))) else (9))) then ((if (((κ5 (k) 1) + (((κ (k) 2) + (1))))) < (9) then (((κ5 (k) 1) + (((κ (k) 2) + (1))))) else (9))) else (0))))) (up2 κ (k) 0 (((κ (k) 0) - (1))))) else ((fun κ3 : Kp => (fun κ4 : Kp => κ4) (up2 κ3 (k) 2 (0))) (up2 κ (k) 1 ((if (0) < ((if (((κ (k) 1) + (((κ (k) 2) + (1))))) < (9) then (((κ (k) 1) + (((κ (k) 2) + (1))))) else (9))) then ((if (((κ (k) 1) + (((κ (k) 2) + (1))))) < (9) then (((κ (k) 1) + (((κ (k) 2) + (1))))) else (9))) else (0))))))
set_option maxRecDepth 100000 in
set_option maxHeartbeats 4000000 in
theorem m_X0_burn (l : Launch) (g : Gt) (κ : Kp) (sz : Nat) (k : Nat) (a : Int32) (hk : kd k = 0) : Met l yX0_burn (.code yX0_burn cX0_burn 3 none :: uW) { frames := 1, cells := 0, slots := 0, locals := 30 } (PRE g κ sz [.ref (g.2.2 (k)), .int (a)]) (va_Qv (fun κ' => κ' = f_X0_burn κ k a) (Wp g) (fr g sz)) 0 0 (fr g sz) := by
  refine k_enter (by decide +kernel) (Nat.le_of_ble_eq_true rfl) ?_
  intro p e s m below meth c ls hM hr hl hw hsz
  subst hsz
  have hl : lv_has ls 3 [(0, .ref (g.2.2 (k))), (1, .int (a))] := hl
  have hF := f_X0_burn.eq_1 κ k a
  refine lv_aload_n hM.x hM.b dX0_burn_0 rfl (lv_at hl 0 rfl) ?_
  refine k_get0 2 hM hw hk (by decide) u_fl_X0_18 dX0_burn_1 ?_
  refine lv_aload_n hM.x hM.b dX0_burn_4 rfl (lv_at hl 0 rfl) ?_
  refine k_get0 0 hM hw hk (by decide) u_fl_X0_9 dX0_burn_5 ?_
  refine lv_if_le (tgt := 15) hM.x hM.b dX0_burn_8 (by decide) (fun c1 => ?_) (fun c1 => ?_)
  · rw [if_pos c1] at hF
    refine lv_iconst (v := -1) hM.x hM.b dX0_burn_15 (by decide) ?_
    refine lv_iadd hM.x hM.b dX0_burn_16 ?_
    refine lv_istore_n (lv' := [(2, .int (((κ (k) 2) + ((-1))))), (0, .ref (g.2.2 (k))), (1, .int (a))]) hM.x hM.b dX0_burn_17 rfl hl (by decide) rfl (fun ls hl => ?_)
    refine lv_aload_n hM.x hM.b dX0_burn_18 rfl (lv_at hl 1 rfl) ?_
    refine k_get0 0 hM hw hk (by decide) u_fl_X0_9 dX0_burn_19 ?_
    refine lv_if_le (tgt := 41) hM.x hM.b dX0_burn_22 (by decide) (fun _ => ?_) (fun cz => absurd c1 cz)
    refine lv_aload_n hM.x hM.b dX0_burn_41 rfl (lv_at hl 1 rfl) ?_
    refine lv_iconst (v := 0) hM.x hM.b dX0_burn_42 (by decide) ?_
    refine lv_bipush (v := 9) hM.x hM.b dX0_burn_43 (by decide) ?_
    refine lv_aload_n hM.x hM.b dX0_burn_45 rfl (lv_at hl 1 rfl) ?_
    refine k_get0 1 hM hw hk (by decide) u_fl_X0_15 dX0_burn_46 ?_
    refine lv_iload_n hM.x hM.b dX0_burn_49 rfl (lv_at hl 0 rfl) ?_
    refine lv_iadd hM.x hM.b dX0_burn_50 ?_
    refine va_mmin hM.x hM.b (hM.ml.trans hl.1.symm) hM.ow (hM.ts _ u_ml_X0_21) (hM.ts _ u_st_JM_min) (hM.ts _ u_ini_JM) (hM.ts _ u_co_JM_min) (Nat.le_of_ble_eq_true rfl) (Nat.le_of_ble_eq_true rfl) (Nat.le_of_ble_eq_true rfl) (Nat.le_of_ble_eq_true rfl) dX0_burn_51 ?_
    refine va_mmax hM.x hM.b (hM.ml.trans hl.1.symm) hM.ow (hM.ts _ u_ml_X0_27) (hM.ts _ u_st_JM_max) (hM.ts _ u_ini_JM) (hM.ts _ u_co_JM_max) (Nat.le_of_ble_eq_true rfl) (Nat.le_of_ble_eq_true rfl) (Nat.le_of_ble_eq_true rfl) (Nat.le_of_ble_eq_true rfl) dX0_burn_54 ?_
    refine k_put0 1 hM hw hk (by decide) u_fl_X0_15 dX0_burn_57 (fun H locs hw => ?_)
    obtain ⟨κ1, eκ1⟩ : ∃ z : Kp, up2 κ (k) 1 ((if (0) < ((if (((κ (k) 1) + (((κ (k) 2) + ((-1)))))) < (9) then (((κ (k) 1) + (((κ (k) 2) + ((-1)))))) else (9))) then ((if (((κ (k) 1) + (((κ (k) 2) + ((-1)))))) < (9) then (((κ (k) 1) + (((κ (k) 2) + ((-1)))))) else (9))) else (0))) = z := ⟨_, rfl⟩
    rw [eκ1] at hw
    rw [eκ1] at hF
    try dsimp only at hF
    refine lv_aload_n hM.x hM.b dX0_burn_60 rfl (lv_at hl 1 rfl) ?_
    refine lv_iconst (v := 0) hM.x hM.b dX0_burn_61 (by decide) ?_
    refine k_put0 2 hM hw hk (by decide) u_fl_X0_18 dX0_burn_62 (fun H locs hw => ?_)
    obtain ⟨κ2, eκ2⟩ : ∃ z : Kp, up2 κ1 (k) 2 (0) = z := ⟨_, rfl⟩
    rw [eκ2] at hw
    rw [eκ2] at hF
    try dsimp only at hF
    exact k_vret hM hr hw (Nat.le_of_ble_eq_true rfl) (Nat.le_of_ble_eq_true rfl) hF.symm dX0_burn_65
  · rw [if_neg c1] at hF
    refine lv_iconst (v := 1) hM.x hM.b dX0_burn_11 (by decide) ?_
    refine lv_goto (tgt := 16) hM.x hM.b dX0_burn_12 (by decide) ?_
    refine lv_iadd hM.x hM.b dX0_burn_16 ?_
    refine lv_istore_n (lv' := [(2, .int (((κ (k) 2) + (1)))), (0, .ref (g.2.2 (k))), (1, .int (a))]) hM.x hM.b dX0_burn_17 rfl hl (by decide) rfl (fun ls hl => ?_)
    refine lv_aload_n hM.x hM.b dX0_burn_18 rfl (lv_at hl 1 rfl) ?_
    refine k_get0 0 hM hw hk (by decide) u_fl_X0_9 dX0_burn_19 ?_
    refine lv_if_le (tgt := 41) hM.x hM.b dX0_burn_22 (by decide) (fun cz => absurd cz c1) (fun _ => ?_)
    refine lv_iload_n hM.x hM.b dX0_burn_25 rfl (lv_at hl 2 rfl) ?_
    refine lv_iconst (v := 5) hM.x hM.b dX0_burn_26 (by decide) ?_
    refine lv_irem hM.x hM.b dX0_burn_27 (by decide) ?_
    refine lv_if_ne (tgt := 41) hM.x hM.b dX0_burn_28 (by decide) (fun c2 => ?_) (fun c2 => ?_)
    · rw [if_neg c2] at hF
      refine lv_aload_n hM.x hM.b dX0_burn_41 rfl (lv_at hl 1 rfl) ?_
      refine lv_iconst (v := 0) hM.x hM.b dX0_burn_42 (by decide) ?_
      refine lv_bipush (v := 9) hM.x hM.b dX0_burn_43 (by decide) ?_
      refine lv_aload_n hM.x hM.b dX0_burn_45 rfl (lv_at hl 1 rfl) ?_
      refine k_get0 1 hM hw hk (by decide) u_fl_X0_15 dX0_burn_46 ?_
      refine lv_iload_n hM.x hM.b dX0_burn_49 rfl (lv_at hl 0 rfl) ?_
      refine lv_iadd hM.x hM.b dX0_burn_50 ?_
      refine va_mmin hM.x hM.b (hM.ml.trans hl.1.symm) hM.ow (hM.ts _ u_ml_X0_21) (hM.ts _ u_st_JM_min) (hM.ts _ u_ini_JM) (hM.ts _ u_co_JM_min) (Nat.le_of_ble_eq_true rfl) (Nat.le_of_ble_eq_true rfl) (Nat.le_of_ble_eq_true rfl) (Nat.le_of_ble_eq_true rfl) dX0_burn_51 ?_
      refine va_mmax hM.x hM.b (hM.ml.trans hl.1.symm) hM.ow (hM.ts _ u_ml_X0_27) (hM.ts _ u_st_JM_max) (hM.ts _ u_ini_JM) (hM.ts _ u_co_JM_max) (Nat.le_of_ble_eq_true rfl) (Nat.le_of_ble_eq_true rfl) (Nat.le_of_ble_eq_true rfl) (Nat.le_of_ble_eq_true rfl) dX0_burn_54 ?_
      refine k_put0 1 hM hw hk (by decide) u_fl_X0_15 dX0_burn_57 (fun H locs hw => ?_)
      obtain ⟨κ3, eκ3⟩ : ∃ z : Kp, up2 κ (k) 1 ((if (0) < ((if (((κ (k) 1) + (((κ (k) 2) + (1))))) < (9) then (((κ (k) 1) + (((κ (k) 2) + (1))))) else (9))) then ((if (((κ (k) 1) + (((κ (k) 2) + (1))))) < (9) then (((κ (k) 1) + (((κ (k) 2) + (1))))) else (9))) else (0))) = z := ⟨_, rfl⟩
      rw [eκ3] at hw
      rw [eκ3] at hF
      try dsimp only at hF
      refine lv_aload_n hM.x hM.b dX0_burn_60 rfl (lv_at hl 1 rfl) ?_
      refine lv_iconst (v := 0) hM.x hM.b dX0_burn_61 (by decide) ?_
      refine k_put0 2 hM hw hk (by decide) u_fl_X0_18 dX0_burn_62 (fun H locs hw => ?_)
      obtain ⟨κ4, eκ4⟩ : ∃ z : Kp, up2 κ3 (k) 2 (0) = z := ⟨_, rfl⟩
      rw [eκ4] at hw
      rw [eκ4] at hF
      try dsimp only at hF
      exact k_vret hM hr hw (Nat.le_of_ble_eq_true rfl) (Nat.le_of_ble_eq_true rfl) hF.symm dX0_burn_65
    · rw [if_pos c2] at hF
      refine lv_aload_n hM.x hM.b dX0_burn_31 rfl (lv_at hl 1 rfl) ?_
      refine lv_dup hM.x hM.b dX0_burn_32 rfl ?_
      refine k_get0 0 hM hw hk (by decide) u_fl_X0_9 dX0_burn_33 ?_
      refine lv_iconst (v := 1) hM.x hM.b dX0_burn_36 (by decide) ?_
      refine lv_isub hM.x hM.b dX0_burn_37 ?_
      refine k_put0 0 hM hw hk (by decide) u_fl_X0_9 dX0_burn_38 (fun H locs hw => ?_)
      obtain ⟨κ5, eκ5⟩ : ∃ z : Kp, up2 κ (k) 0 (((κ (k) 0) - (1))) = z := ⟨_, rfl⟩
      rw [eκ5] at hw
      rw [eκ5] at hF
      try dsimp only at hF
      refine lv_aload_n hM.x hM.b dX0_burn_41 rfl (lv_at hl 1 rfl) ?_
      refine lv_iconst (v := 0) hM.x hM.b dX0_burn_42 (by decide) ?_
      refine lv_bipush (v := 9) hM.x hM.b dX0_burn_43 (by decide) ?_
      refine lv_aload_n hM.x hM.b dX0_burn_45 rfl (lv_at hl 1 rfl) ?_
      refine k_get0 1 hM hw hk (by decide) u_fl_X0_15 dX0_burn_46 ?_
      refine lv_iload_n hM.x hM.b dX0_burn_49 rfl (lv_at hl 0 rfl) ?_
      refine lv_iadd hM.x hM.b dX0_burn_50 ?_
      refine va_mmin hM.x hM.b (hM.ml.trans hl.1.symm) hM.ow (hM.ts _ u_ml_X0_21) (hM.ts _ u_st_JM_min) (hM.ts _ u_ini_JM) (hM.ts _ u_co_JM_min) (Nat.le_of_ble_eq_true rfl) (Nat.le_of_ble_eq_true rfl) (Nat.le_of_ble_eq_true rfl) (Nat.le_of_ble_eq_true rfl) dX0_burn_51 ?_
      refine va_mmax hM.x hM.b (hM.ml.trans hl.1.symm) hM.ow (hM.ts _ u_ml_X0_27) (hM.ts _ u_st_JM_max) (hM.ts _ u_ini_JM) (hM.ts _ u_co_JM_max) (Nat.le_of_ble_eq_true rfl) (Nat.le_of_ble_eq_true rfl) (Nat.le_of_ble_eq_true rfl) (Nat.le_of_ble_eq_true rfl) dX0_burn_54 ?_
      refine k_put0 1 hM hw hk (by decide) u_fl_X0_15 dX0_burn_57 (fun H locs hw => ?_)
      obtain ⟨κ6, eκ6⟩ : ∃ z : Kp, up2 κ5 (k) 1 ((if (0) < ((if (((κ5 (k) 1) + (((κ (k) 2) + (1))))) < (9) then (((κ5 (k) 1) + (((κ (k) 2) + (1))))) else (9))) then ((if (((κ5 (k) 1) + (((κ (k) 2) + (1))))) < (9) then (((κ5 (k) 1) + (((κ (k) 2) + (1))))) else (9))) else (0))) = z := ⟨_, rfl⟩
      rw [eκ6] at hw
      rw [eκ6] at hF
      try dsimp only at hF
      refine lv_aload_n hM.x hM.b dX0_burn_60 rfl (lv_at hl 1 rfl) ?_
      refine lv_iconst (v := 0) hM.x hM.b dX0_burn_61 (by decide) ?_
      refine k_put0 2 hM hw hk (by decide) u_fl_X0_18 dX0_burn_62 (fun H locs hw => ?_)
      obtain ⟨κ7, eκ7⟩ : ∃ z : Kp, up2 κ6 (k) 2 (0) = z := ⟨_, rfl⟩
      rw [eκ7] at hw
      rw [eκ7] at hF
      try dsimp only at hF
      exact k_vret hM hr hw (Nat.le_of_ble_eq_true rfl) (Nat.le_of_ble_eq_true rfl) hF.symm dX0_burn_65
theorem q_X3_countAnew : hdV yX3_countAnew RX3 1 := ⟨rfl, by decide +kernel, by decide +kernel, by decide +kernel⟩
def f_X3_countAnew (κ : Kp) (k : Nat) (a : Int32) : Kp := (fun κ1 : Kp => (fun κ2 : Kp => κ2) (up2 κ1 (k) 3 (0))) (up2 κ (k) 2 (a))
set_option maxRecDepth 100000 in
set_option maxHeartbeats 4000000 in
theorem m_X3_countAnew (l : Launch) (g : Gt) (κ : Kp) (sz : Nat) (k : Nat) (a : Int32) (hk : kd k = 3) : Met l yX3_countAnew (.code yX3_countAnew cX3_countAnew 2 none :: uW) { frames := 0, cells := 0, slots := 0, locals := 0 } (PRE g κ sz [.ref (g.2.2 (k)), .int (a)]) (va_Qv (fun κ' => κ' = f_X3_countAnew κ k a) (Wp g) (fr g sz)) 0 0 (fr g sz) := by
  refine k_enter (by decide +kernel) (Nat.le_of_ble_eq_true rfl) ?_
  intro p e s m below meth c ls hM hr hl hw hsz
  subst hsz
  have hl : lv_has ls 2 [(0, .ref (g.2.2 (k))), (1, .int (a))] := hl
  have hF := f_X3_countAnew.eq_1 κ k a
  refine lv_aload_n hM.x hM.b dX3_countAnew_0 rfl (lv_at hl 0 rfl) ?_
  refine lv_iload_n hM.x hM.b dX3_countAnew_1 rfl (lv_at hl 1 rfl) ?_
  refine k_put3 2 hM hw hk (by decide) u_fl_X3_21 dX3_countAnew_2 (fun H locs hw => ?_)
  obtain ⟨κ1, eκ1⟩ : ∃ z : Kp, up2 κ (k) 2 (a) = z := ⟨_, rfl⟩
  rw [eκ1] at hw
  rw [eκ1] at hF
  try dsimp only at hF
  refine lv_aload_n hM.x hM.b dX3_countAnew_5 rfl (lv_at hl 0 rfl) ?_
  refine lv_iconst (v := 0) hM.x hM.b dX3_countAnew_6 (by decide) ?_
  refine k_put3 3 hM hw hk (by decide) u_fl_X3_24 dX3_countAnew_7 (fun H locs hw => ?_)
  obtain ⟨κ2, eκ2⟩ : ∃ z : Kp, up2 κ1 (k) 3 (0) = z := ⟨_, rfl⟩
  rw [eκ2] at hw
  rw [eκ2] at hF
  try dsimp only at hF
  exact k_vret hM hr hw (Nat.le_of_ble_eq_true rfl) (Nat.le_of_ble_eq_true rfl) hF.symm dX3_countAnew_10
theorem q_X3_countsToTurn : hdV yX3_countsToTurn RX3 0 := ⟨rfl, by decide +kernel, by decide +kernel, by decide +kernel⟩
def f_X3_countsToTurn (κ : Kp) (k : Nat) : Int32 × Kp := (fun κ1 : Kp => if (κ1 (k) 2) ≤ 0 then ((bi false, κ1)) else (if (((κ1 (k) 3) - (κ1 (k) 3) / (κ1 (k) 2) * (κ1 (k) 2))) = 0 then ((bi true, κ1)) else ((bi false, κ1)))) (up2 κ (k) 3 (((κ (k) 3) + (1))))
set_option maxRecDepth 100000 in
set_option maxHeartbeats 4000000 in
theorem m_X3_countsToTurn (l : Launch) (g : Gt) (κ : Kp) (sz : Nat) (k : Nat) (hk : kd k = 3) : Met l yX3_countsToTurn (.code yX3_countsToTurn cX3_countsToTurn 1 (some .boolean) :: uW) { frames := 0, cells := 0, slots := 0, locals := 0 } (PRE g κ sz [.ref (g.2.2 (k))]) (va_Qi (fun r κ' => f_X3_countsToTurn κ k = (r, κ')) (Wp g) (fr g sz)) 0 0 (fr g sz) := by
  refine k_enter (by decide +kernel) (Nat.le_of_ble_eq_true rfl) ?_
  intro p e s m below meth c ls hM hr hl hw hsz
  subst hsz
  have hl : lv_has ls 1 [(0, .ref (g.2.2 (k)))] := hl
  have hF := f_X3_countsToTurn.eq_1 κ k
  refine lv_aload_n hM.x hM.b dX3_countsToTurn_0 rfl (lv_at hl 0 rfl) ?_
  refine lv_dup hM.x hM.b dX3_countsToTurn_1 rfl ?_
  refine k_get3 3 hM hw hk (by decide) u_fl_X3_24 dX3_countsToTurn_2 ?_
  refine lv_iconst (v := 1) hM.x hM.b dX3_countsToTurn_5 (by decide) ?_
  refine lv_iadd hM.x hM.b dX3_countsToTurn_6 ?_
  refine k_put3 3 hM hw hk (by decide) u_fl_X3_24 dX3_countsToTurn_7 (fun H locs hw => ?_)
  obtain ⟨κ1, eκ1⟩ : ∃ z : Kp, up2 κ (k) 3 (((κ (k) 3) + (1))) = z := ⟨_, rfl⟩
  rw [eκ1] at hw
  rw [eκ1] at hF
  try dsimp only at hF
  refine lv_aload_n hM.x hM.b dX3_countsToTurn_10 rfl (lv_at hl 0 rfl) ?_
  refine k_get3 2 hM hw hk (by decide) u_fl_X3_21 dX3_countsToTurn_11 ?_
  refine lv_if_le (tgt := 33) hM.x hM.b dX3_countsToTurn_14 (by decide) (fun c1 => ?_) (fun c1 => ?_)
  · rw [if_pos c1] at hF
    refine lv_iconst (v := 0) hM.x hM.b dX3_countsToTurn_33 (by decide) ?_
    exact k_zret (b := false) hM hr hw (Nat.le_of_ble_eq_true rfl) (Nat.le_of_ble_eq_true rfl) hF dX3_countsToTurn_34
  · rw [if_neg c1] at hF
    refine lv_aload_n hM.x hM.b dX3_countsToTurn_17 rfl (lv_at hl 0 rfl) ?_
    refine k_get3 3 hM hw hk (by decide) u_fl_X3_24 dX3_countsToTurn_18 ?_
    refine lv_aload_n hM.x hM.b dX3_countsToTurn_21 rfl (lv_at hl 0 rfl) ?_
    refine k_get3 2 hM hw hk (by decide) u_fl_X3_21 dX3_countsToTurn_22 ?_
    refine lv_irem hM.x hM.b dX3_countsToTurn_25 (nz_pos1 c1) ?_
    refine lv_if_ne (tgt := 33) hM.x hM.b dX3_countsToTurn_26 (by decide) (fun c2 => ?_) (fun c2 => ?_)
    · rw [if_neg c2] at hF
      refine lv_iconst (v := 0) hM.x hM.b dX3_countsToTurn_33 (by decide) ?_
      exact k_zret (b := false) hM hr hw (Nat.le_of_ble_eq_true rfl) (Nat.le_of_ble_eq_true rfl) hF dX3_countsToTurn_34
    · rw [if_pos c2] at hF
      refine lv_iconst (v := 1) hM.x hM.b dX3_countsToTurn_29 (by decide) ?_
      refine lv_goto (tgt := 34) hM.x hM.b dX3_countsToTurn_30 (by decide) ?_
      exact k_zret (b := true) hM hr hw (Nat.le_of_ble_eq_true rfl) (Nat.le_of_ble_eq_true rfl) hF dX3_countsToTurn_34
theorem q_X3_takesDripping : hdV yX3_takesDripping RX3 0 := ⟨rfl, by decide +kernel, by decide +kernel, by decide +kernel⟩
def f_X3_takesDripping (κ : Kp) (k : Nat) : Int32 × Kp := if (κ (k) 4) < (20) then ((fun κ1 : Kp => (bi true, κ1)) (up2 κ (k) 4 (((κ (k) 4) + (1))))) else ((bi false, κ))
set_option maxRecDepth 100000 in
set_option maxHeartbeats 4000000 in
theorem m_X3_takesDripping (l : Launch) (g : Gt) (κ : Kp) (sz : Nat) (k : Nat) (hk : kd k = 3) : Met l yX3_takesDripping (.code yX3_takesDripping cX3_takesDripping 1 (some .boolean) :: uW) { frames := 0, cells := 0, slots := 0, locals := 0 } (PRE g κ sz [.ref (g.2.2 (k))]) (va_Qi (fun r κ' => f_X3_takesDripping κ k = (r, κ')) (Wp g) (fr g sz)) 0 0 (fr g sz) := by
  refine k_enter (by decide +kernel) (Nat.le_of_ble_eq_true rfl) ?_
  intro p e s m below meth c ls hM hr hl hw hsz
  subst hsz
  have hl : lv_has ls 1 [(0, .ref (g.2.2 (k)))] := hl
  have hF := f_X3_takesDripping.eq_1 κ k
  refine lv_aload_n hM.x hM.b dX3_takesDripping_0 rfl (lv_at hl 0 rfl) ?_
  refine k_get3 4 hM hw hk (by decide) u_fl_X3_27 dX3_takesDripping_1 ?_
  refine lv_bipush (v := 20) hM.x hM.b dX3_takesDripping_4 (by decide) ?_
  refine lv_icmp_lt (tgt := 11) hM.x hM.b dX3_takesDripping_6 (by decide) (fun c1 => ?_) (fun c1 => ?_)
  · rw [if_pos c1] at hF
    refine lv_aload_n hM.x hM.b dX3_takesDripping_11 rfl (lv_at hl 0 rfl) ?_
    refine lv_dup hM.x hM.b dX3_takesDripping_12 rfl ?_
    refine k_get3 4 hM hw hk (by decide) u_fl_X3_27 dX3_takesDripping_13 ?_
    refine lv_iconst (v := 1) hM.x hM.b dX3_takesDripping_16 (by decide) ?_
    refine lv_iadd hM.x hM.b dX3_takesDripping_17 ?_
    refine k_put3 4 hM hw hk (by decide) u_fl_X3_27 dX3_takesDripping_18 (fun H locs hw => ?_)
    obtain ⟨κ1, eκ1⟩ : ∃ z : Kp, up2 κ (k) 4 (((κ (k) 4) + (1))) = z := ⟨_, rfl⟩
    rw [eκ1] at hw
    rw [eκ1] at hF
    try dsimp only at hF
    refine lv_iconst (v := 1) hM.x hM.b dX3_takesDripping_21 (by decide) ?_
    exact k_zret (b := true) hM hr hw (Nat.le_of_ble_eq_true rfl) (Nat.le_of_ble_eq_true rfl) hF dX3_takesDripping_22
  · rw [if_neg c1] at hF
    refine lv_iconst (v := 0) hM.x hM.b dX3_takesDripping_9 (by decide) ?_
    exact k_zret (b := false) hM hr hw (Nat.le_of_ble_eq_true rfl) (Nat.le_of_ble_eq_true rfl) hF dX3_takesDripping_10
theorem q_X2_nextSide : hdV yX2_nextSide RX2 1 := ⟨rfl, by decide +kernel, by decide +kernel, by decide +kernel⟩
def f_X2_nextSide (a : Int32) : Int32 := if (a) < (3) then (((a) + (1))) else (0)
set_option maxRecDepth 100000 in
set_option maxHeartbeats 4000000 in
theorem m_X2_nextSide (l : Launch) (g : Gt) (κ : Kp) (sz : Nat) (a : Int32) : Met l yX2_nextSide (.code yX2_nextSide cX2_nextSide 1 (some .int) :: uW) { frames := 0, cells := 0, slots := 0, locals := 0 } (PRE g κ sz [.int (a)]) (va_Qi (fun r κ' => r = f_X2_nextSide a ∧ κ' = κ) (Wp g) (fr g sz)) 0 0 (fr g sz) := by
  refine k_enter (by decide +kernel) (Nat.le_of_ble_eq_true rfl) ?_
  intro p e s m below meth c ls hM hr hl hw hsz
  subst hsz
  have hl : lv_has ls 1 [(0, .int (a))] := hl
  have hF := f_X2_nextSide.eq_1 a
  refine lv_iload_n hM.x hM.b dX2_nextSide_0 rfl (lv_at hl 0 rfl) ?_
  refine lv_iconst (v := 3) hM.x hM.b dX2_nextSide_1 (by decide) ?_
  refine lv_icmp_lt (tgt := 9) hM.x hM.b dX2_nextSide_2 (by decide) (fun c1 => ?_) (fun c1 => ?_)
  · rw [if_pos c1] at hF
    refine lv_iload_n hM.x hM.b dX2_nextSide_9 rfl (lv_at hl 0 rfl) ?_
    refine lv_iconst (v := 1) hM.x hM.b dX2_nextSide_10 (by decide) ?_
    refine lv_iadd hM.x hM.b dX2_nextSide_11 ?_
    exact k_iret hM hr hw (Nat.le_of_ble_eq_true rfl) (Nat.le_of_ble_eq_true rfl) ⟨hF.symm, rfl⟩ dX2_nextSide_12
  · rw [if_neg c1] at hF
    refine lv_iconst (v := 0) hM.x hM.b dX2_nextSide_5 (by decide) ?_
    refine lv_goto (tgt := 12) hM.x hM.b dX2_nextSide_6 (by decide) ?_
    exact k_iret hM hr hw (Nat.le_of_ble_eq_true rfl) (Nat.le_of_ble_eq_true rfl) ⟨hF.symm, rfl⟩ dX2_nextSide_12
theorem q_X2_sideBefore : hdV yX2_sideBefore RX2 1 := ⟨rfl, by decide +kernel, by decide +kernel, by decide +kernel⟩
def f_X2_sideBefore (a : Int32) : Int32 := if 0 < (a) then (((a) - (1))) else (3)
set_option maxRecDepth 100000 in
set_option maxHeartbeats 4000000 in
theorem m_X2_sideBefore (l : Launch) (g : Gt) (κ : Kp) (sz : Nat) (a : Int32) : Met l yX2_sideBefore (.code yX2_sideBefore cX2_sideBefore 1 (some .int) :: uW) { frames := 0, cells := 0, slots := 0, locals := 0 } (PRE g κ sz [.int (a)]) (va_Qi (fun r κ' => r = f_X2_sideBefore a ∧ κ' = κ) (Wp g) (fr g sz)) 0 0 (fr g sz) := by
  refine k_enter (by decide +kernel) (Nat.le_of_ble_eq_true rfl) ?_
  intro p e s m below meth c ls hM hr hl hw hsz
  subst hsz
  have hl : lv_has ls 1 [(0, .int (a))] := hl
  have hF := f_X2_sideBefore.eq_1 a
  refine lv_iload_n hM.x hM.b dX2_sideBefore_0 rfl (lv_at hl 0 rfl) ?_
  refine lv_if_gt (tgt := 8) hM.x hM.b dX2_sideBefore_1 (by decide) (fun c1 => ?_) (fun c1 => ?_)
  · rw [if_pos c1] at hF
    refine lv_iload_n hM.x hM.b dX2_sideBefore_8 rfl (lv_at hl 0 rfl) ?_
    refine lv_iconst (v := 1) hM.x hM.b dX2_sideBefore_9 (by decide) ?_
    refine lv_isub hM.x hM.b dX2_sideBefore_10 ?_
    exact k_iret hM hr hw (Nat.le_of_ble_eq_true rfl) (Nat.le_of_ble_eq_true rfl) ⟨hF.symm, rfl⟩ dX2_sideBefore_11
  · rw [if_neg c1] at hF
    refine lv_iconst (v := 3) hM.x hM.b dX2_sideBefore_4 (by decide) ?_
    refine lv_goto (tgt := 11) hM.x hM.b dX2_sideBefore_5 (by decide) ?_
    exact k_iret hM hr hw (Nat.le_of_ble_eq_true rfl) (Nat.le_of_ble_eq_true rfl) ⟨hF.symm, rfl⟩ dX2_sideBefore_11
theorem q_X2_getBrowner : hdV yX2_getBrowner RX2 2 := ⟨rfl, by decide +kernel, by decide +kernel, by decide +kernel⟩
def f_X2_getBrowner (κ : Kp) (k : Nat) (a : Int32) (b : Int32) : Kp := if (a) < 0 then (κ) else (if (4) ≤ (a) then (κ) else (if (((κ (k + 1) (a).toNatClampNeg) + (b))) ≤ (99) then ((fun κ1 : Kp => κ1) (up2 κ (k + 1) ((a).toNatClampNeg) (((κ (k + 1) (a).toNatClampNeg) + (b))))) else ((fun κ2 : Kp => κ2) (up2 κ (k + 1) ((a).toNatClampNeg) (99)))))
set_option maxRecDepth 100000 in
set_option maxHeartbeats 4000000 in
theorem m_X2_getBrowner (l : Launch) (g : Gt) (κ : Kp) (sz : Nat) (k : Nat) (a : Int32) (b : Int32) (hk : kd k = 2) : Met l yX2_getBrowner (.code yX2_getBrowner cX2_getBrowner 4 none :: uW) { frames := 0, cells := 0, slots := 0, locals := 0 } (PRE g κ sz [.ref (g.2.2 (k)), .int (a), .int (b)]) (va_Qv (fun κ' => κ' = f_X2_getBrowner κ k a b) (Wp g) (fr g sz)) 0 0 (fr g sz) := by
  refine k_enter (by decide +kernel) (Nat.le_of_ble_eq_true rfl) ?_
  intro p e s m below meth c ls hM hr hl hw hsz
  subst hsz
  have hl : lv_has ls 4 [(0, .ref (g.2.2 (k))), (1, .int (a)), (2, .int (b))] := hl
  have hF := f_X2_getBrowner.eq_1 κ k a b
  refine lv_iload_n hM.x hM.b dX2_getBrowner_0 rfl (lv_at hl 1 rfl) ?_
  refine lv_if_lt (tgt := 40) hM.x hM.b dX2_getBrowner_1 (by decide) (fun c1 => ?_) (fun c1 => ?_)
  · rw [if_pos c1] at hF
    exact k_vret hM hr hw (Nat.le_of_ble_eq_true rfl) (Nat.le_of_ble_eq_true rfl) hF.symm dX2_getBrowner_40
  · rw [if_neg c1] at hF
    refine lv_iload_n hM.x hM.b dX2_getBrowner_4 rfl (lv_at hl 1 rfl) ?_
    refine lv_aload_n hM.x hM.b dX2_getBrowner_5 rfl (lv_at hl 0 rfl) ?_
    refine k_get2r hM hw hk u_fl_X2_9 dX2_getBrowner_6 ?_
    refine k_alen (v := 4) hM hw (hw.dm (kd2_6 hk) (by decide)) 0 (sh6 (kd2_6 hk)) rfl rfl dX2_getBrowner_9 ?_
    refine lv_icmp_ge (tgt := 40) hM.x hM.b dX2_getBrowner_10 (by decide) (fun c2 => ?_) (fun c2 => ?_)
    · rw [if_pos c2] at hF
      exact k_vret hM hr hw (Nat.le_of_ble_eq_true rfl) (Nat.le_of_ble_eq_true rfl) hF.symm dX2_getBrowner_40
    · rw [if_neg c2] at hF
      refine lv_aload_n hM.x hM.b dX2_getBrowner_13 rfl (lv_at hl 0 rfl) ?_
      refine k_get2r hM hw hk u_fl_X2_9 dX2_getBrowner_14 ?_
      refine lv_iload_n hM.x hM.b dX2_getBrowner_17 rfl (lv_at hl 1 rfl) ?_
      refine k_iald (n := 4) hM hw (hw.dm (kd2_6 hk) (by decide)) (sh6 (kd2_6 hk)) (vpin1 (M := 4) (n := 4) rfl c1 c2) dX2_getBrowner_18 ?_
      refine lv_iload_n hM.x hM.b dX2_getBrowner_19 rfl (lv_at hl 2 rfl) ?_
      refine lv_iadd hM.x hM.b dX2_getBrowner_20 ?_
      refine lv_istore_n (lv' := [(3, .int (((κ (k + 1) (a).toNatClampNeg) + (b)))), (0, .ref (g.2.2 (k))), (1, .int (a)), (2, .int (b))]) hM.x hM.b dX2_getBrowner_21 rfl hl (by decide) rfl (fun ls hl => ?_)
      refine lv_aload_n hM.x hM.b dX2_getBrowner_22 rfl (lv_at hl 1 rfl) ?_
      refine k_get2r hM hw hk u_fl_X2_9 dX2_getBrowner_23 ?_
      refine lv_iload_n hM.x hM.b dX2_getBrowner_26 rfl (lv_at hl 2 rfl) ?_
      refine lv_iload_n hM.x hM.b dX2_getBrowner_27 rfl (lv_at hl 0 rfl) ?_
      refine lv_bipush (v := 99) hM.x hM.b dX2_getBrowner_28 (by decide) ?_
      refine lv_icmp_le (tgt := 38) hM.x hM.b dX2_getBrowner_30 (by decide) (fun c3 => ?_) (fun c3 => ?_)
      · rw [if_pos c3] at hF
        refine lv_iload_n hM.x hM.b dX2_getBrowner_38 rfl (lv_at hl 0 rfl) ?_
        refine k_iast (n := 4) hM hw (hw.dm (kd2_6 hk) (by decide)) (fun r => sh6 (kd2_6 hk)) (vpin1 (M := 4) (n := 4) rfl c1 c2) dX2_getBrowner_39 (fun H locs hw => ?_)
        obtain ⟨κ1, eκ1⟩ : ∃ z : Kp, up2 κ (k + 1) ((a).toNatClampNeg) (((κ (k + 1) (a).toNatClampNeg) + (b))) = z := ⟨_, rfl⟩
        rw [eκ1] at hw
        rw [eκ1] at hF
        try dsimp only at hF
        exact k_vret hM hr hw (Nat.le_of_ble_eq_true rfl) (Nat.le_of_ble_eq_true rfl) hF.symm dX2_getBrowner_40
      · rw [if_neg c3] at hF
        refine lv_bipush (v := 99) hM.x hM.b dX2_getBrowner_33 (by decide) ?_
        refine lv_goto (tgt := 39) hM.x hM.b dX2_getBrowner_35 (by decide) ?_
        refine k_iast (n := 4) hM hw (hw.dm (kd2_6 hk) (by decide)) (fun r => sh6 (kd2_6 hk)) (vpin1 (M := 4) (n := 4) rfl c1 c2) dX2_getBrowner_39 (fun H locs hw => ?_)
        obtain ⟨κ2, eκ2⟩ : ∃ z : Kp, up2 κ (k + 1) ((a).toNatClampNeg) (99) = z := ⟨_, rfl⟩
        rw [eκ2] at hw
        rw [eκ2] at hF
        try dsimp only at hF
        exact k_vret hM hr hw (Nat.le_of_ble_eq_true rfl) (Nat.le_of_ble_eq_true rfl) hF.symm dX2_getBrowner_40
theorem q_X2_getGlow : hdV yX2_getGlow RX2 1 := ⟨rfl, by decide +kernel, by decide +kernel, by decide +kernel⟩
def f_X2_getGlow (κ : Kp) (k : Nat) (a : Int32) : Int32 × Kp := if (κ (k) 5) ≤ 0 then ((fun κ1 : Kp => (fun κ2 : Kp => (fun κ3 : Kp => (a, κ3)) (f_X2_getBrowner κ2 (k) (f_X2_sideBefore (κ2 (k) 3)) (((a) / (3))))) (f_X2_getBrowner κ1 (k) (f_X2_nextSide (κ1 (k) 3)) (((a) / (3))))) (f_X2_getBrowner κ (k) (κ (k) 3) (a))) else ((fun κ4 : Kp => (fun κ5 : Kp => (fun κ6 : Kp => (fun κ7 : Kp => ((if (0) < (((a) - (1))) then (((a) - (1))) else (0)), κ7)) (f_X2_getBrowner κ6 (k) (f_X2_sideBefore (κ6 (k) 3)) ((((if (0) < (((a) - (1))) then (((a) - (1))) else (0))) / (3))))) (f_X2_getBrowner κ5 (k) (f_X2_nextSide (κ5 (k) 3)) ((((if (0) < (((a) - (1))) then (((a) - (1))) else (0))) / (3))))) (f_X2_getBrowner κ4 (k) (κ4 (k) 3) ((if (0) < (((a) - (1))) then (((a) - (1))) else (0))))) (up2 κ (k) 5 (((κ (k) 5) - (1)))))
set_option maxRecDepth 100000 in
set_option maxHeartbeats 4000000 in
theorem m_X2_getGlow (l : Launch) (g : Gt) (κ : Kp) (sz : Nat) (k : Nat) (a : Int32) (hk : kd k = 2) : Met l yX2_getGlow (.code yX2_getGlow cX2_getGlow 3 (some .int) :: uW) { frames := 1, cells := 0, slots := 0, locals := 30 } (PRE g κ sz [.ref (g.2.2 (k)), .int (a)]) (va_Qi (fun r κ' => f_X2_getGlow κ k a = (r, κ')) (Wp g) (fr g sz)) 0 0 (fr g sz) := by
  refine k_enter (by decide +kernel) (Nat.le_of_ble_eq_true rfl) ?_
  intro p e s m below meth c ls hM hr hl hw hsz
  subst hsz
  have hl : lv_has ls 3 [(0, .ref (g.2.2 (k))), (1, .int (a))] := hl
  have hF := f_X2_getGlow.eq_1 κ k a
  refine lv_iload_n hM.x hM.b dX2_getGlow_0 rfl (lv_at hl 1 rfl) ?_
  refine lv_istore_n (lv' := [(2, .int (a)), (0, .ref (g.2.2 (k))), (1, .int (a))]) hM.x hM.b dX2_getGlow_1 rfl hl (by decide) rfl (fun ls hl => ?_)
  refine lv_aload_n hM.x hM.b dX2_getGlow_2 rfl (lv_at hl 1 rfl) ?_
  refine k_get2 5 hM hw hk (by decide) u_fl_X2_28 dX2_getGlow_3 ?_
  refine lv_if_le (tgt := 27) hM.x hM.b dX2_getGlow_6 (by decide) (fun c1 => ?_) (fun c1 => ?_)
  · rw [if_pos c1] at hF
    refine lv_aload_n hM.x hM.b dX2_getGlow_27 rfl (lv_at hl 1 rfl) ?_
    refine lv_aload_n hM.x hM.b dX2_getGlow_28 rfl (lv_at hl 1 rfl) ?_
    refine k_get2 3 hM hw hk (by decide) u_fl_X2_22 dX2_getGlow_29 ?_
    refine lv_iload_n hM.x hM.b dX2_getGlow_32 rfl (lv_at hl 0 rfl) ?_
    refine k_cvp hw (k_runV [.int (κ (k) 3), .int (a)] [] hM hw (m_X2_getBrowner l g κ _ (k) (κ (k) 3) (a) (hk)) (hw.dm hk (by decide)) (sh2 hk) rfl (k_gV u_ml_X2_37 u_im_X2_getBrowner u_se_X2_getBrowner u_ini_X2 u_co_X2_getBrowner) (q_X2_getBrowner) rfl rfl rfl ⟨Nat.le_of_ble_eq_true rfl, Nat.le_of_ble_eq_true rfl⟩ hl.1 rfl (Nat.le_of_ble_eq_true rfl) dX2_getGlow_33 ⟨Nat.le_of_ble_eq_true rfl, Nat.le_of_ble_eq_true rfl⟩) (fun κ1 H locs eκ1 hw => ?_)
    rw [eκ1] at hF
    try dsimp only at hF
    refine lv_aload_n hM.x hM.b dX2_getGlow_36 rfl (lv_at hl 1 rfl) ?_
    refine lv_aload_n hM.x hM.b dX2_getGlow_37 rfl (lv_at hl 1 rfl) ?_
    refine k_get2 3 hM hw hk (by decide) u_fl_X2_22 dX2_getGlow_38 ?_
    refine k_cip hw (k_runS [.int (κ1 (k) 3)] [.ref (g.2.2 (k))] hM hw (m_X2_nextSide l g κ1 _ (κ1 (k) 3)) (k_gS u_ml_X2_41 u_st_X2_nextSide u_ini_X2 u_co_X2_nextSide) (q_X2_nextSide) rfl rfl rfl ⟨Nat.le_of_ble_eq_true rfl, Nat.le_of_ble_eq_true rfl⟩ hl.1 rfl (Nat.le_of_ble_eq_true rfl) dX2_getGlow_41 ⟨Nat.le_of_ble_eq_true rfl, Nat.le_of_ble_eq_true rfl⟩) (fun H locs hw => ?_)
    refine lv_iload_n hM.x hM.b dX2_getGlow_44 rfl (lv_at hl 0 rfl) ?_
    refine lv_iconst (v := 3) hM.x hM.b dX2_getGlow_45 (by decide) ?_
    refine lv_idiv hM.x hM.b dX2_getGlow_46 (by decide) ?_
    refine k_cvp hw (k_runV [.int (f_X2_nextSide (κ1 (k) 3)), .int (((a) / (3)))] [] hM hw (m_X2_getBrowner l g κ1 _ (k) (f_X2_nextSide (κ1 (k) 3)) (((a) / (3))) (hk)) (hw.dm hk (by decide)) (sh2 hk) rfl (k_gV u_ml_X2_37 u_im_X2_getBrowner u_se_X2_getBrowner u_ini_X2 u_co_X2_getBrowner) (q_X2_getBrowner) rfl rfl rfl ⟨Nat.le_of_ble_eq_true rfl, Nat.le_of_ble_eq_true rfl⟩ hl.1 rfl (Nat.le_of_ble_eq_true rfl) dX2_getGlow_47 ⟨Nat.le_of_ble_eq_true rfl, Nat.le_of_ble_eq_true rfl⟩) (fun κ2 H locs eκ2 hw => ?_)
    rw [eκ2] at hF
    try dsimp only at hF
    refine lv_aload_n hM.x hM.b dX2_getGlow_50 rfl (lv_at hl 1 rfl) ?_
    refine lv_aload_n hM.x hM.b dX2_getGlow_51 rfl (lv_at hl 1 rfl) ?_
    refine k_get2 3 hM hw hk (by decide) u_fl_X2_22 dX2_getGlow_52 ?_
    refine k_cip hw (k_runS [.int (κ2 (k) 3)] [.ref (g.2.2 (k))] hM hw (m_X2_sideBefore l g κ2 _ (κ2 (k) 3)) (k_gS u_ml_X2_45 u_st_X2_sideBefore u_ini_X2 u_co_X2_sideBefore) (q_X2_sideBefore) rfl rfl rfl ⟨Nat.le_of_ble_eq_true rfl, Nat.le_of_ble_eq_true rfl⟩ hl.1 rfl (Nat.le_of_ble_eq_true rfl) dX2_getGlow_55 ⟨Nat.le_of_ble_eq_true rfl, Nat.le_of_ble_eq_true rfl⟩) (fun H locs hw => ?_)
    refine lv_iload_n hM.x hM.b dX2_getGlow_58 rfl (lv_at hl 0 rfl) ?_
    refine lv_iconst (v := 3) hM.x hM.b dX2_getGlow_59 (by decide) ?_
    refine lv_idiv hM.x hM.b dX2_getGlow_60 (by decide) ?_
    refine k_cvp hw (k_runV [.int (f_X2_sideBefore (κ2 (k) 3)), .int (((a) / (3)))] [] hM hw (m_X2_getBrowner l g κ2 _ (k) (f_X2_sideBefore (κ2 (k) 3)) (((a) / (3))) (hk)) (hw.dm hk (by decide)) (sh2 hk) rfl (k_gV u_ml_X2_37 u_im_X2_getBrowner u_se_X2_getBrowner u_ini_X2 u_co_X2_getBrowner) (q_X2_getBrowner) rfl rfl rfl ⟨Nat.le_of_ble_eq_true rfl, Nat.le_of_ble_eq_true rfl⟩ hl.1 rfl (Nat.le_of_ble_eq_true rfl) dX2_getGlow_61 ⟨Nat.le_of_ble_eq_true rfl, Nat.le_of_ble_eq_true rfl⟩) (fun κ3 H locs eκ3 hw => ?_)
    rw [eκ3] at hF
    try dsimp only at hF
    refine lv_iload_n hM.x hM.b dX2_getGlow_64 rfl (lv_at hl 0 rfl) ?_
    exact k_iret hM hr hw (Nat.le_of_ble_eq_true rfl) (Nat.le_of_ble_eq_true rfl) hF dX2_getGlow_65
  · rw [if_neg c1] at hF
    refine lv_iconst (v := 0) hM.x hM.b dX2_getGlow_9 (by decide) ?_
    refine lv_iload_n hM.x hM.b dX2_getGlow_10 rfl (lv_at hl 2 rfl) ?_
    refine lv_iconst (v := 1) hM.x hM.b dX2_getGlow_11 (by decide) ?_
    refine lv_isub hM.x hM.b dX2_getGlow_12 ?_
    refine va_mmax hM.x hM.b (hM.ml.trans hl.1.symm) hM.ow (hM.ts _ u_ml_X2_31) (hM.ts _ u_st_JM_max) (hM.ts _ u_ini_JM) (hM.ts _ u_co_JM_max) (Nat.le_of_ble_eq_true rfl) (Nat.le_of_ble_eq_true rfl) (Nat.le_of_ble_eq_true rfl) (Nat.le_of_ble_eq_true rfl) dX2_getGlow_13 ?_
    refine lv_istore_n (lv' := [(2, .int ((if (0) < (((a) - (1))) then (((a) - (1))) else (0)))), (0, .ref (g.2.2 (k))), (1, .int (a))]) hM.x hM.b dX2_getGlow_16 rfl hl (by decide) rfl (fun ls hl => ?_)
    refine lv_aload_n hM.x hM.b dX2_getGlow_17 rfl (lv_at hl 1 rfl) ?_
    refine lv_dup hM.x hM.b dX2_getGlow_18 rfl ?_
    refine k_get2 5 hM hw hk (by decide) u_fl_X2_28 dX2_getGlow_19 ?_
    refine lv_iconst (v := 1) hM.x hM.b dX2_getGlow_22 (by decide) ?_
    refine lv_isub hM.x hM.b dX2_getGlow_23 ?_
    refine k_put2 5 hM hw hk (by decide) u_fl_X2_28 dX2_getGlow_24 (fun H locs hw => ?_)
    obtain ⟨κ4, eκ4⟩ : ∃ z : Kp, up2 κ (k) 5 (((κ (k) 5) - (1))) = z := ⟨_, rfl⟩
    rw [eκ4] at hw
    rw [eκ4] at hF
    try dsimp only at hF
    refine lv_aload_n hM.x hM.b dX2_getGlow_27 rfl (lv_at hl 1 rfl) ?_
    refine lv_aload_n hM.x hM.b dX2_getGlow_28 rfl (lv_at hl 1 rfl) ?_
    refine k_get2 3 hM hw hk (by decide) u_fl_X2_22 dX2_getGlow_29 ?_
    refine lv_iload_n hM.x hM.b dX2_getGlow_32 rfl (lv_at hl 0 rfl) ?_
    refine k_cvp hw (k_runV [.int (κ4 (k) 3), .int ((if (0) < (((a) - (1))) then (((a) - (1))) else (0)))] [] hM hw (m_X2_getBrowner l g κ4 _ (k) (κ4 (k) 3) ((if (0) < (((a) - (1))) then (((a) - (1))) else (0))) (hk)) (hw.dm hk (by decide)) (sh2 hk) rfl (k_gV u_ml_X2_37 u_im_X2_getBrowner u_se_X2_getBrowner u_ini_X2 u_co_X2_getBrowner) (q_X2_getBrowner) rfl rfl rfl ⟨Nat.le_of_ble_eq_true rfl, Nat.le_of_ble_eq_true rfl⟩ hl.1 rfl (Nat.le_of_ble_eq_true rfl) dX2_getGlow_33 ⟨Nat.le_of_ble_eq_true rfl, Nat.le_of_ble_eq_true rfl⟩) (fun κ5 H locs eκ5 hw => ?_)
    rw [eκ5] at hF
    try dsimp only at hF
    refine lv_aload_n hM.x hM.b dX2_getGlow_36 rfl (lv_at hl 1 rfl) ?_
    refine lv_aload_n hM.x hM.b dX2_getGlow_37 rfl (lv_at hl 1 rfl) ?_
    refine k_get2 3 hM hw hk (by decide) u_fl_X2_22 dX2_getGlow_38 ?_
    refine k_cip hw (k_runS [.int (κ5 (k) 3)] [.ref (g.2.2 (k))] hM hw (m_X2_nextSide l g κ5 _ (κ5 (k) 3)) (k_gS u_ml_X2_41 u_st_X2_nextSide u_ini_X2 u_co_X2_nextSide) (q_X2_nextSide) rfl rfl rfl ⟨Nat.le_of_ble_eq_true rfl, Nat.le_of_ble_eq_true rfl⟩ hl.1 rfl (Nat.le_of_ble_eq_true rfl) dX2_getGlow_41 ⟨Nat.le_of_ble_eq_true rfl, Nat.le_of_ble_eq_true rfl⟩) (fun H locs hw => ?_)
    refine lv_iload_n hM.x hM.b dX2_getGlow_44 rfl (lv_at hl 0 rfl) ?_
    refine lv_iconst (v := 3) hM.x hM.b dX2_getGlow_45 (by decide) ?_
    refine lv_idiv hM.x hM.b dX2_getGlow_46 (by decide) ?_
    refine k_cvp hw (k_runV [.int (f_X2_nextSide (κ5 (k) 3)), .int ((((if (0) < (((a) - (1))) then (((a) - (1))) else (0))) / (3)))] [] hM hw (m_X2_getBrowner l g κ5 _ (k) (f_X2_nextSide (κ5 (k) 3)) ((((if (0) < (((a) - (1))) then (((a) - (1))) else (0))) / (3))) (hk)) (hw.dm hk (by decide)) (sh2 hk) rfl (k_gV u_ml_X2_37 u_im_X2_getBrowner u_se_X2_getBrowner u_ini_X2 u_co_X2_getBrowner) (q_X2_getBrowner) rfl rfl rfl ⟨Nat.le_of_ble_eq_true rfl, Nat.le_of_ble_eq_true rfl⟩ hl.1 rfl (Nat.le_of_ble_eq_true rfl) dX2_getGlow_47 ⟨Nat.le_of_ble_eq_true rfl, Nat.le_of_ble_eq_true rfl⟩) (fun κ6 H locs eκ6 hw => ?_)
    rw [eκ6] at hF
    try dsimp only at hF
    refine lv_aload_n hM.x hM.b dX2_getGlow_50 rfl (lv_at hl 1 rfl) ?_
    refine lv_aload_n hM.x hM.b dX2_getGlow_51 rfl (lv_at hl 1 rfl) ?_
    refine k_get2 3 hM hw hk (by decide) u_fl_X2_22 dX2_getGlow_52 ?_
    refine k_cip hw (k_runS [.int (κ6 (k) 3)] [.ref (g.2.2 (k))] hM hw (m_X2_sideBefore l g κ6 _ (κ6 (k) 3)) (k_gS u_ml_X2_45 u_st_X2_sideBefore u_ini_X2 u_co_X2_sideBefore) (q_X2_sideBefore) rfl rfl rfl ⟨Nat.le_of_ble_eq_true rfl, Nat.le_of_ble_eq_true rfl⟩ hl.1 rfl (Nat.le_of_ble_eq_true rfl) dX2_getGlow_55 ⟨Nat.le_of_ble_eq_true rfl, Nat.le_of_ble_eq_true rfl⟩) (fun H locs hw => ?_)
    refine lv_iload_n hM.x hM.b dX2_getGlow_58 rfl (lv_at hl 0 rfl) ?_
    refine lv_iconst (v := 3) hM.x hM.b dX2_getGlow_59 (by decide) ?_
    refine lv_idiv hM.x hM.b dX2_getGlow_60 (by decide) ?_
    refine k_cvp hw (k_runV [.int (f_X2_sideBefore (κ6 (k) 3)), .int ((((if (0) < (((a) - (1))) then (((a) - (1))) else (0))) / (3)))] [] hM hw (m_X2_getBrowner l g κ6 _ (k) (f_X2_sideBefore (κ6 (k) 3)) ((((if (0) < (((a) - (1))) then (((a) - (1))) else (0))) / (3))) (hk)) (hw.dm hk (by decide)) (sh2 hk) rfl (k_gV u_ml_X2_37 u_im_X2_getBrowner u_se_X2_getBrowner u_ini_X2 u_co_X2_getBrowner) (q_X2_getBrowner) rfl rfl rfl ⟨Nat.le_of_ble_eq_true rfl, Nat.le_of_ble_eq_true rfl⟩ hl.1 rfl (Nat.le_of_ble_eq_true rfl) dX2_getGlow_61 ⟨Nat.le_of_ble_eq_true rfl, Nat.le_of_ble_eq_true rfl⟩) (fun κ7 H locs eκ7 hw => ?_)
    rw [eκ7] at hF
    try dsimp only at hF
    refine lv_iload_n hM.x hM.b dX2_getGlow_64 rfl (lv_at hl 0 rfl) ?_
    exact k_iret hM hr hw (Nat.le_of_ble_eq_true rfl) (Nat.le_of_ble_eq_true rfl) hF dX2_getGlow_65
theorem q_X2_drips : hdV yX2_drips RX2 1 := ⟨rfl, by decide +kernel, by decide +kernel, by decide +kernel⟩
def f_X2_drips (κ : Kp) (k : Nat) (a : Int32) : Int32 × Kp := if (a) < (2) then ((bi false, κ)) else (if 0 < (κ (k) 4) then ((fun κ1 : Kp => (bi true, κ1)) (up2 κ (k) 4 (((κ (k) 4) - (1))))) else ((bi false, κ)))
set_option maxRecDepth 100000 in
set_option maxHeartbeats 4000000 in
theorem m_X2_drips (l : Launch) (g : Gt) (κ : Kp) (sz : Nat) (k : Nat) (a : Int32) (hk : kd k = 2) : Met l yX2_drips (.code yX2_drips cX2_drips 2 (some .boolean) :: uW) { frames := 0, cells := 0, slots := 0, locals := 0 } (PRE g κ sz [.ref (g.2.2 (k)), .int (a)]) (va_Qi (fun r κ' => f_X2_drips κ k a = (r, κ')) (Wp g) (fr g sz)) 0 0 (fr g sz) := by
  refine k_enter (by decide +kernel) (Nat.le_of_ble_eq_true rfl) ?_
  intro p e s m below meth c ls hM hr hl hw hsz
  subst hsz
  have hl : lv_has ls 2 [(0, .ref (g.2.2 (k))), (1, .int (a))] := hl
  have hF := f_X2_drips.eq_1 κ k a
  refine lv_iload_n hM.x hM.b dX2_drips_0 rfl (lv_at hl 1 rfl) ?_
  refine lv_iconst (v := 2) hM.x hM.b dX2_drips_1 (by decide) ?_
  refine lv_icmp_lt (tgt := 12) hM.x hM.b dX2_drips_2 (by decide) (fun c1 => ?_) (fun c1 => ?_)
  · rw [if_pos c1] at hF
    refine lv_iconst (v := 0) hM.x hM.b dX2_drips_12 (by decide) ?_
    exact k_zret (b := false) hM hr hw (Nat.le_of_ble_eq_true rfl) (Nat.le_of_ble_eq_true rfl) hF dX2_drips_13
  · rw [if_neg c1] at hF
    refine lv_aload_n hM.x hM.b dX2_drips_5 rfl (lv_at hl 0 rfl) ?_
    refine k_get2 4 hM hw hk (by decide) u_fl_X2_25 dX2_drips_6 ?_
    refine lv_if_gt (tgt := 14) hM.x hM.b dX2_drips_9 (by decide) (fun c2 => ?_) (fun c2 => ?_)
    · rw [if_pos c2] at hF
      refine lv_aload_n hM.x hM.b dX2_drips_14 rfl (lv_at hl 0 rfl) ?_
      refine lv_dup hM.x hM.b dX2_drips_15 rfl ?_
      refine k_get2 4 hM hw hk (by decide) u_fl_X2_25 dX2_drips_16 ?_
      refine lv_iconst (v := 1) hM.x hM.b dX2_drips_19 (by decide) ?_
      refine lv_isub hM.x hM.b dX2_drips_20 ?_
      refine k_put2 4 hM hw hk (by decide) u_fl_X2_25 dX2_drips_21 (fun H locs hw => ?_)
      obtain ⟨κ1, eκ1⟩ : ∃ z : Kp, up2 κ (k) 4 (((κ (k) 4) - (1))) = z := ⟨_, rfl⟩
      rw [eκ1] at hw
      rw [eκ1] at hF
      try dsimp only at hF
      refine lv_iconst (v := 1) hM.x hM.b dX2_drips_24 (by decide) ?_
      exact k_zret (b := true) hM hr hw (Nat.le_of_ble_eq_true rfl) (Nat.le_of_ble_eq_true rfl) hF dX2_drips_25
    · rw [if_neg c2] at hF
      refine lv_iconst (v := 0) hM.x hM.b dX2_drips_12 (by decide) ?_
      exact k_zret (b := false) hM hr hw (Nat.le_of_ble_eq_true rfl) (Nat.le_of_ble_eq_true rfl) hF dX2_drips_13
theorem q_X2_turn : hdV yX2_turn RX2 0 := ⟨rfl, by decide +kernel, by decide +kernel, by decide +kernel⟩
def f_X2_turn (κ : Kp) (k : Nat) : Kp := (fun κ1 : Kp => κ1) (up2 κ (k) 3 (f_X2_nextSide (κ (k) 3)))
set_option maxRecDepth 100000 in
set_option maxHeartbeats 4000000 in
theorem m_X2_turn (l : Launch) (g : Gt) (κ : Kp) (sz : Nat) (k : Nat) (hk : kd k = 2) : Met l yX2_turn (.code yX2_turn cX2_turn 1 none :: uW) { frames := 1, cells := 0, slots := 0, locals := 30 } (PRE g κ sz [.ref (g.2.2 (k))]) (va_Qv (fun κ' => κ' = f_X2_turn κ k) (Wp g) (fr g sz)) 0 0 (fr g sz) := by
  refine k_enter (by decide +kernel) (Nat.le_of_ble_eq_true rfl) ?_
  intro p e s m below meth c ls hM hr hl hw hsz
  subst hsz
  have hl : lv_has ls 1 [(0, .ref (g.2.2 (k)))] := hl
  have hF := f_X2_turn.eq_1 κ k
  refine lv_aload_n hM.x hM.b dX2_turn_0 rfl (lv_at hl 0 rfl) ?_
  refine lv_aload_n hM.x hM.b dX2_turn_1 rfl (lv_at hl 0 rfl) ?_
  refine k_get2 3 hM hw hk (by decide) u_fl_X2_22 dX2_turn_2 ?_
  refine k_cip hw (k_runS [.int (κ (k) 3)] [.ref (g.2.2 (k))] hM hw (m_X2_nextSide l g κ _ (κ (k) 3)) (k_gS u_ml_X2_41 u_st_X2_nextSide u_ini_X2 u_co_X2_nextSide) (q_X2_nextSide) rfl rfl rfl ⟨Nat.le_of_ble_eq_true rfl, Nat.le_of_ble_eq_true rfl⟩ hl.1 rfl (Nat.le_of_ble_eq_true rfl) dX2_turn_5 ⟨Nat.le_of_ble_eq_true rfl, Nat.le_of_ble_eq_true rfl⟩) (fun H locs hw => ?_)
  refine k_put2 3 hM hw hk (by decide) u_fl_X2_22 dX2_turn_8 (fun H locs hw => ?_)
  obtain ⟨κ1, eκ1⟩ : ∃ z : Kp, up2 κ (k) 3 (f_X2_nextSide (κ (k) 3)) = z := ⟨_, rfl⟩
  rw [eκ1] at hw
  rw [eκ1] at hF
  try dsimp only at hF
  exact k_vret hM hr hw (Nat.le_of_ble_eq_true rfl) (Nat.le_of_ble_eq_true rfl) hF.symm dX2_turn_11
end
section
theorem q_X1_fireAt : hdV yX1_fireAt RX1 1 := ⟨rfl, by decide +kernel, by decide +kernel, by decide +kernel⟩
def f_X1_fireAt (κ : Kp) (k : Nat) (a : Int32) : Option Nat := if (a) < 0 then (none) else (if (κ (k) 3) ≤ (a) then (none) else (if (3) ≤ (a) then (none) else (some (k + 4 + (a).toNatClampNeg))))
set_option maxRecDepth 100000 in
set_option maxHeartbeats 4000000 in
theorem m_X1_fireAt (l : Launch) (g : Gt) (κ : Kp) (sz : Nat) (k : Nat) (a : Int32) (hk : kd k = 1) : Met l yX1_fireAt (.code yX1_fireAt cX1_fireAt 2 (some (.object "KitchenSpits$Fire")) :: uW) { frames := 0, cells := 0, slots := 0, locals := 0 } (PRE g κ sz [.ref (g.2.2 (k)), .int (a)]) (va_Qe g.2.2 (fun r κ' => r = f_X1_fireAt κ k a ∧ κ' = κ) (Wp g) (fr g sz)) 0 0 (fr g sz) := by
  refine k_enter (by decide +kernel) (Nat.le_of_ble_eq_true rfl) ?_
  intro p e s m below meth c ls hM hr hl hw hsz
  subst hsz
  have hl : lv_has ls 2 [(0, .ref (g.2.2 (k))), (1, .int (a))] := hl
  have hF := f_X1_fireAt.eq_1 κ k a
  refine lv_iload_n hM.x hM.b dX1_fireAt_0 rfl (lv_at hl 1 rfl) ?_
  refine lv_if_lt (tgt := 30) hM.x hM.b dX1_fireAt_1 (by decide) (fun c1 => ?_) (fun c1 => ?_)
  · rw [if_pos c1] at hF
    refine lv_null hM.x hM.b dX1_fireAt_30 ?_
    exact k_eret (v := none) hM hr hw (Nat.le_of_ble_eq_true rfl) (Nat.le_of_ble_eq_true rfl) ⟨hF.symm, rfl⟩ dX1_fireAt_31
  · rw [if_neg c1] at hF
    refine lv_iload_n hM.x hM.b dX1_fireAt_4 rfl (lv_at hl 1 rfl) ?_
    refine lv_aload_n hM.x hM.b dX1_fireAt_5 rfl (lv_at hl 0 rfl) ?_
    refine k_get1 3 hM hw hk (by decide) u_fl_X1_46 dX1_fireAt_6 ?_
    refine lv_icmp_ge (tgt := 30) hM.x hM.b dX1_fireAt_9 (by decide) (fun c2 => ?_) (fun c2 => ?_)
    · rw [if_pos c2] at hF
      refine lv_null hM.x hM.b dX1_fireAt_30 ?_
      exact k_eret (v := none) hM hr hw (Nat.le_of_ble_eq_true rfl) (Nat.le_of_ble_eq_true rfl) ⟨hF.symm, rfl⟩ dX1_fireAt_31
    · rw [if_neg c2] at hF
      refine lv_iload_n hM.x hM.b dX1_fireAt_12 rfl (lv_at hl 1 rfl) ?_
      refine lv_aload_n hM.x hM.b dX1_fireAt_13 rfl (lv_at hl 0 rfl) ?_
      refine k_get1r 0 hM hw hk (by decide) u_fl_X1_11 dX1_fireAt_14 ?_
      refine k_alen (v := 3) hM hw (hw.dm (kd1_7 hk) (by decide)) 2 (sh7 (kd1_7 hk)) rfl rfl dX1_fireAt_17 ?_
      refine lv_icmp_ge (tgt := 30) hM.x hM.b dX1_fireAt_18 (by decide) (fun c3 => ?_) (fun c3 => ?_)
      · rw [if_pos c3] at hF
        refine lv_null hM.x hM.b dX1_fireAt_30 ?_
        exact k_eret (v := none) hM hr hw (Nat.le_of_ble_eq_true rfl) (Nat.le_of_ble_eq_true rfl) ⟨hF.symm, rfl⟩ dX1_fireAt_31
      · rw [if_neg c3] at hF
        refine lv_aload_n hM.x hM.b dX1_fireAt_21 rfl (lv_at hl 0 rfl) ?_
        refine k_get1r 0 hM hw hk (by decide) u_fl_X1_11 dX1_fireAt_22 ?_
        refine lv_iload_n hM.x hM.b dX1_fireAt_25 rfl (lv_at hl 1 rfl) ?_
        refine k_ald7 hM hw hk (vpin1 (M := 3) (n := 3) rfl c1 c3) dX1_fireAt_26 ?_
        refine lv_goto (tgt := 31) hM.x hM.b dX1_fireAt_27 (by decide) ?_
        exact k_eret (v := some (k + 4 + (a).toNatClampNeg)) hM hr hw (Nat.le_of_ble_eq_true rfl) (Nat.le_of_ble_eq_true rfl) ⟨hF.symm, rfl⟩ dX1_fireAt_31
theorem sm_X1_fireAt {κ : Kp} {k : Nat} {a : Int32} {p : Nat} (h : f_X1_fireAt κ k a = some p) : ¬ a < 0 ∧ ¬ κ k 3 ≤ a ∧ a.toNatClampNeg < 3 ∧ p = k + 4 + a.toNatClampNeg := by
  unfold f_X1_fireAt at h
  by_cases h1 : a < 0
  · rw [if_pos h1] at h; cases h
  · rw [if_neg h1] at h
    by_cases h2 : κ k 3 ≤ a
    · rw [if_pos h2] at h; cases h
    · rw [if_neg h2] at h
      by_cases h3 : (3 : Int32) ≤ a
      · rw [if_pos h3] at h; cases h
      · rw [if_neg h3] at h
        cases h
        exact ⟨h1, h2, vpin_lt (vpin1 (M := 3) (n := 3) rfl h1 h3), rfl⟩
theorem kdp_X1_fireAt {κ : Kp} {k : Nat} {a : Int32} {p : Nat} (hk : kd k = 1) (h : f_X1_fireAt κ k a = some p) : kd p = 0 := by
  obtain ⟨-, -, h3, rfl⟩ := sm_X1_fireAt h
  exact kd1_0 hk h3
theorem q_X1_spitAt : hdV yX1_spitAt RX1 1 := ⟨rfl, by decide +kernel, by decide +kernel, by decide +kernel⟩
def f_X1_spitAt (κ : Kp) (k : Nat) (a : Int32) : Option Nat := if (a) < 0 then (none) else (if (κ (k) 4) ≤ (a) then (none) else (if (6) ≤ (a) then (none) else (some (k + 7 + (a).toNatClampNeg))))
set_option maxRecDepth 100000 in
set_option maxHeartbeats 4000000 in
theorem m_X1_spitAt (l : Launch) (g : Gt) (κ : Kp) (sz : Nat) (k : Nat) (a : Int32) (hk : kd k = 1) : Met l yX1_spitAt (.code yX1_spitAt cX1_spitAt 2 (some (.object "KitchenSpits$Spit")) :: uW) { frames := 0, cells := 0, slots := 0, locals := 0 } (PRE g κ sz [.ref (g.2.2 (k)), .int (a)]) (va_Qe g.2.2 (fun r κ' => r = f_X1_spitAt κ k a ∧ κ' = κ) (Wp g) (fr g sz)) 0 0 (fr g sz) := by
  refine k_enter (by decide +kernel) (Nat.le_of_ble_eq_true rfl) ?_
  intro p e s m below meth c ls hM hr hl hw hsz
  subst hsz
  have hl : lv_has ls 2 [(0, .ref (g.2.2 (k))), (1, .int (a))] := hl
  have hF := f_X1_spitAt.eq_1 κ k a
  refine lv_iload_n hM.x hM.b dX1_spitAt_0 rfl (lv_at hl 1 rfl) ?_
  refine lv_if_lt (tgt := 30) hM.x hM.b dX1_spitAt_1 (by decide) (fun c1 => ?_) (fun c1 => ?_)
  · rw [if_pos c1] at hF
    refine lv_null hM.x hM.b dX1_spitAt_30 ?_
    exact k_eret (v := none) hM hr hw (Nat.le_of_ble_eq_true rfl) (Nat.le_of_ble_eq_true rfl) ⟨hF.symm, rfl⟩ dX1_spitAt_31
  · rw [if_neg c1] at hF
    refine lv_iload_n hM.x hM.b dX1_spitAt_4 rfl (lv_at hl 1 rfl) ?_
    refine lv_aload_n hM.x hM.b dX1_spitAt_5 rfl (lv_at hl 0 rfl) ?_
    refine k_get1 4 hM hw hk (by decide) u_fl_X1_49 dX1_spitAt_6 ?_
    refine lv_icmp_ge (tgt := 30) hM.x hM.b dX1_spitAt_9 (by decide) (fun c2 => ?_) (fun c2 => ?_)
    · rw [if_pos c2] at hF
      refine lv_null hM.x hM.b dX1_spitAt_30 ?_
      exact k_eret (v := none) hM hr hw (Nat.le_of_ble_eq_true rfl) (Nat.le_of_ble_eq_true rfl) ⟨hF.symm, rfl⟩ dX1_spitAt_31
    · rw [if_neg c2] at hF
      refine lv_iload_n hM.x hM.b dX1_spitAt_12 rfl (lv_at hl 1 rfl) ?_
      refine lv_aload_n hM.x hM.b dX1_spitAt_13 rfl (lv_at hl 0 rfl) ?_
      refine k_get1r 1 hM hw hk (by decide) u_fl_X1_19 dX1_spitAt_14 ?_
      refine k_alen (v := 6) hM hw (hw.dm (kd1_8 hk) (by decide)) 3 (sh8 (kd1_8 hk)) rfl rfl dX1_spitAt_17 ?_
      refine lv_icmp_ge (tgt := 30) hM.x hM.b dX1_spitAt_18 (by decide) (fun c3 => ?_) (fun c3 => ?_)
      · rw [if_pos c3] at hF
        refine lv_null hM.x hM.b dX1_spitAt_30 ?_
        exact k_eret (v := none) hM hr hw (Nat.le_of_ble_eq_true rfl) (Nat.le_of_ble_eq_true rfl) ⟨hF.symm, rfl⟩ dX1_spitAt_31
      · rw [if_neg c3] at hF
        refine lv_aload_n hM.x hM.b dX1_spitAt_21 rfl (lv_at hl 0 rfl) ?_
        refine k_get1r 1 hM hw hk (by decide) u_fl_X1_19 dX1_spitAt_22 ?_
        refine lv_iload_n hM.x hM.b dX1_spitAt_25 rfl (lv_at hl 1 rfl) ?_
        refine k_ald8 hM hw hk (vpin1 (M := 6) (n := 6) rfl c1 c3) dX1_spitAt_26 ?_
        refine lv_goto (tgt := 31) hM.x hM.b dX1_spitAt_27 (by decide) ?_
        exact k_eret (v := some (k + 7 + (a).toNatClampNeg)) hM hr hw (Nat.le_of_ble_eq_true rfl) (Nat.le_of_ble_eq_true rfl) ⟨hF.symm, rfl⟩ dX1_spitAt_31
theorem sm_X1_spitAt {κ : Kp} {k : Nat} {a : Int32} {p : Nat} (h : f_X1_spitAt κ k a = some p) : ¬ a < 0 ∧ ¬ κ k 4 ≤ a ∧ a.toNatClampNeg < 6 ∧ p = k + 7 + a.toNatClampNeg := by
  unfold f_X1_spitAt at h
  by_cases h1 : a < 0
  · rw [if_pos h1] at h; cases h
  · rw [if_neg h1] at h
    by_cases h2 : κ k 4 ≤ a
    · rw [if_pos h2] at h; cases h
    · rw [if_neg h2] at h
      by_cases h3 : (6 : Int32) ≤ a
      · rw [if_pos h3] at h; cases h
      · rw [if_neg h3] at h
        cases h
        exact ⟨h1, h2, vpin_lt (vpin1 (M := 6) (n := 6) rfl h1 h3), rfl⟩
theorem kdp_X1_spitAt {κ : Kp} {k : Nat} {a : Int32} {p : Nat} (hk : kd k = 1) (h : f_X1_spitAt κ k a = some p) : kd p = 3 := by
  obtain ⟨-, -, h3, rfl⟩ := sm_X1_spitAt h
  exact kd1_3 hk h3
theorem q_X1_roastAt : hdV yX1_roastAt RX1 1 := ⟨rfl, by decide +kernel, by decide +kernel, by decide +kernel⟩
def f_X1_roastAt (κ : Kp) (k : Nat) (a : Int32) : Option Nat := if (a) < 0 then (none) else (if (κ (k) 5) ≤ (a) then (none) else (if (16) ≤ (a) then (none) else (some (k + 13 + 2 * (a).toNatClampNeg))))
set_option maxRecDepth 100000 in
set_option maxHeartbeats 4000000 in
theorem m_X1_roastAt (l : Launch) (g : Gt) (κ : Kp) (sz : Nat) (k : Nat) (a : Int32) (hk : kd k = 1) : Met l yX1_roastAt (.code yX1_roastAt cX1_roastAt 2 (some (.object "KitchenSpits$Roast")) :: uW) { frames := 0, cells := 0, slots := 0, locals := 0 } (PRE g κ sz [.ref (g.2.2 (k)), .int (a)]) (va_Qe g.2.2 (fun r κ' => r = f_X1_roastAt κ k a ∧ κ' = κ) (Wp g) (fr g sz)) 0 0 (fr g sz) := by
  refine k_enter (by decide +kernel) (Nat.le_of_ble_eq_true rfl) ?_
  intro p e s m below meth c ls hM hr hl hw hsz
  subst hsz
  have hl : lv_has ls 2 [(0, .ref (g.2.2 (k))), (1, .int (a))] := hl
  have hF := f_X1_roastAt.eq_1 κ k a
  refine lv_iload_n hM.x hM.b dX1_roastAt_0 rfl (lv_at hl 1 rfl) ?_
  refine lv_if_lt (tgt := 30) hM.x hM.b dX1_roastAt_1 (by decide) (fun c1 => ?_) (fun c1 => ?_)
  · rw [if_pos c1] at hF
    refine lv_null hM.x hM.b dX1_roastAt_30 ?_
    exact k_eret (v := none) hM hr hw (Nat.le_of_ble_eq_true rfl) (Nat.le_of_ble_eq_true rfl) ⟨hF.symm, rfl⟩ dX1_roastAt_31
  · rw [if_neg c1] at hF
    refine lv_iload_n hM.x hM.b dX1_roastAt_4 rfl (lv_at hl 1 rfl) ?_
    refine lv_aload_n hM.x hM.b dX1_roastAt_5 rfl (lv_at hl 0 rfl) ?_
    refine k_get1 5 hM hw hk (by decide) u_fl_X1_52 dX1_roastAt_6 ?_
    refine lv_icmp_ge (tgt := 30) hM.x hM.b dX1_roastAt_9 (by decide) (fun c2 => ?_) (fun c2 => ?_)
    · rw [if_pos c2] at hF
      refine lv_null hM.x hM.b dX1_roastAt_30 ?_
      exact k_eret (v := none) hM hr hw (Nat.le_of_ble_eq_true rfl) (Nat.le_of_ble_eq_true rfl) ⟨hF.symm, rfl⟩ dX1_roastAt_31
    · rw [if_neg c2] at hF
      refine lv_iload_n hM.x hM.b dX1_roastAt_12 rfl (lv_at hl 1 rfl) ?_
      refine lv_aload_n hM.x hM.b dX1_roastAt_13 rfl (lv_at hl 0 rfl) ?_
      refine k_get1r 2 hM hw hk (by decide) u_fl_X1_25 dX1_roastAt_14 ?_
      refine k_alen (v := 16) hM hw (hw.dm (kd1_9 hk) (by decide)) 4 (sh9 (kd1_9 hk)) rfl rfl dX1_roastAt_17 ?_
      refine lv_icmp_ge (tgt := 30) hM.x hM.b dX1_roastAt_18 (by decide) (fun c3 => ?_) (fun c3 => ?_)
      · rw [if_pos c3] at hF
        refine lv_null hM.x hM.b dX1_roastAt_30 ?_
        exact k_eret (v := none) hM hr hw (Nat.le_of_ble_eq_true rfl) (Nat.le_of_ble_eq_true rfl) ⟨hF.symm, rfl⟩ dX1_roastAt_31
      · rw [if_neg c3] at hF
        refine lv_aload_n hM.x hM.b dX1_roastAt_21 rfl (lv_at hl 0 rfl) ?_
        refine k_get1r 2 hM hw hk (by decide) u_fl_X1_25 dX1_roastAt_22 ?_
        refine lv_iload_n hM.x hM.b dX1_roastAt_25 rfl (lv_at hl 1 rfl) ?_
        refine k_ald9 hM hw hk (vpin1 (M := 16) (n := 16) rfl c1 c3) dX1_roastAt_26 ?_
        refine lv_goto (tgt := 31) hM.x hM.b dX1_roastAt_27 (by decide) ?_
        exact k_eret (v := some (k + 13 + 2 * (a).toNatClampNeg)) hM hr hw (Nat.le_of_ble_eq_true rfl) (Nat.le_of_ble_eq_true rfl) ⟨hF.symm, rfl⟩ dX1_roastAt_31
theorem sm_X1_roastAt {κ : Kp} {k : Nat} {a : Int32} {p : Nat} (h : f_X1_roastAt κ k a = some p) : ¬ a < 0 ∧ ¬ κ k 5 ≤ a ∧ a.toNatClampNeg < 16 ∧ p = k + 13 + 2 * a.toNatClampNeg := by
  unfold f_X1_roastAt at h
  by_cases h1 : a < 0
  · rw [if_pos h1] at h; cases h
  · rw [if_neg h1] at h
    by_cases h2 : κ k 5 ≤ a
    · rw [if_pos h2] at h; cases h
    · rw [if_neg h2] at h
      by_cases h3 : (16 : Int32) ≤ a
      · rw [if_pos h3] at h; cases h
      · rw [if_neg h3] at h
        cases h
        exact ⟨h1, h2, vpin_lt (vpin1 (M := 16) (n := 16) rfl h1 h3), rfl⟩
theorem kdp_X1_roastAt {κ : Kp} {k : Nat} {a : Int32} {p : Nat} (hk : kd k = 1) (h : f_X1_roastAt κ k a = some p) : kd p = 2 := by
  obtain ⟨-, -, h3, rfl⟩ := sm_X1_roastAt h
  exact kd1_2 hk h3
theorem q_X1_placeFire : hdV yX1_placeFire RX1 0 := ⟨rfl, by decide +kernel, by decide +kernel, by decide +kernel⟩
def f_X1_placeFire (κ : Kp) (k : Nat) : Int32 × Kp := if (κ (k) 3) < (3) then ((fun κ1 : Kp => (((κ1 (k) 3) - (1)), κ1)) (up2 κ (k) 3 (((κ (k) 3) + (1))))) else (((-1), κ))
set_option maxRecDepth 100000 in
set_option maxHeartbeats 4000000 in
theorem m_X1_placeFire (l : Launch) (g : Gt) (κ : Kp) (sz : Nat) (k : Nat) (hk : kd k = 1) : Met l yX1_placeFire (.code yX1_placeFire cX1_placeFire 1 (some .int) :: uW) { frames := 0, cells := 0, slots := 0, locals := 0 } (PRE g κ sz [.ref (g.2.2 (k))]) (va_Qi (fun r κ' => f_X1_placeFire κ k = (r, κ')) (Wp g) (fr g sz)) 0 0 (fr g sz) := by
  refine k_enter (by decide +kernel) (Nat.le_of_ble_eq_true rfl) ?_
  intro p e s m below meth c ls hM hr hl hw hsz
  subst hsz
  have hl : lv_has ls 1 [(0, .ref (g.2.2 (k)))] := hl
  have hF := f_X1_placeFire.eq_1 κ k
  refine lv_aload_n hM.x hM.b dX1_placeFire_0 rfl (lv_at hl 0 rfl) ?_
  refine k_get1 3 hM hw hk (by decide) u_fl_X1_46 dX1_placeFire_1 ?_
  refine lv_aload_n hM.x hM.b dX1_placeFire_4 rfl (lv_at hl 0 rfl) ?_
  refine k_get1r 0 hM hw hk (by decide) u_fl_X1_11 dX1_placeFire_5 ?_
  refine k_alen (v := 3) hM hw (hw.dm (kd1_7 hk) (by decide)) 2 (sh7 (kd1_7 hk)) rfl rfl dX1_placeFire_8 ?_
  refine lv_icmp_lt (tgt := 14) hM.x hM.b dX1_placeFire_9 (by decide) (fun c1 => ?_) (fun c1 => ?_)
  · rw [if_pos c1] at hF
    refine lv_aload_n hM.x hM.b dX1_placeFire_14 rfl (lv_at hl 0 rfl) ?_
    refine lv_dup hM.x hM.b dX1_placeFire_15 rfl ?_
    refine k_get1 3 hM hw hk (by decide) u_fl_X1_46 dX1_placeFire_16 ?_
    refine lv_iconst (v := 1) hM.x hM.b dX1_placeFire_19 (by decide) ?_
    refine lv_iadd hM.x hM.b dX1_placeFire_20 ?_
    refine k_put1 3 hM hw hk (by decide) u_fl_X1_46 dX1_placeFire_21 (fun H locs hw => ?_)
    obtain ⟨κ1, eκ1⟩ : ∃ z : Kp, up2 κ (k) 3 (((κ (k) 3) + (1))) = z := ⟨_, rfl⟩
    rw [eκ1] at hw
    rw [eκ1] at hF
    try dsimp only at hF
    refine lv_aload_n hM.x hM.b dX1_placeFire_24 rfl (lv_at hl 0 rfl) ?_
    refine k_get1 3 hM hw hk (by decide) u_fl_X1_46 dX1_placeFire_25 ?_
    refine lv_iconst (v := 1) hM.x hM.b dX1_placeFire_28 (by decide) ?_
    refine lv_isub hM.x hM.b dX1_placeFire_29 ?_
    exact k_iret hM hr hw (Nat.le_of_ble_eq_true rfl) (Nat.le_of_ble_eq_true rfl) hF dX1_placeFire_30
  · rw [if_neg c1] at hF
    refine lv_iconst (v := -1) hM.x hM.b dX1_placeFire_12 (by decide) ?_
    exact k_iret hM hr hw (Nat.le_of_ble_eq_true rfl) (Nat.le_of_ble_eq_true rfl) hF dX1_placeFire_13
theorem q_X1_placeSpit : hdV yX1_placeSpit RX1 2 := ⟨rfl, by decide +kernel, by decide +kernel, by decide +kernel⟩
def f_X1_placeSpit (κ : Kp) (k : Nat) (a : Int32) (b : Int32) : Int32 × Kp := if (κ (k) 4) < 0 then (((-1), κ)) else (if (κ (k) 4) < (6) then ((fun κ1 : Kp => (fun κ2 : Kp => (fun κ3 : Kp => (((κ3 (k) 4) - (1)), κ3)) (up2 κ2 (k) 4 (((κ2 (k) 4) + (1))))) (up2 κ1 (k + 7 + (κ (k) 4).toNatClampNeg) 1 (b))) (up2 κ (k + 7 + (κ (k) 4).toNatClampNeg) 0 (a))) else (((-1), κ)))
set_option maxRecDepth 100000 in
set_option maxHeartbeats 4000000 in
theorem m_X1_placeSpit (l : Launch) (g : Gt) (κ : Kp) (sz : Nat) (k : Nat) (a : Int32) (b : Int32) (hk : kd k = 1) : Met l yX1_placeSpit (.code yX1_placeSpit cX1_placeSpit 4 (some .int) :: uW) { frames := 0, cells := 0, slots := 0, locals := 0 } (PRE g κ sz [.ref (g.2.2 (k)), .int (a), .int (b)]) (va_Qi (fun r κ' => f_X1_placeSpit κ k a b = (r, κ')) (Wp g) (fr g sz)) 0 0 (fr g sz) := by
  refine k_enter (by decide +kernel) (Nat.le_of_ble_eq_true rfl) ?_
  intro p e s m below meth c ls hM hr hl hw hsz
  subst hsz
  have hl : lv_has ls 4 [(0, .ref (g.2.2 (k))), (1, .int (a)), (2, .int (b))] := hl
  have hF := f_X1_placeSpit.eq_1 κ k a b
  refine lv_aload_n hM.x hM.b dX1_placeSpit_0 rfl (lv_at hl 0 rfl) ?_
  refine k_get1 4 hM hw hk (by decide) u_fl_X1_49 dX1_placeSpit_1 ?_
  refine lv_if_lt (tgt := 19) hM.x hM.b dX1_placeSpit_4 (by decide) (fun c1 => ?_) (fun c1 => ?_)
  · rw [if_pos c1] at hF
    refine lv_iconst (v := -1) hM.x hM.b dX1_placeSpit_19 (by decide) ?_
    exact k_iret hM hr hw (Nat.le_of_ble_eq_true rfl) (Nat.le_of_ble_eq_true rfl) hF dX1_placeSpit_20
  · rw [if_neg c1] at hF
    refine lv_aload_n hM.x hM.b dX1_placeSpit_7 rfl (lv_at hl 0 rfl) ?_
    refine k_get1 4 hM hw hk (by decide) u_fl_X1_49 dX1_placeSpit_8 ?_
    refine lv_aload_n hM.x hM.b dX1_placeSpit_11 rfl (lv_at hl 0 rfl) ?_
    refine k_get1r 1 hM hw hk (by decide) u_fl_X1_19 dX1_placeSpit_12 ?_
    refine k_alen (v := 6) hM hw (hw.dm (kd1_8 hk) (by decide)) 3 (sh8 (kd1_8 hk)) rfl rfl dX1_placeSpit_15 ?_
    refine lv_icmp_lt (tgt := 21) hM.x hM.b dX1_placeSpit_16 (by decide) (fun c2 => ?_) (fun c2 => ?_)
    · rw [if_pos c2] at hF
      refine lv_aload_n hM.x hM.b dX1_placeSpit_21 rfl (lv_at hl 0 rfl) ?_
      refine k_get1r 1 hM hw hk (by decide) u_fl_X1_19 dX1_placeSpit_22 ?_
      refine lv_aload_n hM.x hM.b dX1_placeSpit_25 rfl (lv_at hl 0 rfl) ?_
      refine k_get1 4 hM hw hk (by decide) u_fl_X1_49 dX1_placeSpit_26 ?_
      refine k_ald8 hM hw hk (vpin2 (M := 6) (n := 6) rfl c1 c2) dX1_placeSpit_29 ?_
      refine lv_astore_n (lv' := [(3, .ref (g.2.2 (k + 7 + (κ (k) 4).toNatClampNeg))), (0, .ref (g.2.2 (k))), (1, .int (a)), (2, .int (b))]) hM.x hM.b dX1_placeSpit_30 rfl hl (by decide) rfl (fun ls hl => ?_)
      refine lv_aload_n hM.x hM.b dX1_placeSpit_31 rfl (lv_at hl 0 rfl) ?_
      refine lv_iload_n hM.x hM.b dX1_placeSpit_32 rfl (lv_at hl 2 rfl) ?_
      refine k_put3 0 hM hw (kd1_3 hk (vpin_lt (vpin2 (M := 6) (n := 6) rfl c1 c2))) (by decide) u_fl_X1_58 dX1_placeSpit_33 (fun H locs hw => ?_)
      obtain ⟨κ1, eκ1⟩ : ∃ z : Kp, up2 κ (k + 7 + (κ (k) 4).toNatClampNeg) 0 (a) = z := ⟨_, rfl⟩
      rw [eκ1] at hw
      rw [eκ1] at hF
      try dsimp only at hF
      refine lv_aload_n hM.x hM.b dX1_placeSpit_36 rfl (lv_at hl 0 rfl) ?_
      refine lv_iload_n hM.x hM.b dX1_placeSpit_37 rfl (lv_at hl 3 rfl) ?_
      refine k_put3 1 hM hw (kd1_3 hk (vpin_lt (vpin2 (M := 6) (n := 6) rfl c1 c2))) (by decide) u_fl_X1_61 dX1_placeSpit_38 (fun H locs hw => ?_)
      obtain ⟨κ2, eκ2⟩ : ∃ z : Kp, up2 κ1 (k + 7 + (κ (k) 4).toNatClampNeg) 1 (b) = z := ⟨_, rfl⟩
      rw [eκ2] at hw
      rw [eκ2] at hF
      try dsimp only at hF
      refine lv_aload_n hM.x hM.b dX1_placeSpit_41 rfl (lv_at hl 1 rfl) ?_
      refine lv_dup hM.x hM.b dX1_placeSpit_42 rfl ?_
      refine k_get1 4 hM hw hk (by decide) u_fl_X1_49 dX1_placeSpit_43 ?_
      refine lv_iconst (v := 1) hM.x hM.b dX1_placeSpit_46 (by decide) ?_
      refine lv_iadd hM.x hM.b dX1_placeSpit_47 ?_
      refine k_put1 4 hM hw hk (by decide) u_fl_X1_49 dX1_placeSpit_48 (fun H locs hw => ?_)
      obtain ⟨κ3, eκ3⟩ : ∃ z : Kp, up2 κ2 (k) 4 (((κ2 (k) 4) + (1))) = z := ⟨_, rfl⟩
      rw [eκ3] at hw
      rw [eκ3] at hF
      try dsimp only at hF
      refine lv_aload_n hM.x hM.b dX1_placeSpit_51 rfl (lv_at hl 1 rfl) ?_
      refine k_get1 4 hM hw hk (by decide) u_fl_X1_49 dX1_placeSpit_52 ?_
      refine lv_iconst (v := 1) hM.x hM.b dX1_placeSpit_55 (by decide) ?_
      refine lv_isub hM.x hM.b dX1_placeSpit_56 ?_
      exact k_iret hM hr hw (Nat.le_of_ble_eq_true rfl) (Nat.le_of_ble_eq_true rfl) hF dX1_placeSpit_57
    · rw [if_neg c2] at hF
      refine lv_iconst (v := -1) hM.x hM.b dX1_placeSpit_19 (by decide) ?_
      exact k_iret hM hr hw (Nat.le_of_ble_eq_true rfl) (Nat.le_of_ble_eq_true rfl) hF dX1_placeSpit_20
theorem q_X1_placeRoast : hdV yX1_placeRoast RX1 2 := ⟨rfl, by decide +kernel, by decide +kernel, by decide +kernel⟩
def f_X1_placeRoast (κ : Kp) (k : Nat) (a : Int32) (b : Int32) : Int32 × Kp := match f_X1_spitAt κ (k) (a) with | none => (((-1), κ)) | some p1 => (if (κ (p1) 5) = ((-1)) then (if (κ (k) 5) < 0 then (((-1), κ)) else (if (κ (k) 5) < (16) then ((fun κ1 : Kp => (fun κ2 : Kp => (fun κ3 : Kp => (fun κ4 : Kp => (fun κ5 : Kp => (fun κ6 : Kp => (κ6 (p1) 5, κ6)) (up2 κ5 (k) 5 (((κ5 (k) 5) + (1))))) (up2 κ4 (p1) 3 (0))) (up2 κ3 (p1) 5 (κ3 (k) 5))) (up2 κ2 (k + 13 + 2 * (κ (k) 5).toNatClampNeg) 2 (a))) (up2 κ1 (k + 13 + 2 * (κ (k) 5).toNatClampNeg) 4 (((3) * (b))))) (up2 κ (k + 13 + 2 * (κ (k) 5).toNatClampNeg) 1 (b))) else (((-1), κ)))) else (((-1), κ)))
set_option maxRecDepth 100000 in
set_option maxHeartbeats 4000000 in
theorem m_X1_placeRoast (l : Launch) (g : Gt) (κ : Kp) (sz : Nat) (k : Nat) (a : Int32) (b : Int32) (hk : kd k = 1) : Met l yX1_placeRoast (.code yX1_placeRoast cX1_placeRoast 5 (some .int) :: uW) { frames := 1, cells := 0, slots := 0, locals := 30 } (PRE g κ sz [.ref (g.2.2 (k)), .int (a), .int (b)]) (va_Qi (fun r κ' => f_X1_placeRoast κ k a b = (r, κ')) (Wp g) (fr g sz)) 0 0 (fr g sz) := by
  refine k_enter (by decide +kernel) (Nat.le_of_ble_eq_true rfl) ?_
  intro p e s m below meth c ls hM hr hl hw hsz
  subst hsz
  have hl : lv_has ls 5 [(0, .ref (g.2.2 (k))), (1, .int (a)), (2, .int (b))] := hl
  have hF := f_X1_placeRoast.eq_1 κ k a b
  refine lv_aload_n hM.x hM.b dX1_placeRoast_0 rfl (lv_at hl 0 rfl) ?_
  refine lv_iload_n hM.x hM.b dX1_placeRoast_1 rfl (lv_at hl 1 rfl) ?_
  refine k_cepO hw (k_runV [.int (a)] [] hM hw (m_X1_spitAt l g κ _ (k) (a) (hk)) (hw.dm hk (by decide)) (sh1 hk) rfl (k_gV u_ml_X1_64 u_im_X1_spitAt u_se_X1_spitAt u_ini_X1 u_co_X1_spitAt) (q_X1_spitAt) rfl rfl rfl ⟨Nat.le_of_ble_eq_true rfl, Nat.le_of_ble_eq_true rfl⟩ hl.1 rfl (Nat.le_of_ble_eq_true rfl) dX1_placeRoast_2 ⟨Nat.le_of_ble_eq_true rfl, Nat.le_of_ble_eq_true rfl⟩) (fun H locs ho hw => ?_) (fun p1 H locs ho hw => ?_)
  · simp only [ho] at hF
    refine lv_astore_nN (lv' := [(3, .null), (0, .ref (g.2.2 (k))), (1, .int (a)), (2, .int (b))]) hM.x hM.b dX1_placeRoast_5 rfl hl (by decide) rfl (fun ls hl => ?_)
    refine lv_aload_nN hM.x hM.b dX1_placeRoast_6 rfl (lv_at hl 0 rfl) ?_
    refine lv_ifnullN (tgt := 37) hM.x hM.b dX1_placeRoast_7 (by decide) ?_
    refine lv_iconst (v := -1) hM.x hM.b dX1_placeRoast_37 (by decide) ?_
    exact k_iret hM hr hw (Nat.le_of_ble_eq_true rfl) (Nat.le_of_ble_eq_true rfl) hF dX1_placeRoast_38
  · simp only [ho] at hF
    have hop1 := ho
    refine lv_astore_n (lv' := [(3, .ref (g.2.2 (p1))), (0, .ref (g.2.2 (k))), (1, .int (a)), (2, .int (b))]) hM.x hM.b dX1_placeRoast_5 rfl hl (by decide) rfl (fun ls hl => ?_)
    refine lv_aload_n hM.x hM.b dX1_placeRoast_6 rfl (lv_at hl 0 rfl) ?_
    refine lv_ifnull hM.x hM.b dX1_placeRoast_7 ?_
    refine lv_aload_n hM.x hM.b dX1_placeRoast_10 rfl (lv_at hl 0 rfl) ?_
    refine k_get3 5 hM hw (kdp_X1_spitAt hk hop1) (by decide) u_fl_X1_68 dX1_placeRoast_11 ?_
    refine lv_iconst (v := -1) hM.x hM.b dX1_placeRoast_14 (by decide) ?_
    refine lv_icmp_ne (tgt := 37) hM.x hM.b dX1_placeRoast_15 (by decide) (fun c1 => ?_) (fun c1 => ?_)
    · rw [if_neg c1] at hF
      refine lv_iconst (v := -1) hM.x hM.b dX1_placeRoast_37 (by decide) ?_
      exact k_iret hM hr hw (Nat.le_of_ble_eq_true rfl) (Nat.le_of_ble_eq_true rfl) hF dX1_placeRoast_38
    · rw [if_pos c1] at hF
      refine lv_aload_n hM.x hM.b dX1_placeRoast_18 rfl (lv_at hl 1 rfl) ?_
      refine k_get1 5 hM hw hk (by decide) u_fl_X1_52 dX1_placeRoast_19 ?_
      refine lv_if_lt (tgt := 37) hM.x hM.b dX1_placeRoast_22 (by decide) (fun c2 => ?_) (fun c2 => ?_)
      · rw [if_pos c2] at hF
        refine lv_iconst (v := -1) hM.x hM.b dX1_placeRoast_37 (by decide) ?_
        exact k_iret hM hr hw (Nat.le_of_ble_eq_true rfl) (Nat.le_of_ble_eq_true rfl) hF dX1_placeRoast_38
      · rw [if_neg c2] at hF
        refine lv_aload_n hM.x hM.b dX1_placeRoast_25 rfl (lv_at hl 1 rfl) ?_
        refine k_get1 5 hM hw hk (by decide) u_fl_X1_52 dX1_placeRoast_26 ?_
        refine lv_aload_n hM.x hM.b dX1_placeRoast_29 rfl (lv_at hl 1 rfl) ?_
        refine k_get1r 2 hM hw hk (by decide) u_fl_X1_25 dX1_placeRoast_30 ?_
        refine k_alen (v := 16) hM hw (hw.dm (kd1_9 hk) (by decide)) 4 (sh9 (kd1_9 hk)) rfl rfl dX1_placeRoast_33 ?_
        refine lv_icmp_lt (tgt := 39) hM.x hM.b dX1_placeRoast_34 (by decide) (fun c3 => ?_) (fun c3 => ?_)
        · rw [if_pos c3] at hF
          refine lv_aload_n hM.x hM.b dX1_placeRoast_39 rfl (lv_at hl 1 rfl) ?_
          refine k_get1r 2 hM hw hk (by decide) u_fl_X1_25 dX1_placeRoast_40 ?_
          refine lv_aload_n hM.x hM.b dX1_placeRoast_43 rfl (lv_at hl 1 rfl) ?_
          refine k_get1 5 hM hw hk (by decide) u_fl_X1_52 dX1_placeRoast_44 ?_
          refine k_ald9 hM hw hk (vpin2 (M := 16) (n := 16) rfl c2 c3) dX1_placeRoast_47 ?_
          refine lv_astore (lv' := [(4, .ref (g.2.2 (k + 13 + 2 * (κ (k) 5).toNatClampNeg))), (3, .ref (g.2.2 (p1))), (0, .ref (g.2.2 (k))), (1, .int (a)), (2, .int (b))]) hM.x hM.b dX1_placeRoast_48 hl (by decide) rfl (fun ls hl => ?_)
          refine lv_aload hM.x hM.b dX1_placeRoast_50 (lv_at hl 0 rfl) ?_
          refine lv_iload_n hM.x hM.b dX1_placeRoast_52 rfl (lv_at hl 4 rfl) ?_
          refine k_put2 1 hM hw (kd1_2 hk (vpin_lt (vpin2 (M := 16) (n := 16) rfl c2 c3))) (by decide) u_fl_X1_71 dX1_placeRoast_53 (fun H locs hw => ?_)
          obtain ⟨κ1, eκ1⟩ : ∃ z : Kp, up2 κ (k + 13 + 2 * (κ (k) 5).toNatClampNeg) 1 (b) = z := ⟨_, rfl⟩
          rw [eκ1] at hw
          rw [eκ1] at hF
          try dsimp only at hF
          refine lv_aload hM.x hM.b dX1_placeRoast_56 (lv_at hl 0 rfl) ?_
          refine lv_iconst (v := 3) hM.x hM.b dX1_placeRoast_58 (by decide) ?_
          refine lv_iload_n hM.x hM.b dX1_placeRoast_59 rfl (lv_at hl 4 rfl) ?_
          refine lv_imul hM.x hM.b dX1_placeRoast_60 ?_
          refine k_put2 4 hM hw (kd1_2 hk (vpin_lt (vpin2 (M := 16) (n := 16) rfl c2 c3))) (by decide) u_fl_X1_74 dX1_placeRoast_61 (fun H locs hw => ?_)
          obtain ⟨κ2, eκ2⟩ : ∃ z : Kp, up2 κ1 (k + 13 + 2 * (κ (k) 5).toNatClampNeg) 4 (((3) * (b))) = z := ⟨_, rfl⟩
          rw [eκ2] at hw
          rw [eκ2] at hF
          try dsimp only at hF
          refine lv_aload hM.x hM.b dX1_placeRoast_64 (lv_at hl 0 rfl) ?_
          refine lv_iload_n hM.x hM.b dX1_placeRoast_66 rfl (lv_at hl 3 rfl) ?_
          refine k_put2 2 hM hw (kd1_2 hk (vpin_lt (vpin2 (M := 16) (n := 16) rfl c2 c3))) (by decide) u_fl_X1_77 dX1_placeRoast_67 (fun H locs hw => ?_)
          obtain ⟨κ3, eκ3⟩ : ∃ z : Kp, up2 κ2 (k + 13 + 2 * (κ (k) 5).toNatClampNeg) 2 (a) = z := ⟨_, rfl⟩
          rw [eκ3] at hw
          rw [eκ3] at hF
          try dsimp only at hF
          refine lv_aload_n hM.x hM.b dX1_placeRoast_70 rfl (lv_at hl 1 rfl) ?_
          refine lv_aload_n hM.x hM.b dX1_placeRoast_71 rfl (lv_at hl 2 rfl) ?_
          refine k_get1 5 hM hw hk (by decide) u_fl_X1_52 dX1_placeRoast_72 ?_
          refine k_put3 5 hM hw (kdp_X1_spitAt hk hop1) (by decide) u_fl_X1_68 dX1_placeRoast_75 (fun H locs hw => ?_)
          obtain ⟨κ4, eκ4⟩ : ∃ z : Kp, up2 κ3 (p1) 5 (κ3 (k) 5) = z := ⟨_, rfl⟩
          rw [eκ4] at hw
          rw [eκ4] at hF
          try dsimp only at hF
          refine lv_aload_n hM.x hM.b dX1_placeRoast_78 rfl (lv_at hl 1 rfl) ?_
          refine lv_iconst (v := 0) hM.x hM.b dX1_placeRoast_79 (by decide) ?_
          refine k_put3 3 hM hw (kdp_X1_spitAt hk hop1) (by decide) u_fl_X1_80 dX1_placeRoast_80 (fun H locs hw => ?_)
          obtain ⟨κ5, eκ5⟩ : ∃ z : Kp, up2 κ4 (p1) 3 (0) = z := ⟨_, rfl⟩
          rw [eκ5] at hw
          rw [eκ5] at hF
          try dsimp only at hF
          refine lv_aload_n hM.x hM.b dX1_placeRoast_83 rfl (lv_at hl 2 rfl) ?_
          refine lv_dup hM.x hM.b dX1_placeRoast_84 rfl ?_
          refine k_get1 5 hM hw hk (by decide) u_fl_X1_52 dX1_placeRoast_85 ?_
          refine lv_iconst (v := 1) hM.x hM.b dX1_placeRoast_88 (by decide) ?_
          refine lv_iadd hM.x hM.b dX1_placeRoast_89 ?_
          refine k_put1 5 hM hw hk (by decide) u_fl_X1_52 dX1_placeRoast_90 (fun H locs hw => ?_)
          obtain ⟨κ6, eκ6⟩ : ∃ z : Kp, up2 κ5 (k) 5 (((κ5 (k) 5) + (1))) = z := ⟨_, rfl⟩
          rw [eκ6] at hw
          rw [eκ6] at hF
          try dsimp only at hF
          refine lv_aload_n hM.x hM.b dX1_placeRoast_93 rfl (lv_at hl 1 rfl) ?_
          refine k_get3 5 hM hw (kdp_X1_spitAt hk hop1) (by decide) u_fl_X1_68 dX1_placeRoast_94 ?_
          exact k_iret hM hr hw (Nat.le_of_ble_eq_true rfl) (Nat.le_of_ble_eq_true rfl) hF dX1_placeRoast_97
        · rw [if_neg c3] at hF
          refine lv_iconst (v := -1) hM.x hM.b dX1_placeRoast_37 (by decide) ?_
          exact k_iret hM hr hw (Nat.le_of_ble_eq_true rfl) (Nat.le_of_ble_eq_true rfl) hF dX1_placeRoast_38
theorem q_X1_glowOf : hdV yX1_glowOf RX1 1 := ⟨rfl, by decide +kernel, by decide +kernel, by decide +kernel⟩
def f_X1_glowOf (κ : Kp) (k : Nat) (q : Nat) : Int32 := match f_X1_fireAt κ (k) (κ (q) 0) with | none => (0) | some p1 => (if 0 < (κ (q) 1) then (((κ (p1) 1) / (κ (q) 1))) else (0))
set_option maxRecDepth 100000 in
set_option maxHeartbeats 4000000 in
theorem m_X1_glowOf (l : Launch) (g : Gt) (κ : Kp) (sz : Nat) (k : Nat) (q : Nat) (hk : kd k = 1) (hq : kd q = 3) : Met l yX1_glowOf (.code yX1_glowOf cX1_glowOf 3 (some .int) :: uW) { frames := 1, cells := 0, slots := 0, locals := 30 } (PRE g κ sz [.ref (g.2.2 (k)), .ref (g.2.2 (q))]) (va_Qi (fun r κ' => r = f_X1_glowOf κ k q ∧ κ' = κ) (Wp g) (fr g sz)) 0 0 (fr g sz) := by
  refine k_enter (by decide +kernel) (Nat.le_of_ble_eq_true rfl) ?_
  intro p e s m below meth c ls hM hr hl hw hsz
  subst hsz
  have hl : lv_has ls 3 [(0, .ref (g.2.2 (k))), (1, .ref (g.2.2 (q)))] := hl
  have hF := f_X1_glowOf.eq_1 κ k q
  refine lv_aload_n hM.x hM.b dX1_glowOf_0 rfl (lv_at hl 0 rfl) ?_
  refine lv_aload_n hM.x hM.b dX1_glowOf_1 rfl (lv_at hl 1 rfl) ?_
  refine k_get3 0 hM hw hq (by decide) u_fl_X1_58 dX1_glowOf_2 ?_
  refine k_cepO hw (k_runV [.int (κ (q) 0)] [] hM hw (m_X1_fireAt l g κ _ (k) (κ (q) 0) (hk)) (hw.dm hk (by decide)) (sh1 hk) rfl (k_gV u_ml_X1_83 u_im_X1_fireAt u_se_X1_fireAt u_ini_X1 u_co_X1_fireAt) (q_X1_fireAt) rfl rfl rfl ⟨Nat.le_of_ble_eq_true rfl, Nat.le_of_ble_eq_true rfl⟩ hl.1 rfl (Nat.le_of_ble_eq_true rfl) dX1_glowOf_5 ⟨Nat.le_of_ble_eq_true rfl, Nat.le_of_ble_eq_true rfl⟩) (fun H locs ho hw => ?_) (fun p1 H locs ho hw => ?_)
  · simp only [ho] at hF
    refine lv_astore_nN (lv' := [(2, .null), (0, .ref (g.2.2 (k))), (1, .ref (g.2.2 (q)))]) hM.x hM.b dX1_glowOf_8 rfl hl (by decide) rfl (fun ls hl => ?_)
    refine lv_aload_nN hM.x hM.b dX1_glowOf_9 rfl (lv_at hl 0 rfl) ?_
    refine lv_ifnullN (tgt := 20) hM.x hM.b dX1_glowOf_10 (by decide) ?_
    refine lv_iconst (v := 0) hM.x hM.b dX1_glowOf_20 (by decide) ?_
    refine lv_goto (tgt := 33) hM.x hM.b dX1_glowOf_21 (by decide) ?_
    exact k_iret hM hr hw (Nat.le_of_ble_eq_true rfl) (Nat.le_of_ble_eq_true rfl) ⟨hF.symm, rfl⟩ dX1_glowOf_33
  · simp only [ho] at hF
    have hop1 := ho
    refine lv_astore_n (lv' := [(2, .ref (g.2.2 (p1))), (0, .ref (g.2.2 (k))), (1, .ref (g.2.2 (q)))]) hM.x hM.b dX1_glowOf_8 rfl hl (by decide) rfl (fun ls hl => ?_)
    refine lv_aload_n hM.x hM.b dX1_glowOf_9 rfl (lv_at hl 0 rfl) ?_
    refine lv_ifnull hM.x hM.b dX1_glowOf_10 ?_
    refine lv_aload_n hM.x hM.b dX1_glowOf_13 rfl (lv_at hl 2 rfl) ?_
    refine k_get3 1 hM hw hq (by decide) u_fl_X1_61 dX1_glowOf_14 ?_
    refine lv_if_gt (tgt := 24) hM.x hM.b dX1_glowOf_17 (by decide) (fun c1 => ?_) (fun c1 => ?_)
    · rw [if_pos c1] at hF
      refine lv_aload_n hM.x hM.b dX1_glowOf_24 rfl (lv_at hl 0 rfl) ?_
      refine k_get0 1 hM hw (kdp_X1_fireAt hk hop1) (by decide) u_fl_X1_87 dX1_glowOf_25 ?_
      refine lv_aload_n hM.x hM.b dX1_glowOf_28 rfl (lv_at hl 2 rfl) ?_
      refine k_get3 1 hM hw hq (by decide) u_fl_X1_61 dX1_glowOf_29 ?_
      refine lv_idiv hM.x hM.b dX1_glowOf_32 (nz_pos2 c1) ?_
      exact k_iret hM hr hw (Nat.le_of_ble_eq_true rfl) (Nat.le_of_ble_eq_true rfl) ⟨hF.symm, rfl⟩ dX1_glowOf_33
    · rw [if_neg c1] at hF
      refine lv_iconst (v := 0) hM.x hM.b dX1_glowOf_20 (by decide) ?_
      refine lv_goto (tgt := 33) hM.x hM.b dX1_glowOf_21 (by decide) ?_
      exact k_iret hM hr hw (Nat.le_of_ble_eq_true rfl) (Nat.le_of_ble_eq_true rfl) ⟨hF.symm, rfl⟩ dX1_glowOf_33
theorem q_X1_roastForAMinute : hdV yX1_roastForAMinute RX1 1 := ⟨rfl, by decide +kernel, by decide +kernel, by decide +kernel⟩
def f_X1_roastForAMinute (κ : Kp) (k : Nat) (q : Nat) : Int32 × Kp := match f_X1_roastAt κ (k) (κ (q) 5) with | none => (match f_X1_fireAt κ (k) (κ (q) 0) with | none => ((bi false, κ)) | some p2 => ((bi false, κ))) | some p1 => (match f_X1_fireAt κ (k) (κ (q) 0) with | none => ((bi false, κ)) | some p3 => (match f_X2_getGlow κ (p1) (f_X1_glowOf κ (k) (q)) with | (r1, κ1) => (match f_X2_drips κ1 (p1) (r1) with | (r2, κ2) => (if (r2) = 0 then (match f_X3_countsToTurn κ2 (q) with | (r3, κ3) => (if (r3) = 0 then ((bi false, κ3)) else ((fun κ4 : Kp => (bi false, κ4)) (f_X2_turn κ3 (p1))))) else (match f_X3_takesDripping κ2 (q) with | (r4, κ5) => (if (r4) = 0 then ((fun κ8 : Kp => match f_X3_countsToTurn κ8 (q) with | (r6, κ9) => (if (r6) = 0 then ((bi true, κ9)) else ((fun κ10 : Kp => (bi true, κ10)) (f_X2_turn κ9 (p1))))) (up2 κ5 (p3) 2 (((κ5 (p3) 2) + (1))))) else (match f_X3_countsToTurn κ5 (q) with | (r5, κ6) => (if (r5) = 0 then ((bi false, κ6)) else ((fun κ7 : Kp => (bi false, κ7)) (f_X2_turn κ6 (p1)))))))))))
set_option maxRecDepth 100000 in
set_option maxHeartbeats 4000000 in
theorem m_X1_roastForAMinute (l : Launch) (g : Gt) (κ : Kp) (sz : Nat) (k : Nat) (q : Nat) (hk : kd k = 1) (hq : kd q = 3) : Met l yX1_roastForAMinute (.code yX1_roastForAMinute cX1_roastForAMinute 6 (some .boolean) :: uW) { frames := 2, cells := 0, slots := 0, locals := 60 } (PRE g κ sz [.ref (g.2.2 (k)), .ref (g.2.2 (q))]) (va_Qi (fun r κ' => f_X1_roastForAMinute κ k q = (r, κ')) (Wp g) (fr g sz)) 0 0 (fr g sz) := by
  refine k_enter (by decide +kernel) (Nat.le_of_ble_eq_true rfl) ?_
  intro p e s m below meth c ls hM hr hl hw hsz
  subst hsz
  have hl : lv_has ls 6 [(0, .ref (g.2.2 (k))), (1, .ref (g.2.2 (q)))] := hl
  have hF := f_X1_roastForAMinute.eq_1 κ k q
  refine lv_aload_n hM.x hM.b dX1_roastForAMinute_0 rfl (lv_at hl 0 rfl) ?_
  refine lv_aload_n hM.x hM.b dX1_roastForAMinute_1 rfl (lv_at hl 1 rfl) ?_
  refine k_get3 5 hM hw hq (by decide) u_fl_X1_68 dX1_roastForAMinute_2 ?_
  refine k_cepO hw (k_runV [.int (κ (q) 5)] [] hM hw (m_X1_roastAt l g κ _ (k) (κ (q) 5) (hk)) (hw.dm hk (by decide)) (sh1 hk) rfl (k_gV u_ml_X1_102 u_im_X1_roastAt u_se_X1_roastAt u_ini_X1 u_co_X1_roastAt) (q_X1_roastAt) rfl rfl rfl ⟨Nat.le_of_ble_eq_true rfl, Nat.le_of_ble_eq_true rfl⟩ hl.1 rfl (Nat.le_of_ble_eq_true rfl) dX1_roastForAMinute_5 ⟨Nat.le_of_ble_eq_true rfl, Nat.le_of_ble_eq_true rfl⟩) (fun H locs ho hw => ?_) (fun p1 H locs ho hw => ?_)
  · simp only [ho] at hF
    refine lv_astore_nN (lv' := [(2, .null), (0, .ref (g.2.2 (k))), (1, .ref (g.2.2 (q)))]) hM.x hM.b dX1_roastForAMinute_8 rfl hl (by decide) rfl (fun ls hl => ?_)
    refine lv_aload_n hM.x hM.b dX1_roastForAMinute_9 rfl (lv_at hl 1 rfl) ?_
    refine lv_aload_n hM.x hM.b dX1_roastForAMinute_10 rfl (lv_at hl 2 rfl) ?_
    refine k_get3 0 hM hw hq (by decide) u_fl_X1_58 dX1_roastForAMinute_11 ?_
    refine k_cepO hw (k_runV [.int (κ (q) 0)] [] hM hw (m_X1_fireAt l g κ _ (k) (κ (q) 0) (hk)) (hw.dm hk (by decide)) (sh1 hk) rfl (k_gV u_ml_X1_83 u_im_X1_fireAt u_se_X1_fireAt u_ini_X1 u_co_X1_fireAt) (q_X1_fireAt) rfl rfl rfl ⟨Nat.le_of_ble_eq_true rfl, Nat.le_of_ble_eq_true rfl⟩ hl.1 rfl (Nat.le_of_ble_eq_true rfl) dX1_roastForAMinute_14 ⟨Nat.le_of_ble_eq_true rfl, Nat.le_of_ble_eq_true rfl⟩) (fun H locs ho hw => ?_) (fun p2 H locs ho hw => ?_)
    · simp only [ho] at hF
      refine lv_astore_nN (lv' := [(3, .null), (2, .null), (0, .ref (g.2.2 (k))), (1, .ref (g.2.2 (q)))]) hM.x hM.b dX1_roastForAMinute_17 rfl hl (by decide) rfl (fun ls hl => ?_)
      refine lv_aload_nN hM.x hM.b dX1_roastForAMinute_18 rfl (lv_at hl 1 rfl) ?_
      refine lv_ifnullN (tgt := 26) hM.x hM.b dX1_roastForAMinute_19 (by decide) ?_
      refine lv_iconst (v := 0) hM.x hM.b dX1_roastForAMinute_26 (by decide) ?_
      exact k_zret (b := false) hM hr hw (Nat.le_of_ble_eq_true rfl) (Nat.le_of_ble_eq_true rfl) hF dX1_roastForAMinute_27
    · simp only [ho] at hF
      have hop2 := ho
      refine lv_astore_n (lv' := [(3, .ref (g.2.2 (p2))), (2, .null), (0, .ref (g.2.2 (k))), (1, .ref (g.2.2 (q)))]) hM.x hM.b dX1_roastForAMinute_17 rfl hl (by decide) rfl (fun ls hl => ?_)
      refine lv_aload_nN hM.x hM.b dX1_roastForAMinute_18 rfl (lv_at hl 1 rfl) ?_
      refine lv_ifnullN (tgt := 26) hM.x hM.b dX1_roastForAMinute_19 (by decide) ?_
      refine lv_iconst (v := 0) hM.x hM.b dX1_roastForAMinute_26 (by decide) ?_
      exact k_zret (b := false) hM hr hw (Nat.le_of_ble_eq_true rfl) (Nat.le_of_ble_eq_true rfl) hF dX1_roastForAMinute_27
  · simp only [ho] at hF
    have hop1 := ho
    refine lv_astore_n (lv' := [(2, .ref (g.2.2 (p1))), (0, .ref (g.2.2 (k))), (1, .ref (g.2.2 (q)))]) hM.x hM.b dX1_roastForAMinute_8 rfl hl (by decide) rfl (fun ls hl => ?_)
    refine lv_aload_n hM.x hM.b dX1_roastForAMinute_9 rfl (lv_at hl 1 rfl) ?_
    refine lv_aload_n hM.x hM.b dX1_roastForAMinute_10 rfl (lv_at hl 2 rfl) ?_
    refine k_get3 0 hM hw hq (by decide) u_fl_X1_58 dX1_roastForAMinute_11 ?_
    refine k_cepO hw (k_runV [.int (κ (q) 0)] [] hM hw (m_X1_fireAt l g κ _ (k) (κ (q) 0) (hk)) (hw.dm hk (by decide)) (sh1 hk) rfl (k_gV u_ml_X1_83 u_im_X1_fireAt u_se_X1_fireAt u_ini_X1 u_co_X1_fireAt) (q_X1_fireAt) rfl rfl rfl ⟨Nat.le_of_ble_eq_true rfl, Nat.le_of_ble_eq_true rfl⟩ hl.1 rfl (Nat.le_of_ble_eq_true rfl) dX1_roastForAMinute_14 ⟨Nat.le_of_ble_eq_true rfl, Nat.le_of_ble_eq_true rfl⟩) (fun H locs ho hw => ?_) (fun p3 H locs ho hw => ?_)
    · simp only [ho] at hF
      refine lv_astore_nN (lv' := [(3, .null), (2, .ref (g.2.2 (p1))), (0, .ref (g.2.2 (k))), (1, .ref (g.2.2 (q)))]) hM.x hM.b dX1_roastForAMinute_17 rfl hl (by decide) rfl (fun ls hl => ?_)
      refine lv_aload_n hM.x hM.b dX1_roastForAMinute_18 rfl (lv_at hl 1 rfl) ?_
      refine lv_ifnull hM.x hM.b dX1_roastForAMinute_19 ?_
      refine lv_aload_nN hM.x hM.b dX1_roastForAMinute_22 rfl (lv_at hl 0 rfl) ?_
      refine lv_ifnonnullN hM.x hM.b dX1_roastForAMinute_23 ?_
      refine lv_iconst (v := 0) hM.x hM.b dX1_roastForAMinute_26 (by decide) ?_
      exact k_zret (b := false) hM hr hw (Nat.le_of_ble_eq_true rfl) (Nat.le_of_ble_eq_true rfl) hF dX1_roastForAMinute_27
    · simp only [ho] at hF
      have hop3 := ho
      refine lv_astore_n (lv' := [(3, .ref (g.2.2 (p3))), (2, .ref (g.2.2 (p1))), (0, .ref (g.2.2 (k))), (1, .ref (g.2.2 (q)))]) hM.x hM.b dX1_roastForAMinute_17 rfl hl (by decide) rfl (fun ls hl => ?_)
      refine lv_aload_n hM.x hM.b dX1_roastForAMinute_18 rfl (lv_at hl 1 rfl) ?_
      refine lv_ifnull hM.x hM.b dX1_roastForAMinute_19 ?_
      refine lv_aload_n hM.x hM.b dX1_roastForAMinute_22 rfl (lv_at hl 0 rfl) ?_
      refine lv_ifnonnull (tgt := 28) hM.x hM.b dX1_roastForAMinute_23 (by decide) ?_
      refine lv_aload_n hM.x hM.b dX1_roastForAMinute_28 rfl (lv_at hl 1 rfl) ?_
      refine lv_aload_n hM.x hM.b dX1_roastForAMinute_29 rfl (lv_at hl 2 rfl) ?_
      refine lv_aload_n hM.x hM.b dX1_roastForAMinute_30 rfl (lv_at hl 3 rfl) ?_
      refine k_cip hw (k_runV [.ref (g.2.2 (q))] [.ref (g.2.2 (p1))] hM hw (m_X1_glowOf l g κ _ (k) (q) (hk) (hq)) (hw.dm hk (by decide)) (sh1 hk) rfl (k_gV u_ml_X1_106 u_im_X1_glowOf u_se_X1_glowOf u_ini_X1 u_co_X1_glowOf) (q_X1_glowOf) rfl rfl rfl ⟨Nat.le_of_ble_eq_true rfl, Nat.le_of_ble_eq_true rfl⟩ hl.1 rfl (Nat.le_of_ble_eq_true rfl) dX1_roastForAMinute_31 ⟨Nat.le_of_ble_eq_true rfl, Nat.le_of_ble_eq_true rfl⟩) (fun H locs hw => ?_)
      refine k_ci hw (k_runV [.int (f_X1_glowOf κ (k) (q))] [] hM hw (m_X2_getGlow l g κ _ (p1) (f_X1_glowOf κ (k) (q)) ((kdp_X1_roastAt hk hop1))) (hw.dm (kdp_X1_roastAt hk hop1) (by decide)) (sh2 (kdp_X1_roastAt hk hop1)) rfl (k_gV u_ml_X1_110 u_im_X2_getGlow u_se_X2_getGlow u_ini_X2 u_co_X2_getGlow) (q_X2_getGlow) rfl rfl rfl ⟨Nat.le_of_ble_eq_true rfl, Nat.le_of_ble_eq_true rfl⟩ hl.1 rfl (Nat.le_of_ble_eq_true rfl) dX1_roastForAMinute_34 ⟨Nat.le_of_ble_eq_true rfl, Nat.le_of_ble_eq_true rfl⟩) (fun r1 κ1 H locs hpκ1 hw => ?_)
      simp only [hpκ1] at hF
      refine lv_istore (lv' := [(4, .int (r1)), (3, .ref (g.2.2 (p3))), (2, .ref (g.2.2 (p1))), (0, .ref (g.2.2 (k))), (1, .ref (g.2.2 (q)))]) hM.x hM.b dX1_roastForAMinute_37 hl (by decide) rfl (fun ls hl => ?_)
      refine lv_aload_n hM.x hM.b dX1_roastForAMinute_39 rfl (lv_at hl 2 rfl) ?_
      refine lv_iload hM.x hM.b dX1_roastForAMinute_40 (lv_at hl 0 rfl) ?_
      refine k_ci hw (k_runV [.int (r1)] [] hM hw (m_X2_drips l g κ1 _ (p1) (r1) ((kdp_X1_roastAt hk hop1))) (hw.dm (kdp_X1_roastAt hk hop1) (by decide)) (sh2 (kdp_X1_roastAt hk hop1)) rfl (k_gV u_ml_X1_114 u_im_X2_drips u_se_X2_drips u_ini_X2 u_co_X2_drips) (q_X2_drips) rfl rfl rfl ⟨Nat.le_of_ble_eq_true rfl, Nat.le_of_ble_eq_true rfl⟩ hl.1 rfl (Nat.le_of_ble_eq_true rfl) dX1_roastForAMinute_42 ⟨Nat.le_of_ble_eq_true rfl, Nat.le_of_ble_eq_true rfl⟩) (fun r2 κ2 H locs hpκ2 hw => ?_)
      simp only [hpκ2] at hF
      refine lv_if_eq (tgt := 59) hM.x hM.b dX1_roastForAMinute_45 (by decide) (fun c1 => ?_) (fun c1 => ?_)
      · rw [if_pos c1] at hF
        refine lv_iconst (v := 0) hM.x hM.b dX1_roastForAMinute_59 (by decide) ?_
        refine lv_istore (lv' := [(5, .int (0)), (4, .int (r1)), (3, .ref (g.2.2 (p3))), (2, .ref (g.2.2 (p1))), (0, .ref (g.2.2 (k))), (1, .ref (g.2.2 (q)))]) hM.x hM.b dX1_roastForAMinute_60 hl (by decide) rfl (fun ls hl => ?_)
        refine lv_iload hM.x hM.b dX1_roastForAMinute_62 (lv_at hl 0 rfl) ?_
        refine lv_if_eq (tgt := 77) hM.x hM.b dX1_roastForAMinute_64 (by decide) (fun _ => ?_) (fun cz => absurd cz (by decide))
        refine lv_aload_n hM.x hM.b dX1_roastForAMinute_77 rfl (lv_at hl 5 rfl) ?_
        refine k_ci hw (k_runV [] [] hM hw (m_X3_countsToTurn l g κ2 _ (q) (hq)) (hw.dm hq (by decide)) (sh3 hq) rfl (k_gV u_ml_X1_125 u_im_X3_countsToTurn u_se_X3_countsToTurn u_ini_X3 u_co_X3_countsToTurn) (q_X3_countsToTurn) rfl rfl rfl ⟨Nat.le_of_ble_eq_true rfl, Nat.le_of_ble_eq_true rfl⟩ hl.1 rfl (Nat.le_of_ble_eq_true rfl) dX1_roastForAMinute_78 ⟨Nat.le_of_ble_eq_true rfl, Nat.le_of_ble_eq_true rfl⟩) (fun r3 κ3 H locs hpκ3 hw => ?_)
        simp only [hpκ3] at hF
        refine lv_if_eq (tgt := 88) hM.x hM.b dX1_roastForAMinute_81 (by decide) (fun c2 => ?_) (fun c2 => ?_)
        · rw [if_pos c2] at hF
          refine lv_iload hM.x hM.b dX1_roastForAMinute_88 (lv_at hl 0 rfl) ?_
          exact k_zret (b := false) hM hr hw (Nat.le_of_ble_eq_true rfl) (Nat.le_of_ble_eq_true rfl) hF dX1_roastForAMinute_90
        · rw [if_neg c2] at hF
          refine lv_aload_n hM.x hM.b dX1_roastForAMinute_84 rfl (lv_at hl 3 rfl) ?_
          refine k_cvp hw (k_runV [] [] hM hw (m_X2_turn l g κ3 _ (p1) ((kdp_X1_roastAt hk hop1))) (hw.dm (kdp_X1_roastAt hk hop1) (by decide)) (sh2 (kdp_X1_roastAt hk hop1)) rfl (k_gV u_ml_X1_128 u_im_X2_turn u_se_X2_turn u_ini_X2 u_co_X2_turn) (q_X2_turn) rfl rfl rfl ⟨Nat.le_of_ble_eq_true rfl, Nat.le_of_ble_eq_true rfl⟩ hl.1 rfl (Nat.le_of_ble_eq_true rfl) dX1_roastForAMinute_85 ⟨Nat.le_of_ble_eq_true rfl, Nat.le_of_ble_eq_true rfl⟩) (fun κ4 H locs eκ4 hw => ?_)
          rw [eκ4] at hF
          try dsimp only at hF
          refine lv_iload hM.x hM.b dX1_roastForAMinute_88 (lv_at hl 0 rfl) ?_
          exact k_zret (b := false) hM hr hw (Nat.le_of_ble_eq_true rfl) (Nat.le_of_ble_eq_true rfl) hF dX1_roastForAMinute_90
      · rw [if_neg c1] at hF
        refine lv_aload_n hM.x hM.b dX1_roastForAMinute_48 rfl (lv_at hl 4 rfl) ?_
        refine k_ci hw (k_runV [] [] hM hw (m_X3_takesDripping l g κ2 _ (q) (hq)) (hw.dm hq (by decide)) (sh3 hq) rfl (k_gV u_ml_X1_118 u_im_X3_takesDripping u_se_X3_takesDripping u_ini_X3 u_co_X3_takesDripping) (q_X3_takesDripping) rfl rfl rfl ⟨Nat.le_of_ble_eq_true rfl, Nat.le_of_ble_eq_true rfl⟩ hl.1 rfl (Nat.le_of_ble_eq_true rfl) dX1_roastForAMinute_49 ⟨Nat.le_of_ble_eq_true rfl, Nat.le_of_ble_eq_true rfl⟩) (fun r4 κ5 H locs hpκ5 hw => ?_)
        simp only [hpκ5] at hF
        refine lv_if_ne (tgt := 59) hM.x hM.b dX1_roastForAMinute_52 (by decide) (fun c3 => ?_) (fun c3 => ?_)
        · rw [if_neg c3] at hF
          refine lv_iconst (v := 0) hM.x hM.b dX1_roastForAMinute_59 (by decide) ?_
          refine lv_istore (lv' := [(5, .int (0)), (4, .int (r1)), (3, .ref (g.2.2 (p3))), (2, .ref (g.2.2 (p1))), (0, .ref (g.2.2 (k))), (1, .ref (g.2.2 (q)))]) hM.x hM.b dX1_roastForAMinute_60 hl (by decide) rfl (fun ls hl => ?_)
          refine lv_iload hM.x hM.b dX1_roastForAMinute_62 (lv_at hl 0 rfl) ?_
          refine lv_if_eq (tgt := 77) hM.x hM.b dX1_roastForAMinute_64 (by decide) (fun _ => ?_) (fun cz => absurd cz (by decide))
          refine lv_aload_n hM.x hM.b dX1_roastForAMinute_77 rfl (lv_at hl 5 rfl) ?_
          refine k_ci hw (k_runV [] [] hM hw (m_X3_countsToTurn l g κ5 _ (q) (hq)) (hw.dm hq (by decide)) (sh3 hq) rfl (k_gV u_ml_X1_125 u_im_X3_countsToTurn u_se_X3_countsToTurn u_ini_X3 u_co_X3_countsToTurn) (q_X3_countsToTurn) rfl rfl rfl ⟨Nat.le_of_ble_eq_true rfl, Nat.le_of_ble_eq_true rfl⟩ hl.1 rfl (Nat.le_of_ble_eq_true rfl) dX1_roastForAMinute_78 ⟨Nat.le_of_ble_eq_true rfl, Nat.le_of_ble_eq_true rfl⟩) (fun r5 κ6 H locs hpκ6 hw => ?_)
          simp only [hpκ6] at hF
          refine lv_if_eq (tgt := 88) hM.x hM.b dX1_roastForAMinute_81 (by decide) (fun c4 => ?_) (fun c4 => ?_)
          · rw [if_pos c4] at hF
            refine lv_iload hM.x hM.b dX1_roastForAMinute_88 (lv_at hl 0 rfl) ?_
            exact k_zret (b := false) hM hr hw (Nat.le_of_ble_eq_true rfl) (Nat.le_of_ble_eq_true rfl) hF dX1_roastForAMinute_90
          · rw [if_neg c4] at hF
            refine lv_aload_n hM.x hM.b dX1_roastForAMinute_84 rfl (lv_at hl 3 rfl) ?_
            refine k_cvp hw (k_runV [] [] hM hw (m_X2_turn l g κ6 _ (p1) ((kdp_X1_roastAt hk hop1))) (hw.dm (kdp_X1_roastAt hk hop1) (by decide)) (sh2 (kdp_X1_roastAt hk hop1)) rfl (k_gV u_ml_X1_128 u_im_X2_turn u_se_X2_turn u_ini_X2 u_co_X2_turn) (q_X2_turn) rfl rfl rfl ⟨Nat.le_of_ble_eq_true rfl, Nat.le_of_ble_eq_true rfl⟩ hl.1 rfl (Nat.le_of_ble_eq_true rfl) dX1_roastForAMinute_85 ⟨Nat.le_of_ble_eq_true rfl, Nat.le_of_ble_eq_true rfl⟩) (fun κ7 H locs eκ7 hw => ?_)
            rw [eκ7] at hF
            try dsimp only at hF
            refine lv_iload hM.x hM.b dX1_roastForAMinute_88 (lv_at hl 0 rfl) ?_
            exact k_zret (b := false) hM hr hw (Nat.le_of_ble_eq_true rfl) (Nat.le_of_ble_eq_true rfl) hF dX1_roastForAMinute_90
        · rw [if_pos c3] at hF
          refine lv_iconst (v := 1) hM.x hM.b dX1_roastForAMinute_55 (by decide) ?_
          refine lv_goto (tgt := 60) hM.x hM.b dX1_roastForAMinute_56 (by decide) ?_
          refine lv_istore (lv' := [(5, .int (1)), (4, .int (r1)), (3, .ref (g.2.2 (p3))), (2, .ref (g.2.2 (p1))), (0, .ref (g.2.2 (k))), (1, .ref (g.2.2 (q)))]) hM.x hM.b dX1_roastForAMinute_60 hl (by decide) rfl (fun ls hl => ?_)
          refine lv_iload hM.x hM.b dX1_roastForAMinute_62 (lv_at hl 0 rfl) ?_
          refine lv_if_eq (tgt := 77) hM.x hM.b dX1_roastForAMinute_64 (by decide) (fun cz => absurd cz (by decide)) (fun _ => ?_)
          refine lv_aload_n hM.x hM.b dX1_roastForAMinute_67 rfl (lv_at hl 2 rfl) ?_
          refine lv_dup hM.x hM.b dX1_roastForAMinute_68 rfl ?_
          refine k_get0 2 hM hw (kdp_X1_fireAt hk hop3) (by decide) u_fl_X1_122 dX1_roastForAMinute_69 ?_
          refine lv_iconst (v := 1) hM.x hM.b dX1_roastForAMinute_72 (by decide) ?_
          refine lv_iadd hM.x hM.b dX1_roastForAMinute_73 ?_
          refine k_put0 2 hM hw (kdp_X1_fireAt hk hop3) (by decide) u_fl_X1_122 dX1_roastForAMinute_74 (fun H locs hw => ?_)
          obtain ⟨κ8, eκ8⟩ : ∃ z : Kp, up2 κ5 (p3) 2 (((κ5 (p3) 2) + (1))) = z := ⟨_, rfl⟩
          rw [eκ8] at hw
          rw [eκ8] at hF
          try dsimp only at hF
          refine lv_aload_n hM.x hM.b dX1_roastForAMinute_77 rfl (lv_at hl 5 rfl) ?_
          refine k_ci hw (k_runV [] [] hM hw (m_X3_countsToTurn l g κ8 _ (q) (hq)) (hw.dm hq (by decide)) (sh3 hq) rfl (k_gV u_ml_X1_125 u_im_X3_countsToTurn u_se_X3_countsToTurn u_ini_X3 u_co_X3_countsToTurn) (q_X3_countsToTurn) rfl rfl rfl ⟨Nat.le_of_ble_eq_true rfl, Nat.le_of_ble_eq_true rfl⟩ hl.1 rfl (Nat.le_of_ble_eq_true rfl) dX1_roastForAMinute_78 ⟨Nat.le_of_ble_eq_true rfl, Nat.le_of_ble_eq_true rfl⟩) (fun r6 κ9 H locs hpκ9 hw => ?_)
          simp only [hpκ9] at hF
          refine lv_if_eq (tgt := 88) hM.x hM.b dX1_roastForAMinute_81 (by decide) (fun c5 => ?_) (fun c5 => ?_)
          · rw [if_pos c5] at hF
            refine lv_iload hM.x hM.b dX1_roastForAMinute_88 (lv_at hl 0 rfl) ?_
            exact k_zret (b := true) hM hr hw (Nat.le_of_ble_eq_true rfl) (Nat.le_of_ble_eq_true rfl) hF dX1_roastForAMinute_90
          · rw [if_neg c5] at hF
            refine lv_aload_n hM.x hM.b dX1_roastForAMinute_84 rfl (lv_at hl 3 rfl) ?_
            refine k_cvp hw (k_runV [] [] hM hw (m_X2_turn l g κ9 _ (p1) ((kdp_X1_roastAt hk hop1))) (hw.dm (kdp_X1_roastAt hk hop1) (by decide)) (sh2 (kdp_X1_roastAt hk hop1)) rfl (k_gV u_ml_X1_128 u_im_X2_turn u_se_X2_turn u_ini_X2 u_co_X2_turn) (q_X2_turn) rfl rfl rfl ⟨Nat.le_of_ble_eq_true rfl, Nat.le_of_ble_eq_true rfl⟩ hl.1 rfl (Nat.le_of_ble_eq_true rfl) dX1_roastForAMinute_85 ⟨Nat.le_of_ble_eq_true rfl, Nat.le_of_ble_eq_true rfl⟩) (fun κ10 H locs eκ10 hw => ?_)
            rw [eκ10] at hF
            try dsimp only at hF
            refine lv_iload hM.x hM.b dX1_roastForAMinute_88 (lv_at hl 0 rfl) ?_
            exact k_zret (b := true) hM hr hw (Nat.le_of_ble_eq_true rfl) (Nat.le_of_ble_eq_true rfl) hF dX1_roastForAMinute_90
end
section
theorem cl_ge {a : Int32} {j : Nat} (h : j + 0 = a.toNatClampNeg) : a ≤ nI j := by
  rw [Int32.le_iff_toInt_le]
  have h1 : a.toNatClampNeg = a.toInt.toNat := rfl
  have h2 := a.toInt_lt
  rw [nI_toInt (by omega)]
  omega
theorem cl_lt {a : Int32} {j n : Nat} (h : j + (n + 1) = a.toNatClampNeg) : ¬ a ≤ nI j := by
  rw [Int32.le_iff_toInt_le]
  have h1 : a.toNatClampNeg = a.toInt.toNat := rfl
  have h2 := a.toInt_lt
  rw [nI_toInt (by omega)]
  omega
theorem q_X2_done : hdV yX2_done RX2 0 := ⟨rfl, by decide +kernel, by decide +kernel, by decide +kernel⟩
def lp_X2_done (κ : Kp) (k : Nat) : Nat → Nat → Bool
  | 0, j => true
  | n + 1, j => if (κ (k + 1) (j)) < (((3) * (κ (k) 1))) then (false) else (if (κ (k + 1) (j)) ≤ (((((3) * (κ (k) 1))) + (30))) then (lp_X2_done (κ) (k) n (j + 1) ) else (false))
set_option maxRecDepth 100000 in
set_option maxHeartbeats 4000000 in
theorem ml_X2_done {p : Program} {e : Env} {s : State} {m : MethodId} {below : List Frame} {meth : Method} {c : Code} {Q : State → Prop} (l : Launch) (g : Gt) (κ : Kp) (k : Nat) (hk : kd k = 2) (hM : Mc g p s m ([.ref (g.2.2 (k))] : List Value).toArray meth c cX2_done 5 yX2_done.cls) : ∀ (n j : Nat), j + n = 4 → ∀ (H : Heap) (locs : List Loc) (ls : Array Slot), lv_has ls 5 [(3, .int (nI (j))), (2, .int (nI (4))), (1, .ref (g.2.2 (k + 1))), (0, .ref (g.2.2 (k)))] → Ws g s κ H locs → (∀ (H : Heap) (locs : List Loc) (ls : Array Slot), lp_X2_done κ k n j = false → lv_has ls 5 [(0, .ref (g.2.2 (k)))] → Ws g s κ H locs → W p l e { frames := 0, cells := 0, slots := 0, locals := 0 } s m ([.ref (g.2.2 (k))] : List Value).toArray below meth c H locs 0 0 Q (F0 m 45 ls [])) → (∀ (H : Heap) (locs : List Loc) (ls : Array Slot), lp_X2_done κ k n j = true → lv_has ls 5 [(0, .ref (g.2.2 (k)))] → Ws g s κ H locs → W p l e { frames := 0, cells := 0, slots := 0, locals := 0 } s m ([.ref (g.2.2 (k))] : List Value).toArray below meth c H locs 0 0 Q (F0 m 53 ls [])) → W p l e { frames := 0, cells := 0, slots := 0, locals := 0 } s m ([.ref (g.2.2 (k))] : List Value).toArray below meth c H locs 0 0 Q (F0 m 10 ls []) := by
  intro n
  induction n with
  | zero =>
    intro j hj H locs ls hl hw hx45 hx53
    have hF := Eq.refl (lp_X2_done κ k 0 j)
    conv at hF => rhs; rw [lp_X2_done]
    refine lv_iload_n hM.x hM.b dX2_done_10 rfl (lv_at hl 0 rfl) ?_
    refine lv_iload_n hM.x hM.b dX2_done_11 rfl (lv_at hl 1 rfl) ?_
    refine lv_icmp_ge (tgt := 53) hM.x hM.b dX2_done_12 (by decide) (fun _ => ?_) (fun cz => absurd (nI_le (by omega) (by omega) : nI 4 ≤ nI j) cz)
    exact hx53  H locs ls hF (lv_sub hl [3] rfl) hw
  | succ n ih =>
    intro j hj H locs ls hl hw hx45 hx53
    have hF := Eq.refl (lp_X2_done κ k (n + 1) j)
    conv at hF => rhs; rw [lp_X2_done]
    refine lv_iload_n hM.x hM.b dX2_done_10 rfl (lv_at hl 0 rfl) ?_
    refine lv_iload_n hM.x hM.b dX2_done_11 rfl (lv_at hl 1 rfl) ?_
    refine lv_icmp_ge (tgt := 53) hM.x hM.b dX2_done_12 (by decide) (fun cz => absurd cz (nI_ge (by omega) (by decide) : ¬ nI 4 ≤ nI j)) (fun _ => ?_)
    refine lv_aload_n hM.x hM.b dX2_done_15 rfl (lv_at hl 2 rfl) ?_
    refine lv_iload_n hM.x hM.b dX2_done_16 rfl (lv_at hl 0 rfl) ?_
    refine k_ialdN (i := j) (n := 4) hM hw (hw.dm (kd2_6 hk) (by decide)) (sh6 (kd2_6 hk)) (by omega) (by decide) dX2_done_17 ?_
    refine lv_istore (lv' := [(4, .int (κ (k + 1) (j))), (3, .int (nI (j))), (2, .int (nI (4))), (1, .ref (g.2.2 (k + 1))), (0, .ref (g.2.2 (k)))]) hM.x hM.b dX2_done_18 hl (by decide) rfl (fun ls hl => ?_)
    refine lv_iload hM.x hM.b dX2_done_20 (lv_at hl 0 rfl) ?_
    refine lv_iconst (v := 3) hM.x hM.b dX2_done_22 (by decide) ?_
    refine lv_aload_n hM.x hM.b dX2_done_23 rfl (lv_at hl 4 rfl) ?_
    refine k_get2 1 hM hw hk (by decide) u_fl_X2_19 dX2_done_24 ?_
    refine lv_imul hM.x hM.b dX2_done_27 ?_
    refine lv_icmp_lt (tgt := 45) hM.x hM.b dX2_done_28 (by decide) (fun c1 => ?_) (fun c1 => ?_)
    · rw [if_pos c1] at hF
      exact hx45  H locs ls hF (lv_sub hl [4] rfl) hw
    · rw [if_neg c1] at hF
      refine lv_iload hM.x hM.b dX2_done_31 (lv_at hl 0 rfl) ?_
      refine lv_iconst (v := 3) hM.x hM.b dX2_done_33 (by decide) ?_
      refine lv_aload_n hM.x hM.b dX2_done_34 rfl (lv_at hl 4 rfl) ?_
      refine k_get2 1 hM hw hk (by decide) u_fl_X2_19 dX2_done_35 ?_
      refine lv_imul hM.x hM.b dX2_done_38 ?_
      refine lv_bipush (v := 30) hM.x hM.b dX2_done_39 (by decide) ?_
      refine lv_iadd hM.x hM.b dX2_done_41 ?_
      refine lv_icmp_le (tgt := 47) hM.x hM.b dX2_done_42 (by decide) (fun c2 => ?_) (fun c2 => ?_)
      · rw [if_pos c2] at hF
        refine lv_iinc (v := nI (j + 1)) (lv' := [(3, .int (nI (j + 1))), (4, .int (κ (k + 1) (j))), (2, .int (nI (4))), (1, .ref (g.2.2 (k + 1))), (0, .ref (g.2.2 (k)))]) hM.x hM.b dX2_done_47 hl (k := 1) rfl (nI_1 (j)) (by decide) rfl (fun ls hl => ?_)
        refine lv_goto (tgt := 10) hM.x hM.b dX2_done_50 (by decide) ?_
        exact ih (j + 1) (by omega)  H locs ls (lv_sub hl [0, 2, 3, 4] rfl) hw (fun  H locs ls he hl hw => hx45  H locs ls (hF.trans he) hl hw) (fun  H locs ls he hl hw => hx53  H locs ls (hF.trans he) hl hw)
      · rw [if_neg c2] at hF
        exact hx45  H locs ls hF (lv_sub hl [4] rfl) hw
def f_X2_done (κ : Kp) (k : Nat) : Bool := match lp_X2_done κ k 4 0  with | false => (false) | true => (true)
set_option maxRecDepth 100000 in
set_option maxHeartbeats 4000000 in
theorem m_X2_done (l : Launch) (g : Gt) (κ : Kp) (sz : Nat) (k : Nat) (hk : kd k = 2) : Met l yX2_done (.code yX2_done cX2_done 5 (some .boolean) :: uW) { frames := 0, cells := 0, slots := 0, locals := 0 } (PRE g κ sz [.ref (g.2.2 (k))]) (va_Qi (fun r κ' => r = bi (f_X2_done κ k) ∧ κ' = κ) (Wp g) (fr g sz)) 0 0 (fr g sz) := by
  refine k_enter (by decide +kernel) (Nat.le_of_ble_eq_true rfl) ?_
  intro p e s m below meth c ls hM hr hl hw hsz
  subst hsz
  have hl : lv_has ls 5 [(0, .ref (g.2.2 (k)))] := hl
  have hF := f_X2_done.eq_1 κ k
  refine lv_aload_n hM.x hM.b dX2_done_0 rfl (lv_at hl 0 rfl) ?_
  refine k_get2r hM hw hk u_fl_X2_9 dX2_done_1 ?_
  refine lv_astore_n (lv' := [(1, .ref (g.2.2 (k + 1))), (0, .ref (g.2.2 (k)))]) hM.x hM.b dX2_done_4 rfl hl (by decide) rfl (fun ls hl => ?_)
  refine lv_aload_n hM.x hM.b dX2_done_5 rfl (lv_at hl 0 rfl) ?_
  refine k_alen (v := nI 4) hM hw (hw.dm (kd2_6 hk) (by decide)) 0 (sh6 (kd2_6 hk)) rfl rfl dX2_done_6 ?_
  refine lv_istore_n (lv' := [(2, .int (nI (4))), (1, .ref (g.2.2 (k + 1))), (0, .ref (g.2.2 (k)))]) hM.x hM.b dX2_done_7 rfl hl (by decide) rfl (fun ls hl => ?_)
  refine lv_iconst (v := nI 0) hM.x hM.b dX2_done_8 (by decide) ?_
  refine lv_istore_n (lv' := [(3, .int (nI (0))), (2, .int (nI (4))), (1, .ref (g.2.2 (k + 1))), (0, .ref (g.2.2 (k)))]) hM.x hM.b dX2_done_9 rfl hl (by decide) rfl (fun ls hl => ?_)
  refine ml_X2_done l g κ k hk hM (4) (0) (by omega)  _ _ _ (lv_sub hl [0, 1, 2, 3] rfl) hw (fun  H locs ls he hl hw => ?_) (fun  H locs ls he hl hw => ?_)
  · rw [he] at hF; try dsimp only at hF
    refine lv_iconst (v := 0) hM.x hM.b dX2_done_45 (by decide) ?_
    exact k_zret (b := false) hM hr hw (Nat.le_of_ble_eq_true rfl) (Nat.le_of_ble_eq_true rfl) ⟨congrArg bi hF.symm, rfl⟩ dX2_done_46
  · rw [he] at hF; try dsimp only at hF
    refine lv_iconst (v := 1) hM.x hM.b dX2_done_53 (by decide) ?_
    exact k_zret (b := true) hM hr hw (Nat.le_of_ble_eq_true rfl) (Nat.le_of_ble_eq_true rfl) ⟨congrArg bi hF.symm, rfl⟩ dX2_done_54
theorem q_X2_burnt : hdV yX2_burnt RX2 0 := ⟨rfl, by decide +kernel, by decide +kernel, by decide +kernel⟩
def lp_X2_burnt (κ : Kp) (k : Nat) : Nat → Nat → Bool
  | 0, j => false
  | n + 1, j => if (κ (k + 1) (j)) ≤ (((((3) * (κ (k) 1))) + (30))) then (lp_X2_burnt (κ) (k) n (j + 1) ) else (true)
set_option maxRecDepth 100000 in
set_option maxHeartbeats 4000000 in
theorem ml_X2_burnt {p : Program} {e : Env} {s : State} {m : MethodId} {below : List Frame} {meth : Method} {c : Code} {Q : State → Prop} (l : Launch) (g : Gt) (κ : Kp) (k : Nat) (hk : kd k = 2) (hM : Mc g p s m ([.ref (g.2.2 (k))] : List Value).toArray meth c cX2_burnt 5 yX2_burnt.cls) : ∀ (n j : Nat), j + n = 4 → ∀ (H : Heap) (locs : List Loc) (ls : Array Slot), lv_has ls 5 [(3, .int (nI (j))), (2, .int (nI (4))), (1, .ref (g.2.2 (k + 1))), (0, .ref (g.2.2 (k)))] → Ws g s κ H locs → (∀ (H : Heap) (locs : List Loc) (ls : Array Slot), lp_X2_burnt κ k n j = false → lv_has ls 5 [(0, .ref (g.2.2 (k)))] → Ws g s κ H locs → W p l e { frames := 0, cells := 0, slots := 0, locals := 0 } s m ([.ref (g.2.2 (k))] : List Value).toArray below meth c H locs 0 0 Q (F0 m 42 ls [])) → (∀ (H : Heap) (locs : List Loc) (ls : Array Slot), lp_X2_burnt κ k n j = true → lv_has ls 5 [(0, .ref (g.2.2 (k)))] → Ws g s κ H locs → W p l e { frames := 0, cells := 0, slots := 0, locals := 0 } s m ([.ref (g.2.2 (k))] : List Value).toArray below meth c H locs 0 0 Q (F0 m 34 ls [])) → W p l e { frames := 0, cells := 0, slots := 0, locals := 0 } s m ([.ref (g.2.2 (k))] : List Value).toArray below meth c H locs 0 0 Q (F0 m 10 ls []) := by
  intro n
  induction n with
  | zero =>
    intro j hj H locs ls hl hw hx42 hx34
    have hF := Eq.refl (lp_X2_burnt κ k 0 j)
    conv at hF => rhs; rw [lp_X2_burnt]
    refine lv_iload_n hM.x hM.b dX2_burnt_10 rfl (lv_at hl 0 rfl) ?_
    refine lv_iload_n hM.x hM.b dX2_burnt_11 rfl (lv_at hl 1 rfl) ?_
    refine lv_icmp_ge (tgt := 42) hM.x hM.b dX2_burnt_12 (by decide) (fun _ => ?_) (fun cz => absurd (nI_le (by omega) (by omega) : nI 4 ≤ nI j) cz)
    exact hx42  H locs ls hF (lv_sub hl [3] rfl) hw
  | succ n ih =>
    intro j hj H locs ls hl hw hx42 hx34
    have hF := Eq.refl (lp_X2_burnt κ k (n + 1) j)
    conv at hF => rhs; rw [lp_X2_burnt]
    refine lv_iload_n hM.x hM.b dX2_burnt_10 rfl (lv_at hl 0 rfl) ?_
    refine lv_iload_n hM.x hM.b dX2_burnt_11 rfl (lv_at hl 1 rfl) ?_
    refine lv_icmp_ge (tgt := 42) hM.x hM.b dX2_burnt_12 (by decide) (fun cz => absurd cz (nI_ge (by omega) (by decide) : ¬ nI 4 ≤ nI j)) (fun _ => ?_)
    refine lv_aload_n hM.x hM.b dX2_burnt_15 rfl (lv_at hl 2 rfl) ?_
    refine lv_iload_n hM.x hM.b dX2_burnt_16 rfl (lv_at hl 0 rfl) ?_
    refine k_ialdN (i := j) (n := 4) hM hw (hw.dm (kd2_6 hk) (by decide)) (sh6 (kd2_6 hk)) (by omega) (by decide) dX2_burnt_17 ?_
    refine lv_istore (lv' := [(4, .int (κ (k + 1) (j))), (3, .int (nI (j))), (2, .int (nI (4))), (1, .ref (g.2.2 (k + 1))), (0, .ref (g.2.2 (k)))]) hM.x hM.b dX2_burnt_18 hl (by decide) rfl (fun ls hl => ?_)
    refine lv_iload hM.x hM.b dX2_burnt_20 (lv_at hl 0 rfl) ?_
    refine lv_iconst (v := 3) hM.x hM.b dX2_burnt_22 (by decide) ?_
    refine lv_aload_n hM.x hM.b dX2_burnt_23 rfl (lv_at hl 4 rfl) ?_
    refine k_get2 1 hM hw hk (by decide) u_fl_X2_19 dX2_burnt_24 ?_
    refine lv_imul hM.x hM.b dX2_burnt_27 ?_
    refine lv_bipush (v := 30) hM.x hM.b dX2_burnt_28 (by decide) ?_
    refine lv_iadd hM.x hM.b dX2_burnt_30 ?_
    refine lv_icmp_le (tgt := 36) hM.x hM.b dX2_burnt_31 (by decide) (fun c1 => ?_) (fun c1 => ?_)
    · rw [if_pos c1] at hF
      refine lv_iinc (v := nI (j + 1)) (lv' := [(3, .int (nI (j + 1))), (4, .int (κ (k + 1) (j))), (2, .int (nI (4))), (1, .ref (g.2.2 (k + 1))), (0, .ref (g.2.2 (k)))]) hM.x hM.b dX2_burnt_36 hl (k := 1) rfl (nI_1 (j)) (by decide) rfl (fun ls hl => ?_)
      refine lv_goto (tgt := 10) hM.x hM.b dX2_burnt_39 (by decide) ?_
      exact ih (j + 1) (by omega)  H locs ls (lv_sub hl [0, 2, 3, 4] rfl) hw (fun  H locs ls he hl hw => hx42  H locs ls (hF.trans he) hl hw) (fun  H locs ls he hl hw => hx34  H locs ls (hF.trans he) hl hw)
    · rw [if_neg c1] at hF
      exact hx34  H locs ls hF (lv_sub hl [4] rfl) hw
def f_X2_burnt (κ : Kp) (k : Nat) : Bool := match lp_X2_burnt κ k 4 0  with | false => (false) | true => (true)
set_option maxRecDepth 100000 in
set_option maxHeartbeats 4000000 in
theorem m_X2_burnt (l : Launch) (g : Gt) (κ : Kp) (sz : Nat) (k : Nat) (hk : kd k = 2) : Met l yX2_burnt (.code yX2_burnt cX2_burnt 5 (some .boolean) :: uW) { frames := 0, cells := 0, slots := 0, locals := 0 } (PRE g κ sz [.ref (g.2.2 (k))]) (va_Qi (fun r κ' => r = bi (f_X2_burnt κ k) ∧ κ' = κ) (Wp g) (fr g sz)) 0 0 (fr g sz) := by
  refine k_enter (by decide +kernel) (Nat.le_of_ble_eq_true rfl) ?_
  intro p e s m below meth c ls hM hr hl hw hsz
  subst hsz
  have hl : lv_has ls 5 [(0, .ref (g.2.2 (k)))] := hl
  have hF := f_X2_burnt.eq_1 κ k
  refine lv_aload_n hM.x hM.b dX2_burnt_0 rfl (lv_at hl 0 rfl) ?_
  refine k_get2r hM hw hk u_fl_X2_9 dX2_burnt_1 ?_
  refine lv_astore_n (lv' := [(1, .ref (g.2.2 (k + 1))), (0, .ref (g.2.2 (k)))]) hM.x hM.b dX2_burnt_4 rfl hl (by decide) rfl (fun ls hl => ?_)
  refine lv_aload_n hM.x hM.b dX2_burnt_5 rfl (lv_at hl 0 rfl) ?_
  refine k_alen (v := nI 4) hM hw (hw.dm (kd2_6 hk) (by decide)) 0 (sh6 (kd2_6 hk)) rfl rfl dX2_burnt_6 ?_
  refine lv_istore_n (lv' := [(2, .int (nI (4))), (1, .ref (g.2.2 (k + 1))), (0, .ref (g.2.2 (k)))]) hM.x hM.b dX2_burnt_7 rfl hl (by decide) rfl (fun ls hl => ?_)
  refine lv_iconst (v := nI 0) hM.x hM.b dX2_burnt_8 (by decide) ?_
  refine lv_istore_n (lv' := [(3, .int (nI (0))), (2, .int (nI (4))), (1, .ref (g.2.2 (k + 1))), (0, .ref (g.2.2 (k)))]) hM.x hM.b dX2_burnt_9 rfl hl (by decide) rfl (fun ls hl => ?_)
  refine ml_X2_burnt l g κ k hk hM (4) (0) (by omega)  _ _ _ (lv_sub hl [0, 1, 2, 3] rfl) hw (fun  H locs ls he hl hw => ?_) (fun  H locs ls he hl hw => ?_)
  · rw [he] at hF; try dsimp only at hF
    refine lv_iconst (v := 0) hM.x hM.b dX2_burnt_42 (by decide) ?_
    exact k_zret (b := false) hM hr hw (Nat.le_of_ble_eq_true rfl) (Nat.le_of_ble_eq_true rfl) ⟨congrArg bi hF.symm, rfl⟩ dX2_burnt_43
  · rw [he] at hF; try dsimp only at hF
    refine lv_iconst (v := 1) hM.x hM.b dX2_burnt_34 (by decide) ?_
    exact k_zret (b := true) hM hr hw (Nat.le_of_ble_eq_true rfl) (Nat.le_of_ble_eq_true rfl) ⟨congrArg bi hF.symm, rfl⟩ dX2_burnt_35
end
section
theorem q_X1_goMinute : hdV yX1_goMinute RX1 0 := ⟨rfl, by decide +kernel, by decide +kernel, by decide +kernel⟩
def lp_X1_goMinute_13 (k : Nat) : Nat → Nat → Int32 → Kp → Int32 × Kp
  | 0, j, v1, κ => (v1, κ)
  | n + 1, j, v1, κ => match f_X1_roastForAMinute κ (k) (k + 7 + (j)) with | (r1, κ1) => (if (r1) = 0 then (lp_X1_goMinute_13 (k) n (j + 1) (v1) κ1) else (lp_X1_goMinute_13 (k) n (j + 1) ((v1) + 1) κ1))
set_option maxRecDepth 100000 in
set_option maxHeartbeats 4000000 in
theorem ml_X1_goMinute_13 {p : Program} {e : Env} {s : State} {m : MethodId} {below : List Frame} {meth : Method} {c : Code} {Q : State → Prop} (l : Launch) (g : Gt) (k : Nat) (hk : kd k = 1) (hM : Mc g p s m ([.ref (g.2.2 (k))] : List Value).toArray meth c cX1_goMinute 6 yX1_goMinute.cls) : ∀ (n j : Nat), j + n = 6 → ∀ (v1 : Int32) (κ : Kp), ∀ (H : Heap) (locs : List Loc) (ls : Array Slot), lv_has ls 6 [(4, .int (nI (j))), (3, .int (nI (6))), (2, .ref (g.2.2 (k + 2))), (1, .int (v1)), (0, .ref (g.2.2 (k)))] → Ws g s κ H locs → (∀ (u1 : Int32) (κz : Kp) (H : Heap) (locs : List Loc) (ls : Array Slot), lp_X1_goMinute_13 k n j v1 κ = (u1, κz) → lv_has ls 6 [(1, .int (u1)), (0, .ref (g.2.2 (k)))] → Ws g s κz H locs → W p l e { frames := 3, cells := 0, slots := 0, locals := 90 } s m ([.ref (g.2.2 (k))] : List Value).toArray below meth c H locs 0 0 Q (F0 m 43 ls [])) → W p l e { frames := 3, cells := 0, slots := 0, locals := 90 } s m ([.ref (g.2.2 (k))] : List Value).toArray below meth c H locs 0 0 Q (F0 m 13 ls []) := by
  intro n
  induction n with
  | zero =>
    intro j hj v1 κ H locs ls hl hw hx43
    have hF := Eq.refl (lp_X1_goMinute_13 k 0 j v1 κ)
    conv at hF => rhs; rw [lp_X1_goMinute_13]
    refine lv_iload hM.x hM.b dX1_goMinute_13 (lv_at hl 0 rfl) ?_
    refine lv_iload_n hM.x hM.b dX1_goMinute_15 rfl (lv_at hl 1 rfl) ?_
    refine lv_icmp_ge (tgt := 43) hM.x hM.b dX1_goMinute_16 (by decide) (fun _ => ?_) (fun cz => absurd (nI_le (by omega) (by omega) : nI 6 ≤ nI j) cz)
    exact hx43 (v1) κ H locs ls hF (lv_sub hl [3, 4] rfl) hw
  | succ n ih =>
    intro j hj v1 κ H locs ls hl hw hx43
    have hF := Eq.refl (lp_X1_goMinute_13 k (n + 1) j v1 κ)
    conv at hF => rhs; rw [lp_X1_goMinute_13]
    refine lv_iload hM.x hM.b dX1_goMinute_13 (lv_at hl 0 rfl) ?_
    refine lv_iload_n hM.x hM.b dX1_goMinute_15 rfl (lv_at hl 1 rfl) ?_
    refine lv_icmp_ge (tgt := 43) hM.x hM.b dX1_goMinute_16 (by decide) (fun cz => absurd cz (nI_ge (by omega) (by decide) : ¬ nI 6 ≤ nI j)) (fun _ => ?_)
    refine lv_aload_n hM.x hM.b dX1_goMinute_19 rfl (lv_at hl 2 rfl) ?_
    refine lv_iload hM.x hM.b dX1_goMinute_20 (lv_at hl 0 rfl) ?_
    refine k_ald8N (i := j) hM hw hk (by omega) dX1_goMinute_22 ?_
    refine lv_astore (lv' := [(5, .ref (g.2.2 (k + 7 + (j)))), (4, .int (nI (j))), (3, .int (nI (6))), (2, .ref (g.2.2 (k + 2))), (1, .int (v1)), (0, .ref (g.2.2 (k)))]) hM.x hM.b dX1_goMinute_23 hl (by decide) rfl (fun ls hl => ?_)
    refine lv_aload_n hM.x hM.b dX1_goMinute_25 rfl (lv_at hl 5 rfl) ?_
    refine lv_aload hM.x hM.b dX1_goMinute_26 (lv_at hl 0 rfl) ?_
    refine k_ci hw (k_runV [.ref (g.2.2 (k + 7 + (j)))] [] hM hw (m_X1_roastForAMinute l g κ _ (k) (k + 7 + (j)) (hk) ((kd1_3 hk (by omega)))) (hw.dm hk (by decide)) (sh1 hk) rfl (k_gV u_ml_X1_94 u_im_X1_roastForAMinute u_se_X1_roastForAMinute u_ini_X1 u_co_X1_roastForAMinute) (q_X1_roastForAMinute) rfl rfl rfl ⟨Nat.le_of_ble_eq_true rfl, Nat.le_of_ble_eq_true rfl⟩ hl.1 rfl (Nat.le_of_ble_eq_true rfl) dX1_goMinute_28 ⟨Nat.le_of_ble_eq_true rfl, Nat.le_of_ble_eq_true rfl⟩) (fun r1 κ1 H locs hpκ1 hw => ?_)
    simp only [hpκ1] at hF
    refine lv_if_eq (tgt := 37) hM.x hM.b dX1_goMinute_31 (by decide) (fun c1 => ?_) (fun c1 => ?_)
    · rw [if_pos c1] at hF
      refine lv_iinc (v := nI (j + 1)) (lv' := [(4, .int (nI (j + 1))), (5, .ref (g.2.2 (k + 7 + (j)))), (3, .int (nI (6))), (2, .ref (g.2.2 (k + 2))), (1, .int (v1)), (0, .ref (g.2.2 (k)))]) hM.x hM.b dX1_goMinute_37 hl (k := 1) rfl (nI_1 (j)) (by decide) rfl (fun ls hl => ?_)
      refine lv_goto (tgt := 13) hM.x hM.b dX1_goMinute_40 (by decide) ?_
      exact ih (j + 1) (by omega) (v1) κ1 H locs ls (lv_sub hl [0, 2, 3, 4, 5] rfl) hw (fun u1 κz H locs ls he hl hw => hx43 u1 κz H locs ls (hF.trans he) hl hw)
    · rw [if_neg c1] at hF
      refine lv_iinc (v := (v1) + 1) (lv' := [(1, .int ((v1) + 1)), (5, .ref (g.2.2 (k + 7 + (j)))), (4, .int (nI (j))), (3, .int (nI (6))), (2, .ref (g.2.2 (k + 2))), (0, .ref (g.2.2 (k)))]) hM.x hM.b dX1_goMinute_34 hl (k := 4) rfl rfl (by decide) rfl (fun ls hl => ?_)
      refine lv_iinc (v := nI (j + 1)) (lv' := [(4, .int (nI (j + 1))), (1, .int ((v1) + 1)), (5, .ref (g.2.2 (k + 7 + (j)))), (3, .int (nI (6))), (2, .ref (g.2.2 (k + 2))), (0, .ref (g.2.2 (k)))]) hM.x hM.b dX1_goMinute_37 hl (k := 2) rfl (nI_1 (j)) (by decide) rfl (fun ls hl => ?_)
      refine lv_goto (tgt := 13) hM.x hM.b dX1_goMinute_40 (by decide) ?_
      exact ih (j + 1) (by omega) ((v1) + 1) κ1 H locs ls (lv_sub hl [0, 3, 4, 1, 5] rfl) hw (fun u1 κz H locs ls he hl hw => hx43 u1 κz H locs ls (hF.trans he) hl hw)
def lp_X1_goMinute_54 (k : Nat) : Nat → Nat → Kp → Kp
  | 0, j, κ => κ
  | n + 1, j, κ => (fun κ1 : Kp => lp_X1_goMinute_54 (k) n (j + 1) κ1) (f_X0_burn κ (k + 4 + (j)) (κ (k) 6))
set_option maxRecDepth 100000 in
set_option maxHeartbeats 4000000 in
theorem ml_X1_goMinute_54 {p : Program} {e : Env} {s : State} {m : MethodId} {below : List Frame} {meth : Method} {c : Code} {Q : State → Prop} (l : Launch) (g : Gt) (k : Nat) (hk : kd k = 1) (v1 : Int32) (hM : Mc g p s m ([.ref (g.2.2 (k))] : List Value).toArray meth c cX1_goMinute 6 yX1_goMinute.cls) : ∀ (n j : Nat), j + n = 3 → ∀ (κ : Kp), ∀ (H : Heap) (locs : List Loc) (ls : Array Slot), lv_has ls 6 [(4, .int (nI (j))), (3, .int (nI (3))), (2, .ref (g.2.2 (k + 1))), (1, .int (v1)), (0, .ref (g.2.2 (k)))] → Ws g s κ H locs → (∀ (κz : Kp) (H : Heap) (locs : List Loc) (ls : Array Slot), lp_X1_goMinute_54 k n j κ = κz → lv_has ls 6 [(1, .int (v1)), (0, .ref (g.2.2 (k)))] → Ws g s κz H locs → W p l e { frames := 3, cells := 0, slots := 0, locals := 90 } s m ([.ref (g.2.2 (k))] : List Value).toArray below meth c H locs 0 0 Q (F0 m 81 ls [])) → W p l e { frames := 3, cells := 0, slots := 0, locals := 90 } s m ([.ref (g.2.2 (k))] : List Value).toArray below meth c H locs 0 0 Q (F0 m 54 ls []) := by
  intro n
  induction n with
  | zero =>
    intro j hj κ H locs ls hl hw hx81
    have hF := Eq.refl (lp_X1_goMinute_54 k 0 j κ)
    conv at hF => rhs; rw [lp_X1_goMinute_54]
    refine lv_iload hM.x hM.b dX1_goMinute_54 (lv_at hl 0 rfl) ?_
    refine lv_iload_n hM.x hM.b dX1_goMinute_56 rfl (lv_at hl 1 rfl) ?_
    refine lv_icmp_ge (tgt := 81) hM.x hM.b dX1_goMinute_57 (by decide) (fun _ => ?_) (fun cz => absurd (nI_le (by omega) (by omega) : nI 3 ≤ nI j) cz)
    exact hx81 κ H locs ls hF (lv_sub hl [3, 4] rfl) hw
  | succ n ih =>
    intro j hj κ H locs ls hl hw hx81
    have hF := Eq.refl (lp_X1_goMinute_54 k (n + 1) j κ)
    conv at hF => rhs; rw [lp_X1_goMinute_54]
    refine lv_iload hM.x hM.b dX1_goMinute_54 (lv_at hl 0 rfl) ?_
    refine lv_iload_n hM.x hM.b dX1_goMinute_56 rfl (lv_at hl 1 rfl) ?_
    refine lv_icmp_ge (tgt := 81) hM.x hM.b dX1_goMinute_57 (by decide) (fun cz => absurd cz (nI_ge (by omega) (by decide) : ¬ nI 3 ≤ nI j)) (fun _ => ?_)
    refine lv_aload_n hM.x hM.b dX1_goMinute_60 rfl (lv_at hl 2 rfl) ?_
    refine lv_iload hM.x hM.b dX1_goMinute_61 (lv_at hl 0 rfl) ?_
    refine k_ald7N (i := j) hM hw hk (by omega) dX1_goMinute_63 ?_
    refine lv_astore (lv' := [(5, .ref (g.2.2 (k + 4 + (j)))), (4, .int (nI (j))), (3, .int (nI (3))), (2, .ref (g.2.2 (k + 1))), (1, .int (v1)), (0, .ref (g.2.2 (k)))]) hM.x hM.b dX1_goMinute_64 hl (by decide) rfl (fun ls hl => ?_)
    refine lv_aload hM.x hM.b dX1_goMinute_66 (lv_at hl 0 rfl) ?_
    refine lv_aload_n hM.x hM.b dX1_goMinute_68 rfl (lv_at hl 5 rfl) ?_
    refine k_get1 6 hM hw hk (by decide) u_fl_X1_55 dX1_goMinute_69 ?_
    refine k_cvp hw (k_runV [.int (κ (k) 6)] [] hM hw (m_X0_burn l g κ _ (k + 4 + (j)) (κ (k) 6) ((kd1_0 hk (by omega)))) (hw.dm (kd1_0 hk (by omega)) (by decide)) (sh0 (kd1_0 hk (by omega))) rfl (k_gV u_ml_X1_98 u_im_X0_burn u_se_X0_burn u_ini_X0 u_co_X0_burn) (q_X0_burn) rfl rfl rfl ⟨Nat.le_of_ble_eq_true rfl, Nat.le_of_ble_eq_true rfl⟩ hl.1 rfl (Nat.le_of_ble_eq_true rfl) dX1_goMinute_72 ⟨Nat.le_of_ble_eq_true rfl, Nat.le_of_ble_eq_true rfl⟩) (fun κ1 H locs eκ1 hw => ?_)
    rw [eκ1] at hF
    try dsimp only at hF
    refine lv_iinc (v := nI (j + 1)) (lv' := [(4, .int (nI (j + 1))), (5, .ref (g.2.2 (k + 4 + (j)))), (3, .int (nI (3))), (2, .ref (g.2.2 (k + 1))), (1, .int (v1)), (0, .ref (g.2.2 (k)))]) hM.x hM.b dX1_goMinute_75 hl (k := 1) rfl (nI_1 (j)) (by decide) rfl (fun ls hl => ?_)
    refine lv_goto (tgt := 54) hM.x hM.b dX1_goMinute_78 (by decide) ?_
    exact ih (j + 1) (by omega) κ1 H locs ls (lv_sub hl [0, 2, 3, 4, 5] rfl) hw (fun κz H locs ls he hl hw => hx81 κz H locs ls (hF.trans he) hl hw)
def f_X1_goMinute (κ : Kp) (k : Nat) : Int32 × Kp := match lp_X1_goMinute_13 k 6 0 (0) κ with | (uz1, κ1) => ((fun κ2 : Kp => (fun κ3 : Kp => (uz1, κ3)) (up2 κ2 (k) 6 (((κ2 (k) 6) + (1))))) (lp_X1_goMinute_54 k 3 0 κ1))
set_option maxRecDepth 100000 in
set_option maxHeartbeats 4000000 in
theorem m_X1_goMinute (l : Launch) (g : Gt) (κ : Kp) (sz : Nat) (k : Nat) (hk : kd k = 1) : Met l yX1_goMinute (.code yX1_goMinute cX1_goMinute 6 (some .int) :: uW) { frames := 3, cells := 0, slots := 0, locals := 90 } (PRE g κ sz [.ref (g.2.2 (k))]) (va_Qi (fun r κ' => f_X1_goMinute κ k = (r, κ')) (Wp g) (fr g sz)) 0 0 (fr g sz) := by
  refine k_enter (by decide +kernel) (Nat.le_of_ble_eq_true rfl) ?_
  intro p e s m below meth c ls hM hr hl hw hsz
  subst hsz
  have hl : lv_has ls 6 [(0, .ref (g.2.2 (k)))] := hl
  have hF := f_X1_goMinute.eq_1 κ k
  refine lv_iconst (v := 0) hM.x hM.b dX1_goMinute_0 (by decide) ?_
  refine lv_istore_n (lv' := [(1, .int (0)), (0, .ref (g.2.2 (k)))]) hM.x hM.b dX1_goMinute_1 rfl hl (by decide) rfl (fun ls hl => ?_)
  refine lv_aload_n hM.x hM.b dX1_goMinute_2 rfl (lv_at hl 1 rfl) ?_
  refine k_get1r 1 hM hw hk (by decide) u_fl_X1_19 dX1_goMinute_3 ?_
  refine lv_astore_n (lv' := [(2, .ref (g.2.2 (k + 2))), (1, .int (0)), (0, .ref (g.2.2 (k)))]) hM.x hM.b dX1_goMinute_6 rfl hl (by decide) rfl (fun ls hl => ?_)
  refine lv_aload_n hM.x hM.b dX1_goMinute_7 rfl (lv_at hl 0 rfl) ?_
  refine k_alen (v := nI 6) hM hw (hw.dm (kd1_8 hk) (by decide)) 3 (sh8 (kd1_8 hk)) rfl rfl dX1_goMinute_8 ?_
  refine lv_istore_n (lv' := [(3, .int (nI (6))), (2, .ref (g.2.2 (k + 2))), (1, .int (0)), (0, .ref (g.2.2 (k)))]) hM.x hM.b dX1_goMinute_9 rfl hl (by decide) rfl (fun ls hl => ?_)
  refine lv_iconst (v := nI 0) hM.x hM.b dX1_goMinute_10 (by decide) ?_
  refine lv_istore (lv' := [(4, .int (nI (0))), (3, .int (nI (6))), (2, .ref (g.2.2 (k + 2))), (1, .int (0)), (0, .ref (g.2.2 (k)))]) hM.x hM.b dX1_goMinute_11 hl (by decide) rfl (fun ls hl => ?_)
  refine ml_X1_goMinute_13 l g k hk hM (6) (0) (by omega) (0) κ _ _ _ (lv_sub hl [0, 1, 2, 3, 4] rfl) hw (fun uz1 κ1 H locs ls he hl hw => ?_)
  rw [he] at hF
  try dsimp only at hF
  refine lv_aload_n hM.x hM.b dX1_goMinute_43 rfl (lv_at hl 1 rfl) ?_
  refine k_get1r 0 hM hw hk (by decide) u_fl_X1_11 dX1_goMinute_44 ?_
  refine lv_astore_n (lv' := [(2, .ref (g.2.2 (k + 1))), (1, .int (uz1)), (0, .ref (g.2.2 (k)))]) hM.x hM.b dX1_goMinute_47 rfl hl (by decide) rfl (fun ls hl => ?_)
  refine lv_aload_n hM.x hM.b dX1_goMinute_48 rfl (lv_at hl 0 rfl) ?_
  refine k_alen (v := nI 3) hM hw (hw.dm (kd1_7 hk) (by decide)) 2 (sh7 (kd1_7 hk)) rfl rfl dX1_goMinute_49 ?_
  refine lv_istore_n (lv' := [(3, .int (nI (3))), (2, .ref (g.2.2 (k + 1))), (1, .int (uz1)), (0, .ref (g.2.2 (k)))]) hM.x hM.b dX1_goMinute_50 rfl hl (by decide) rfl (fun ls hl => ?_)
  refine lv_iconst (v := nI 0) hM.x hM.b dX1_goMinute_51 (by decide) ?_
  refine lv_istore (lv' := [(4, .int (nI (0))), (3, .int (nI (3))), (2, .ref (g.2.2 (k + 1))), (1, .int (uz1)), (0, .ref (g.2.2 (k)))]) hM.x hM.b dX1_goMinute_52 hl (by decide) rfl (fun ls hl => ?_)
  refine ml_X1_goMinute_54 l g k hk (uz1) hM (3) (0) (by omega) κ1 _ _ _ (lv_sub hl [0, 1, 2, 3, 4] rfl) hw (fun κ2 H locs ls he hl hw => ?_)
  rw [he] at hF
  try dsimp only at hF
  refine lv_aload_n hM.x hM.b dX1_goMinute_81 rfl (lv_at hl 1 rfl) ?_
  refine lv_dup hM.x hM.b dX1_goMinute_82 rfl ?_
  refine k_get1 6 hM hw hk (by decide) u_fl_X1_55 dX1_goMinute_83 ?_
  refine lv_iconst (v := 1) hM.x hM.b dX1_goMinute_86 (by decide) ?_
  refine lv_iadd hM.x hM.b dX1_goMinute_87 ?_
  refine k_put1 6 hM hw hk (by decide) u_fl_X1_55 dX1_goMinute_88 (fun H locs hw => ?_)
  obtain ⟨κ3, eκ3⟩ : ∃ z : Kp, up2 κ2 (k) 6 (((κ2 (k) 6) + (1))) = z := ⟨_, rfl⟩
  rw [eκ3] at hw
  rw [eκ3] at hF
  try dsimp only at hF
  refine lv_iload_n hM.x hM.b dX1_goMinute_91 rfl (lv_at hl 0 rfl) ?_
  exact k_iret hM hr hw (Nat.le_of_ble_eq_true rfl) (Nat.le_of_ble_eq_true rfl) hF dX1_goMinute_92
theorem q_X1_goMinutes : hdV yX1_goMinutes RX1 1 := ⟨rfl, by decide +kernel, by decide +kernel, by decide +kernel⟩
def lp_X1_goMinutes (k : Nat) (a : Int32) : Nat → Nat → Int32 → Kp → Int32 × Kp
  | 0, j, v2, κ => (v2, κ)
  | n + 1, j, v2, κ => match f_X1_goMinute κ (k) with | (r1, κ1) => (lp_X1_goMinutes (k) (a) n (j + 1) (((v2) + (r1))) κ1)
set_option maxRecDepth 100000 in
set_option maxHeartbeats 4000000 in
theorem ml_X1_goMinutes {p : Program} {e : Env} {s : State} {m : MethodId} {below : List Frame} {meth : Method} {c : Code} {Q : State → Prop} (l : Launch) (g : Gt) (k : Nat) (a : Int32) (hk : kd k = 1) (hM : Mc g p s m ([.ref (g.2.2 (k)), .int (a)] : List Value).toArray meth c cX1_goMinutes 4 yX1_goMinutes.cls) : ∀ (n j : Nat), j + n = a.toNatClampNeg → ∀ (v2 : Int32) (κ : Kp), ∀ (H : Heap) (locs : List Loc) (ls : Array Slot), lv_has ls 4 [(3, .int (nI (j))), (2, .int (v2)), (0, .ref (g.2.2 (k))), (1, .int (a))] → Ws g s κ H locs → (∀ (u2 : Int32) (κz : Kp) (H : Heap) (locs : List Loc) (ls : Array Slot), lp_X1_goMinutes k a n j v2 κ = (u2, κz) → lv_has ls 4 [(2, .int (u2)), (0, .ref (g.2.2 (k)))] → Ws g s κz H locs → W p l e { frames := 4, cells := 0, slots := 0, locals := 120 } s m ([.ref (g.2.2 (k)), .int (a)] : List Value).toArray below meth c H locs 0 0 Q (F0 m 22 ls [])) → W p l e { frames := 4, cells := 0, slots := 0, locals := 120 } s m ([.ref (g.2.2 (k)), .int (a)] : List Value).toArray below meth c H locs 0 0 Q (F0 m 4 ls []) := by
  intro n
  induction n with
  | zero =>
    intro j hj v2 κ H locs ls hl hw hx22
    have hF := Eq.refl (lp_X1_goMinutes k a 0 j v2 κ)
    conv at hF => rhs; rw [lp_X1_goMinutes]
    refine lv_iload_n hM.x hM.b dX1_goMinutes_4 rfl (lv_at hl 0 rfl) ?_
    refine lv_iload_n hM.x hM.b dX1_goMinutes_5 rfl (lv_at hl 3 rfl) ?_
    refine lv_icmp_ge (tgt := 22) hM.x hM.b dX1_goMinutes_6 (by decide) (fun _ => ?_) (fun cz => absurd (cl_ge hj) cz)
    exact hx22 (v2) κ H locs ls hF (lv_sub hl [1, 2] rfl) hw
  | succ n ih =>
    intro j hj v2 κ H locs ls hl hw hx22
    have hF := Eq.refl (lp_X1_goMinutes k a (n + 1) j v2 κ)
    conv at hF => rhs; rw [lp_X1_goMinutes]
    refine lv_iload_n hM.x hM.b dX1_goMinutes_4 rfl (lv_at hl 0 rfl) ?_
    refine lv_iload_n hM.x hM.b dX1_goMinutes_5 rfl (lv_at hl 3 rfl) ?_
    refine lv_icmp_ge (tgt := 22) hM.x hM.b dX1_goMinutes_6 (by decide) (fun cz => absurd cz (cl_lt hj)) (fun _ => ?_)
    refine lv_iload_n hM.x hM.b dX1_goMinutes_9 rfl (lv_at hl 1 rfl) ?_
    refine lv_aload_n hM.x hM.b dX1_goMinutes_10 rfl (lv_at hl 2 rfl) ?_
    refine k_ci hw (k_runV [] [.int (v2)] hM hw (m_X1_goMinute l g κ _ (k) (hk)) (hw.dm hk (by decide)) (sh1 hk) rfl (k_gV u_ml_X1_90 u_im_X1_goMinute u_se_X1_goMinute u_ini_X1 u_co_X1_goMinute) (q_X1_goMinute) rfl rfl rfl ⟨Nat.le_of_ble_eq_true rfl, Nat.le_of_ble_eq_true rfl⟩ hl.1 rfl (Nat.le_of_ble_eq_true rfl) dX1_goMinutes_11 ⟨Nat.le_of_ble_eq_true rfl, Nat.le_of_ble_eq_true rfl⟩) (fun r1 κ1 H locs hpκ1 hw => ?_)
    simp only [hpκ1] at hF
    refine lv_iadd hM.x hM.b dX1_goMinutes_14 ?_
    refine lv_istore_n (lv' := [(2, .int (((v2) + (r1)))), (3, .int (nI (j))), (0, .ref (g.2.2 (k))), (1, .int (a))]) hM.x hM.b dX1_goMinutes_15 rfl hl (by decide) rfl (fun ls hl => ?_)
    refine lv_iinc (v := nI (j + 1)) (lv' := [(3, .int (nI (j + 1))), (2, .int (((v2) + (r1)))), (0, .ref (g.2.2 (k))), (1, .int (a))]) hM.x hM.b dX1_goMinutes_16 hl (k := 1) rfl (nI_1 (j)) (by decide) rfl (fun ls hl => ?_)
    refine lv_goto (tgt := 4) hM.x hM.b dX1_goMinutes_19 (by decide) ?_
    exact ih (j + 1) (by omega) (((v2) + (r1))) κ1 H locs ls (lv_sub hl [0, 1, 2, 3] rfl) hw (fun u2 κz H locs ls he hl hw => hx22 u2 κz H locs ls (hF.trans he) hl hw)
def f_X1_goMinutes (κ : Kp) (k : Nat) (a : Int32) : Int32 × Kp := match lp_X1_goMinutes k a a.toNatClampNeg 0 (0) κ with | (uz1, κ1) => ((uz1, κ1))
set_option maxRecDepth 100000 in
set_option maxHeartbeats 4000000 in
theorem m_X1_goMinutes (l : Launch) (g : Gt) (κ : Kp) (sz : Nat) (k : Nat) (a : Int32) (hk : kd k = 1) : Met l yX1_goMinutes (.code yX1_goMinutes cX1_goMinutes 4 (some .int) :: uW) { frames := 4, cells := 0, slots := 0, locals := 120 } (PRE g κ sz [.ref (g.2.2 (k)), .int (a)]) (va_Qi (fun r κ' => f_X1_goMinutes κ k a = (r, κ')) (Wp g) (fr g sz)) 0 0 (fr g sz) := by
  refine k_enter (by decide +kernel) (Nat.le_of_ble_eq_true rfl) ?_
  intro p e s m below meth c ls hM hr hl hw hsz
  subst hsz
  have hl : lv_has ls 4 [(0, .ref (g.2.2 (k))), (1, .int (a))] := hl
  have hF := f_X1_goMinutes.eq_1 κ k a
  refine lv_iconst (v := 0) hM.x hM.b dX1_goMinutes_0 (by decide) ?_
  refine lv_istore_n (lv' := [(2, .int (0)), (0, .ref (g.2.2 (k))), (1, .int (a))]) hM.x hM.b dX1_goMinutes_1 rfl hl (by decide) rfl (fun ls hl => ?_)
  refine lv_iconst (v := nI 0) hM.x hM.b dX1_goMinutes_2 (by decide) ?_
  refine lv_istore_n (lv' := [(3, .int (nI (0))), (2, .int (0)), (0, .ref (g.2.2 (k))), (1, .int (a))]) hM.x hM.b dX1_goMinutes_3 rfl hl (by decide) rfl (fun ls hl => ?_)
  refine ml_X1_goMinutes l g k a hk hM (a.toNatClampNeg) (0) (by omega) (0) κ _ _ _ (lv_sub hl [0, 1, 2, 3] rfl) hw (fun uz1 κ1 H locs ls he hl hw => ?_)
  rw [he] at hF
  try dsimp only at hF
  refine lv_iload_n hM.x hM.b dX1_goMinutes_22 rfl (lv_at hl 0 rfl) ?_
  exact k_iret hM hr hw (Nat.le_of_ble_eq_true rfl) (Nat.le_of_ble_eq_true rfl) hF dX1_goMinutes_23
theorem q_X1_sumBrown : hdV yX1_sumBrown RX1 0 := ⟨rfl, by decide +kernel, by decide +kernel, by decide +kernel⟩
def lp_X1_sumBrown_38 (κ : Kp) (k : Nat) (i : Nat) : Nat → Nat → Int32 → Int32
  | 0, j, v1 => v1
  | n + 1, j, v1 => lp_X1_sumBrown_38 (κ) (k) (i) n (j + 1) (((v1) + (κ (k + 13 + 2 * (i) + 1) (j))))
set_option maxRecDepth 100000 in
set_option maxHeartbeats 4000000 in
theorem ml_X1_sumBrown_38 {p : Program} {e : Env} {s : State} {m : MethodId} {below : List Frame} {meth : Method} {c : Code} {Q : State → Prop} (l : Launch) (g : Gt) (κ : Kp) (k : Nat) (i : Nat) (hk : kd k = 1) (hi : i < 16) (hM : Mc g p s m ([.ref (g.2.2 (k))] : List Value).toArray meth c cX1_sumBrown 7 yX1_sumBrown.cls) : ∀ (n j : Nat), j + n = 4 → ∀ (v1 : Int32), ∀ (H : Heap) (locs : List Loc) (ls : Array Slot), lv_has ls 7 [(5, .int (nI (j))), (4, .int (nI (4))), (3, .ref (g.2.2 (k + 13 + 2 * (i) + 1))), (2, .int (nI (i))), (1, .int (v1)), (0, .ref (g.2.2 (k)))] → Ws g s κ H locs → (∀ (u1 : Int32) (H : Heap) (locs : List Loc) (ls : Array Slot), lp_X1_sumBrown_38 κ k i n j v1 = u1 → lv_has ls 7 [(2, .int (nI (i))), (1, .int (u1)), (0, .ref (g.2.2 (k)))] → Ws g s κ H locs → W p l e { frames := 0, cells := 0, slots := 0, locals := 0 } s m ([.ref (g.2.2 (k))] : List Value).toArray below meth c H locs 0 0 Q (F0 m 62 ls [])) → W p l e { frames := 0, cells := 0, slots := 0, locals := 0 } s m ([.ref (g.2.2 (k))] : List Value).toArray below meth c H locs 0 0 Q (F0 m 38 ls []) := by
  intro n
  induction n with
  | zero =>
    intro j hj v1 H locs ls hl hw hx62
    have hF := Eq.refl (lp_X1_sumBrown_38 κ k i 0 j v1)
    conv at hF => rhs; rw [lp_X1_sumBrown_38]
    refine lv_iload hM.x hM.b dX1_sumBrown_38 (lv_at hl 0 rfl) ?_
    refine lv_iload hM.x hM.b dX1_sumBrown_40 (lv_at hl 1 rfl) ?_
    refine lv_icmp_ge (tgt := 62) hM.x hM.b dX1_sumBrown_42 (by decide) (fun _ => ?_) (fun cz => absurd (nI_le (by omega) (by omega) : nI 4 ≤ nI j) cz)
    exact hx62 (v1) H locs ls hF (lv_sub hl [3, 4, 5] rfl) hw
  | succ n ih =>
    intro j hj v1 H locs ls hl hw hx62
    have hF := Eq.refl (lp_X1_sumBrown_38 κ k i (n + 1) j v1)
    conv at hF => rhs; rw [lp_X1_sumBrown_38]
    refine lv_iload hM.x hM.b dX1_sumBrown_38 (lv_at hl 0 rfl) ?_
    refine lv_iload hM.x hM.b dX1_sumBrown_40 (lv_at hl 1 rfl) ?_
    refine lv_icmp_ge (tgt := 62) hM.x hM.b dX1_sumBrown_42 (by decide) (fun cz => absurd cz (nI_ge (by omega) (by decide) : ¬ nI 4 ≤ nI j)) (fun _ => ?_)
    refine lv_aload_n hM.x hM.b dX1_sumBrown_45 rfl (lv_at hl 2 rfl) ?_
    refine lv_iload hM.x hM.b dX1_sumBrown_46 (lv_at hl 0 rfl) ?_
    refine k_ialdN (i := j) (n := 4) hM hw (hw.dm (kd2_6 (kd1_2 hk hi)) (by decide)) (sh6 (kd2_6 (kd1_2 hk hi))) (by omega) (by decide) dX1_sumBrown_48 ?_
    refine lv_istore (lv' := [(6, .int (κ (k + 13 + 2 * (i) + 1) (j))), (5, .int (nI (j))), (4, .int (nI (4))), (3, .ref (g.2.2 (k + 13 + 2 * (i) + 1))), (2, .int (nI (i))), (1, .int (v1)), (0, .ref (g.2.2 (k)))]) hM.x hM.b dX1_sumBrown_49 hl (by decide) rfl (fun ls hl => ?_)
    refine lv_iload_n hM.x hM.b dX1_sumBrown_51 rfl (lv_at hl 5 rfl) ?_
    refine lv_iload hM.x hM.b dX1_sumBrown_52 (lv_at hl 0 rfl) ?_
    refine lv_iadd hM.x hM.b dX1_sumBrown_54 ?_
    refine lv_istore_n (lv' := [(1, .int (((v1) + (κ (k + 13 + 2 * (i) + 1) (j))))), (6, .int (κ (k + 13 + 2 * (i) + 1) (j))), (5, .int (nI (j))), (4, .int (nI (4))), (3, .ref (g.2.2 (k + 13 + 2 * (i) + 1))), (2, .int (nI (i))), (0, .ref (g.2.2 (k)))]) hM.x hM.b dX1_sumBrown_55 rfl hl (by decide) rfl (fun ls hl => ?_)
    refine lv_iinc (v := nI (j + 1)) (lv' := [(5, .int (nI (j + 1))), (1, .int (((v1) + (κ (k + 13 + 2 * (i) + 1) (j))))), (6, .int (κ (k + 13 + 2 * (i) + 1) (j))), (4, .int (nI (4))), (3, .ref (g.2.2 (k + 13 + 2 * (i) + 1))), (2, .int (nI (i))), (0, .ref (g.2.2 (k)))]) hM.x hM.b dX1_sumBrown_56 hl (k := 2) rfl (nI_1 (j)) (by decide) rfl (fun ls hl => ?_)
    refine lv_goto (tgt := 38) hM.x hM.b dX1_sumBrown_59 (by decide) ?_
    exact ih (j + 1) (by omega) (((v1) + (κ (k + 13 + 2 * (i) + 1) (j)))) H locs ls (lv_sub hl [0, 3, 4, 5, 1, 6] rfl) hw (fun u1 H locs ls he hl hw => hx62 u1 H locs ls (hF.trans he) hl hw)
def lp_X1_sumBrown (κ : Kp) (k : Nat) : Nat → Nat → Int32 → Int32
  | 0, j, v1 => v1
  | n + 1, j, v1 => if (κ (k) 5) ≤ (nI (j)) then (v1) else ((fun uz1 : Int32 => lp_X1_sumBrown (κ) (k) n (j + 1) (uz1)) (lp_X1_sumBrown_38 κ k j 4 0 (v1)))
set_option maxRecDepth 100000 in
set_option maxHeartbeats 4000000 in
theorem ml_X1_sumBrown {p : Program} {e : Env} {s : State} {m : MethodId} {below : List Frame} {meth : Method} {c : Code} {Q : State → Prop} (l : Launch) (g : Gt) (κ : Kp) (k : Nat) (hk : kd k = 1) (hM : Mc g p s m ([.ref (g.2.2 (k))] : List Value).toArray meth c cX1_sumBrown 7 yX1_sumBrown.cls) : ∀ (n j : Nat), j + n = 16 → ∀ (v1 : Int32), ∀ (H : Heap) (locs : List Loc) (ls : Array Slot), lv_has ls 7 [(2, .int (nI (j))), (1, .int (v1)), (0, .ref (g.2.2 (k)))] → Ws g s κ H locs → (∀ (u1 : Int32) (H : Heap) (locs : List Loc) (ls : Array Slot), lp_X1_sumBrown κ k n j v1 = u1 → lv_has ls 7 [(1, .int (u1)), (0, .ref (g.2.2 (k)))] → Ws g s κ H locs → W p l e { frames := 0, cells := 0, slots := 0, locals := 0 } s m ([.ref (g.2.2 (k))] : List Value).toArray below meth c H locs 0 0 Q (F0 m 68 ls [])) → W p l e { frames := 0, cells := 0, slots := 0, locals := 0 } s m ([.ref (g.2.2 (k))] : List Value).toArray below meth c H locs 0 0 Q (F0 m 4 ls []) := by
  intro n
  induction n with
  | zero =>
    intro j hj v1 H locs ls hl hw hx68
    have hF := Eq.refl (lp_X1_sumBrown κ k 0 j v1)
    conv at hF => rhs; rw [lp_X1_sumBrown]
    refine lv_iload_n hM.x hM.b dX1_sumBrown_4 rfl (lv_at hl 0 rfl) ?_
    refine lv_aload_n hM.x hM.b dX1_sumBrown_5 rfl (lv_at hl 2 rfl) ?_
    refine k_get1r 2 hM hw hk (by decide) u_fl_X1_25 dX1_sumBrown_6 ?_
    refine k_alen (v := nI 16) hM hw (hw.dm (kd1_9 hk) (by decide)) 4 (sh9 (kd1_9 hk)) rfl rfl dX1_sumBrown_9 ?_
    refine lv_icmp_ge (tgt := 68) hM.x hM.b dX1_sumBrown_10 (by decide) (fun _ => ?_) (fun cz => absurd (nI_le (by omega) (by omega) : nI 16 ≤ nI j) cz)
    exact hx68 (v1) H locs ls hF (lv_sub hl [1, 2] rfl) hw
  | succ n ih =>
    intro j hj v1 H locs ls hl hw hx68
    have hF := Eq.refl (lp_X1_sumBrown κ k (n + 1) j v1)
    conv at hF => rhs; rw [lp_X1_sumBrown]
    refine lv_iload_n hM.x hM.b dX1_sumBrown_4 rfl (lv_at hl 0 rfl) ?_
    refine lv_aload_n hM.x hM.b dX1_sumBrown_5 rfl (lv_at hl 2 rfl) ?_
    refine k_get1r 2 hM hw hk (by decide) u_fl_X1_25 dX1_sumBrown_6 ?_
    refine k_alen (v := nI 16) hM hw (hw.dm (kd1_9 hk) (by decide)) 4 (sh9 (kd1_9 hk)) rfl rfl dX1_sumBrown_9 ?_
    refine lv_icmp_ge (tgt := 68) hM.x hM.b dX1_sumBrown_10 (by decide) (fun cz => absurd cz (nI_ge (by omega) (by decide) : ¬ nI 16 ≤ nI j)) (fun _ => ?_)
    refine lv_iload_n hM.x hM.b dX1_sumBrown_13 rfl (lv_at hl 0 rfl) ?_
    refine lv_aload_n hM.x hM.b dX1_sumBrown_14 rfl (lv_at hl 2 rfl) ?_
    refine k_get1 5 hM hw hk (by decide) u_fl_X1_52 dX1_sumBrown_15 ?_
    refine lv_icmp_ge (tgt := 68) hM.x hM.b dX1_sumBrown_18 (by decide) (fun c1 => ?_) (fun c1 => ?_)
    · rw [if_pos c1] at hF
      exact hx68 (v1) H locs ls hF (lv_sub hl [1, 2] rfl) hw
    · rw [if_neg c1] at hF
      refine lv_aload_n hM.x hM.b dX1_sumBrown_21 rfl (lv_at hl 2 rfl) ?_
      refine k_get1r 2 hM hw hk (by decide) u_fl_X1_25 dX1_sumBrown_22 ?_
      refine lv_iload_n hM.x hM.b dX1_sumBrown_25 rfl (lv_at hl 0 rfl) ?_
      refine k_ald9N (i := j) hM hw hk (by omega) dX1_sumBrown_26 ?_
      refine k_get2r hM hw (kd1_2 hk (by omega)) u_fl_X1_134 dX1_sumBrown_27 ?_
      refine lv_astore_n (lv' := [(3, .ref (g.2.2 (k + 13 + 2 * (j) + 1))), (2, .int (nI (j))), (1, .int (v1)), (0, .ref (g.2.2 (k)))]) hM.x hM.b dX1_sumBrown_30 rfl hl (by decide) rfl (fun ls hl => ?_)
      refine lv_aload_n hM.x hM.b dX1_sumBrown_31 rfl (lv_at hl 0 rfl) ?_
      refine k_alen (v := nI 4) hM hw (hw.dm (kd2_6 (kd1_2 hk (by omega))) (by decide)) 0 (sh6 (kd2_6 (kd1_2 hk (by omega)))) rfl rfl dX1_sumBrown_32 ?_
      refine lv_istore (lv' := [(4, .int (nI (4))), (3, .ref (g.2.2 (k + 13 + 2 * (j) + 1))), (2, .int (nI (j))), (1, .int (v1)), (0, .ref (g.2.2 (k)))]) hM.x hM.b dX1_sumBrown_33 hl (by decide) rfl (fun ls hl => ?_)
      refine lv_iconst (v := nI 0) hM.x hM.b dX1_sumBrown_35 (by decide) ?_
      refine lv_istore (lv' := [(5, .int (nI (0))), (4, .int (nI (4))), (3, .ref (g.2.2 (k + 13 + 2 * (j) + 1))), (2, .int (nI (j))), (1, .int (v1)), (0, .ref (g.2.2 (k)))]) hM.x hM.b dX1_sumBrown_36 hl (by decide) rfl (fun ls hl => ?_)
      refine ml_X1_sumBrown_38 l g κ k j hk (by omega) hM (4) (0) (by omega) (v1) _ _ _ (lv_sub hl [0, 1, 2, 3, 4, 5] rfl) hw (fun uz1 H locs ls he hl hw => ?_)
      rw [he] at hF
      try dsimp only at hF
      refine lv_iinc (v := nI (j + 1)) (lv' := [(2, .int (nI (j + 1))), (1, .int (uz1)), (0, .ref (g.2.2 (k)))]) hM.x hM.b dX1_sumBrown_62 hl (k := 0) rfl (nI_1 (j)) (by decide) rfl (fun ls hl => ?_)
      refine lv_goto (tgt := 4) hM.x hM.b dX1_sumBrown_65 (by decide) ?_
      exact ih (j + 1) (by omega) (uz1) H locs ls (lv_sub hl [0, 1, 2] rfl) hw (fun u1 H locs ls he hl hw => hx68 u1 H locs ls (hF.trans he) hl hw)
def f_X1_sumBrown (κ : Kp) (k : Nat) : Int32 := (fun uz1 : Int32 => uz1) (lp_X1_sumBrown κ k 16 0 (0))
set_option maxRecDepth 100000 in
set_option maxHeartbeats 4000000 in
theorem m_X1_sumBrown (l : Launch) (g : Gt) (κ : Kp) (sz : Nat) (k : Nat) (hk : kd k = 1) : Met l yX1_sumBrown (.code yX1_sumBrown cX1_sumBrown 7 (some .int) :: uW) { frames := 0, cells := 0, slots := 0, locals := 0 } (PRE g κ sz [.ref (g.2.2 (k))]) (va_Qi (fun r κ' => r = f_X1_sumBrown κ k ∧ κ' = κ) (Wp g) (fr g sz)) 0 0 (fr g sz) := by
  refine k_enter (by decide +kernel) (Nat.le_of_ble_eq_true rfl) ?_
  intro p e s m below meth c ls hM hr hl hw hsz
  subst hsz
  have hl : lv_has ls 7 [(0, .ref (g.2.2 (k)))] := hl
  have hF := f_X1_sumBrown.eq_1 κ k
  refine lv_iconst (v := 0) hM.x hM.b dX1_sumBrown_0 (by decide) ?_
  refine lv_istore_n (lv' := [(1, .int (0)), (0, .ref (g.2.2 (k)))]) hM.x hM.b dX1_sumBrown_1 rfl hl (by decide) rfl (fun ls hl => ?_)
  refine lv_iconst (v := nI 0) hM.x hM.b dX1_sumBrown_2 (by decide) ?_
  refine lv_istore_n (lv' := [(2, .int (nI (0))), (1, .int (0)), (0, .ref (g.2.2 (k)))]) hM.x hM.b dX1_sumBrown_3 rfl hl (by decide) rfl (fun ls hl => ?_)
  refine ml_X1_sumBrown l g κ k hk hM (16) (0) (by omega) (0) _ _ _ (lv_sub hl [0, 1, 2] rfl) hw (fun uz1 H locs ls he hl hw => ?_)
  rw [he] at hF
  try dsimp only at hF
  refine lv_iload_n hM.x hM.b dX1_sumBrown_68 rfl (lv_at hl 0 rfl) ?_
  exact k_iret hM hr hw (Nat.le_of_ble_eq_true rfl) (Nat.le_of_ble_eq_true rfl) ⟨hF.symm, rfl⟩ dX1_sumBrown_69
end
section
theorem q_X4_needFire : hdV yX4_needFire RX4 1 := ⟨rfl, by decide +kernel, by decide +kernel, by decide +kernel⟩
def f_X4_needFire (κ : Kp) (a : Int32) : (String × Kp) ⊕ Nat := match f_X1_fireAt κ (1) (a) with | none => (.inl (nIOE, κ)) | some p1 => (.inr (p1))
set_option maxRecDepth 100000 in
set_option maxHeartbeats 4000000 in
theorem m_X4_needFire (l : Launch) (g : Gt) (κ : Kp) (sz : Nat) (a : Int32) (hlst : l.stackTraces = false) : vx_Met l yX4_needFire (.code yX4_needFire cX4_needFire 3 (some (.object "KitchenSpits$Fire")) :: uW) { frames := 6, cells := 1, slots := 6, locals := 180 } (PRE g κ sz [.ref (g.2.2 (0)), .int (a)]) (va_Qe g.2.2 (fun r κ' => ∃ p, r = some p ∧ f_X4_needFire κ a = .inr p ∧ κ' = κ) (Wp g) (fr g sz)) (xC g sz (fun E κx => f_X4_needFire κ a = .inl (E, κx) ∧ E ∈ [nIOE])) 1 6 (fr g sz) := by
  refine k_xenter (by decide +kernel) (Nat.le_of_ble_eq_true rfl) ?_
  intro p e s m below meth c ls hM hno hr hl hw hsz
  subst hsz
  have hl : lv_has ls 3 [(0, .ref (g.2.2 (0))), (1, .int (a))] := hl
  have hF := f_X4_needFire.eq_1 κ a
  refine lv_aload_n hM.x hM.b dX4_needFire_0 rfl (lv_at hl 0 rfl) ?_
  refine k_get4a hM hw u_fl_X4_10 dX4_needFire_1 ?_
  refine lv_iload_n hM.x hM.b dX4_needFire_4 rfl (lv_at hl 1 rfl) ?_
  refine k_cepO hw (k_runV [.int (a)] [] hM hw (m_X1_fireAt l g κ _ (1) (a) (kd_1)) (hw.dm kd_1 (by decide)) (sh1 kd_1) rfl (k_gV u_ml_X4_210 u_im_X1_fireAt u_se_X1_fireAt u_ini_X1 u_co_X1_fireAt) (q_X1_fireAt) rfl rfl rfl ⟨Nat.le_of_ble_eq_true rfl, Nat.le_of_ble_eq_true rfl⟩ hl.1 rfl (Nat.le_of_ble_eq_true rfl) dX4_needFire_5 ⟨Nat.le_of_ble_eq_true rfl, Nat.le_of_ble_eq_true rfl⟩) (fun H locs ho hw => ?_) (fun p1 H locs ho hw => ?_)
  · simp only [ho] at hF
    refine lv_astore_nN (lv' := [(2, .null), (0, .ref (g.2.2 (0))), (1, .int (a))]) hM.x hM.b dX4_needFire_8 rfl hl (by decide) rfl (fun ls hl => ?_)
    refine lv_aload_nN hM.x hM.b dX4_needFire_9 rfl (lv_at hl 0 rfl) ?_
    refine lv_ifnonnullN hM.x hM.b dX4_needFire_10 ?_
    exact k_throw (cls := nIOE) (text := "there is no such fire") (is := 213) hlst hM hno hw (by decide +kernel) u_cl_X4_155 u_ini_JI (by decide +kernel) xIOE1 xIOE2 xIOE3 hl.1 dX4_needFire_13 dX4_needFire_16 dX4_needFire_17 dX4_needFire_19 dX4_needFire_22 (Nat.le_of_ble_eq_true rfl) (Nat.le_of_ble_eq_true rfl) (Nat.le_of_ble_eq_true rfl) (Nat.le_of_ble_eq_true rfl) ⟨hF, by decide +kernel⟩ (Nat.le_of_ble_eq_true rfl) (Nat.le_of_ble_eq_true rfl)
  · simp only [ho] at hF
    have hop1 := ho
    refine lv_astore_n (lv' := [(2, .ref (g.2.2 (p1))), (0, .ref (g.2.2 (0))), (1, .int (a))]) hM.x hM.b dX4_needFire_8 rfl hl (by decide) rfl (fun ls hl => ?_)
    refine lv_aload_n hM.x hM.b dX4_needFire_9 rfl (lv_at hl 0 rfl) ?_
    refine lv_ifnonnull (tgt := 23) hM.x hM.b dX4_needFire_10 (by decide) ?_
    refine lv_aload_n hM.x hM.b dX4_needFire_23 rfl (lv_at hl 0 rfl) ?_
    exact vx_ret (k_eret (v := some (p1)) hM hr hw (Nat.le_of_ble_eq_true rfl) (Nat.le_of_ble_eq_true rfl) ⟨_, rfl, hF, rfl⟩ dX4_needFire_24)
theorem sm_X4_needFire {κ : Kp} {a : Int32} {p : Nat} (h : f_X4_needFire κ a = .inr p) : f_X1_fireAt κ 1 a = some p := by
  unfold f_X4_needFire at h
  cases h1 : f_X1_fireAt κ 1 a with
  | none => simp only [h1] at h; cases h
  | some p1 => simp only [h1] at h; cases h; rfl
theorem kdp_X4_needFire {κ : Kp} {a : Int32} {p : Nat} (h : f_X4_needFire κ a = .inr p) : kd p = 0 := kdp_X1_fireAt kd_1 (sm_X4_needFire h)
theorem q_X4_needSpit : hdV yX4_needSpit RX4 1 := ⟨rfl, by decide +kernel, by decide +kernel, by decide +kernel⟩
def f_X4_needSpit (κ : Kp) (a : Int32) : (String × Kp) ⊕ Nat := match f_X1_spitAt κ (1) (a) with | none => (.inl (nIOE, κ)) | some p1 => (.inr (p1))
set_option maxRecDepth 100000 in
set_option maxHeartbeats 4000000 in
theorem m_X4_needSpit (l : Launch) (g : Gt) (κ : Kp) (sz : Nat) (a : Int32) (hlst : l.stackTraces = false) : vx_Met l yX4_needSpit (.code yX4_needSpit cX4_needSpit 3 (some (.object "KitchenSpits$Spit")) :: uW) { frames := 6, cells := 1, slots := 6, locals := 180 } (PRE g κ sz [.ref (g.2.2 (0)), .int (a)]) (va_Qe g.2.2 (fun r κ' => ∃ p, r = some p ∧ f_X4_needSpit κ a = .inr p ∧ κ' = κ) (Wp g) (fr g sz)) (xC g sz (fun E κx => f_X4_needSpit κ a = .inl (E, κx) ∧ E ∈ [nIOE])) 1 6 (fr g sz) := by
  refine k_xenter (by decide +kernel) (Nat.le_of_ble_eq_true rfl) ?_
  intro p e s m below meth c ls hM hno hr hl hw hsz
  subst hsz
  have hl : lv_has ls 3 [(0, .ref (g.2.2 (0))), (1, .int (a))] := hl
  have hF := f_X4_needSpit.eq_1 κ a
  refine lv_aload_n hM.x hM.b dX4_needSpit_0 rfl (lv_at hl 0 rfl) ?_
  refine k_get4a hM hw u_fl_X4_10 dX4_needSpit_1 ?_
  refine lv_iload_n hM.x hM.b dX4_needSpit_4 rfl (lv_at hl 1 rfl) ?_
  refine k_cepO hw (k_runV [.int (a)] [] hM hw (m_X1_spitAt l g κ _ (1) (a) (kd_1)) (hw.dm kd_1 (by decide)) (sh1 kd_1) rfl (k_gV u_ml_X4_215 u_im_X1_spitAt u_se_X1_spitAt u_ini_X1 u_co_X1_spitAt) (q_X1_spitAt) rfl rfl rfl ⟨Nat.le_of_ble_eq_true rfl, Nat.le_of_ble_eq_true rfl⟩ hl.1 rfl (Nat.le_of_ble_eq_true rfl) dX4_needSpit_5 ⟨Nat.le_of_ble_eq_true rfl, Nat.le_of_ble_eq_true rfl⟩) (fun H locs ho hw => ?_) (fun p1 H locs ho hw => ?_)
  · simp only [ho] at hF
    refine lv_astore_nN (lv' := [(2, .null), (0, .ref (g.2.2 (0))), (1, .int (a))]) hM.x hM.b dX4_needSpit_8 rfl hl (by decide) rfl (fun ls hl => ?_)
    refine lv_aload_nN hM.x hM.b dX4_needSpit_9 rfl (lv_at hl 0 rfl) ?_
    refine lv_ifnonnullN hM.x hM.b dX4_needSpit_10 ?_
    exact k_throw (cls := nIOE) (text := "there is no such spit") (is := 218) hlst hM hno hw (by decide +kernel) u_cl_X4_155 u_ini_JI (by decide +kernel) xIOE1 xIOE2 xIOE3 hl.1 dX4_needSpit_13 dX4_needSpit_16 dX4_needSpit_17 dX4_needSpit_19 dX4_needSpit_22 (Nat.le_of_ble_eq_true rfl) (Nat.le_of_ble_eq_true rfl) (Nat.le_of_ble_eq_true rfl) (Nat.le_of_ble_eq_true rfl) ⟨hF, by decide +kernel⟩ (Nat.le_of_ble_eq_true rfl) (Nat.le_of_ble_eq_true rfl)
  · simp only [ho] at hF
    have hop1 := ho
    refine lv_astore_n (lv' := [(2, .ref (g.2.2 (p1))), (0, .ref (g.2.2 (0))), (1, .int (a))]) hM.x hM.b dX4_needSpit_8 rfl hl (by decide) rfl (fun ls hl => ?_)
    refine lv_aload_n hM.x hM.b dX4_needSpit_9 rfl (lv_at hl 0 rfl) ?_
    refine lv_ifnonnull (tgt := 23) hM.x hM.b dX4_needSpit_10 (by decide) ?_
    refine lv_aload_n hM.x hM.b dX4_needSpit_23 rfl (lv_at hl 0 rfl) ?_
    exact vx_ret (k_eret (v := some (p1)) hM hr hw (Nat.le_of_ble_eq_true rfl) (Nat.le_of_ble_eq_true rfl) ⟨_, rfl, hF, rfl⟩ dX4_needSpit_24)
theorem sm_X4_needSpit {κ : Kp} {a : Int32} {p : Nat} (h : f_X4_needSpit κ a = .inr p) : f_X1_spitAt κ 1 a = some p := by
  unfold f_X4_needSpit at h
  cases h1 : f_X1_spitAt κ 1 a with
  | none => simp only [h1] at h; cases h
  | some p1 => simp only [h1] at h; cases h; rfl
theorem kdp_X4_needSpit {κ : Kp} {a : Int32} {p : Nat} (h : f_X4_needSpit κ a = .inr p) : kd p = 3 := kdp_X1_spitAt kd_1 (sm_X4_needSpit h)
theorem q_X4_needRoast : hdV yX4_needRoast RX4 1 := ⟨rfl, by decide +kernel, by decide +kernel, by decide +kernel⟩
def f_X4_needRoast (κ : Kp) (a : Int32) : (String × Kp) ⊕ Nat := match f_X1_roastAt κ (1) (a) with | none => (.inl (nIOE, κ)) | some p1 => (.inr (p1))
set_option maxRecDepth 100000 in
set_option maxHeartbeats 4000000 in
theorem m_X4_needRoast (l : Launch) (g : Gt) (κ : Kp) (sz : Nat) (a : Int32) (hlst : l.stackTraces = false) : vx_Met l yX4_needRoast (.code yX4_needRoast cX4_needRoast 3 (some (.object "KitchenSpits$Roast")) :: uW) { frames := 6, cells := 1, slots := 6, locals := 180 } (PRE g κ sz [.ref (g.2.2 (0)), .int (a)]) (va_Qe g.2.2 (fun r κ' => ∃ p, r = some p ∧ f_X4_needRoast κ a = .inr p ∧ κ' = κ) (Wp g) (fr g sz)) (xC g sz (fun E κx => f_X4_needRoast κ a = .inl (E, κx) ∧ E ∈ [nIOE])) 1 6 (fr g sz) := by
  refine k_xenter (by decide +kernel) (Nat.le_of_ble_eq_true rfl) ?_
  intro p e s m below meth c ls hM hno hr hl hw hsz
  subst hsz
  have hl : lv_has ls 3 [(0, .ref (g.2.2 (0))), (1, .int (a))] := hl
  have hF := f_X4_needRoast.eq_1 κ a
  refine lv_aload_n hM.x hM.b dX4_needRoast_0 rfl (lv_at hl 0 rfl) ?_
  refine k_get4a hM hw u_fl_X4_10 dX4_needRoast_1 ?_
  refine lv_iload_n hM.x hM.b dX4_needRoast_4 rfl (lv_at hl 1 rfl) ?_
  refine k_cepO hw (k_runV [.int (a)] [] hM hw (m_X1_roastAt l g κ _ (1) (a) (kd_1)) (hw.dm kd_1 (by decide)) (sh1 kd_1) rfl (k_gV u_ml_X4_220 u_im_X1_roastAt u_se_X1_roastAt u_ini_X1 u_co_X1_roastAt) (q_X1_roastAt) rfl rfl rfl ⟨Nat.le_of_ble_eq_true rfl, Nat.le_of_ble_eq_true rfl⟩ hl.1 rfl (Nat.le_of_ble_eq_true rfl) dX4_needRoast_5 ⟨Nat.le_of_ble_eq_true rfl, Nat.le_of_ble_eq_true rfl⟩) (fun H locs ho hw => ?_) (fun p1 H locs ho hw => ?_)
  · simp only [ho] at hF
    refine lv_astore_nN (lv' := [(2, .null), (0, .ref (g.2.2 (0))), (1, .int (a))]) hM.x hM.b dX4_needRoast_8 rfl hl (by decide) rfl (fun ls hl => ?_)
    refine lv_aload_nN hM.x hM.b dX4_needRoast_9 rfl (lv_at hl 0 rfl) ?_
    refine lv_ifnonnullN hM.x hM.b dX4_needRoast_10 ?_
    exact k_throw (cls := nIOE) (text := "there is no such roast") (is := 223) hlst hM hno hw (by decide +kernel) u_cl_X4_155 u_ini_JI (by decide +kernel) xIOE1 xIOE2 xIOE3 hl.1 dX4_needRoast_13 dX4_needRoast_16 dX4_needRoast_17 dX4_needRoast_19 dX4_needRoast_22 (Nat.le_of_ble_eq_true rfl) (Nat.le_of_ble_eq_true rfl) (Nat.le_of_ble_eq_true rfl) (Nat.le_of_ble_eq_true rfl) ⟨hF, by decide +kernel⟩ (Nat.le_of_ble_eq_true rfl) (Nat.le_of_ble_eq_true rfl)
  · simp only [ho] at hF
    have hop1 := ho
    refine lv_astore_n (lv' := [(2, .ref (g.2.2 (p1))), (0, .ref (g.2.2 (0))), (1, .int (a))]) hM.x hM.b dX4_needRoast_8 rfl hl (by decide) rfl (fun ls hl => ?_)
    refine lv_aload_n hM.x hM.b dX4_needRoast_9 rfl (lv_at hl 0 rfl) ?_
    refine lv_ifnonnull (tgt := 23) hM.x hM.b dX4_needRoast_10 (by decide) ?_
    refine lv_aload_n hM.x hM.b dX4_needRoast_23 rfl (lv_at hl 0 rfl) ?_
    exact vx_ret (k_eret (v := some (p1)) hM hr hw (Nat.le_of_ble_eq_true rfl) (Nat.le_of_ble_eq_true rfl) ⟨_, rfl, hF, rfl⟩ dX4_needRoast_24)
theorem sm_X4_needRoast {κ : Kp} {a : Int32} {p : Nat} (h : f_X4_needRoast κ a = .inr p) : f_X1_roastAt κ 1 a = some p := by
  unfold f_X4_needRoast at h
  cases h1 : f_X1_roastAt κ 1 a with
  | none => simp only [h1] at h; cases h
  | some p1 => simp only [h1] at h; cases h; rfl
theorem kdp_X4_needRoast {κ : Kp} {a : Int32} {p : Nat} (h : f_X4_needRoast κ a = .inr p) : kd p = 2 := kdp_X1_roastAt kd_1 (sm_X4_needRoast h)
theorem q_X4_needRoastOf : hdV yX4_needRoastOf RX4 1 := ⟨rfl, by decide +kernel, by decide +kernel, by decide +kernel⟩
def f_X4_needRoastOf (κ : Kp) (q : Nat) : (String × Kp) ⊕ Nat := match f_X1_roastAt κ (1) (κ (q) 5) with | none => (.inl (nISE, κ)) | some p1 => (.inr (p1))
set_option maxRecDepth 100000 in
set_option maxHeartbeats 4000000 in
theorem m_X4_needRoastOf (l : Launch) (g : Gt) (κ : Kp) (sz : Nat) (q : Nat) (hq : kd q = 3) (hlst : l.stackTraces = false) : vx_Met l yX4_needRoastOf (.code yX4_needRoastOf cX4_needRoastOf 3 (some (.object "KitchenSpits$Roast")) :: uW) { frames := 6, cells := 1, slots := 6, locals := 180 } (PRE g κ sz [.ref (g.2.2 (0)), .ref (g.2.2 (q))]) (va_Qe g.2.2 (fun r κ' => ∃ p, r = some p ∧ f_X4_needRoastOf κ q = .inr p ∧ κ' = κ) (Wp g) (fr g sz)) (xC g sz (fun E κx => f_X4_needRoastOf κ q = .inl (E, κx) ∧ E ∈ [nISE])) 1 6 (fr g sz) := by
  refine k_xenter (by decide +kernel) (Nat.le_of_ble_eq_true rfl) ?_
  intro p e s m below meth c ls hM hno hr hl hw hsz
  subst hsz
  have hl : lv_has ls 3 [(0, .ref (g.2.2 (0))), (1, .ref (g.2.2 (q)))] := hl
  have hF := f_X4_needRoastOf.eq_1 κ q
  refine lv_aload_n hM.x hM.b dX4_needRoastOf_0 rfl (lv_at hl 0 rfl) ?_
  refine k_get4a hM hw u_fl_X4_10 dX4_needRoastOf_1 ?_
  refine lv_aload_n hM.x hM.b dX4_needRoastOf_4 rfl (lv_at hl 1 rfl) ?_
  refine k_get3 5 hM hw hq (by decide) u_fl_X4_110 dX4_needRoastOf_5 ?_
  refine k_cepO hw (k_runV [.int (κ (q) 5)] [] hM hw (m_X1_roastAt l g κ _ (1) (κ (q) 5) (kd_1)) (hw.dm kd_1 (by decide)) (sh1 kd_1) rfl (k_gV u_ml_X4_220 u_im_X1_roastAt u_se_X1_roastAt u_ini_X1 u_co_X1_roastAt) (q_X1_roastAt) rfl rfl rfl ⟨Nat.le_of_ble_eq_true rfl, Nat.le_of_ble_eq_true rfl⟩ hl.1 rfl (Nat.le_of_ble_eq_true rfl) dX4_needRoastOf_8 ⟨Nat.le_of_ble_eq_true rfl, Nat.le_of_ble_eq_true rfl⟩) (fun H locs ho hw => ?_) (fun p1 H locs ho hw => ?_)
  · simp only [ho] at hF
    refine lv_astore_nN (lv' := [(2, .null), (0, .ref (g.2.2 (0))), (1, .ref (g.2.2 (q)))]) hM.x hM.b dX4_needRoastOf_11 rfl hl (by decide) rfl (fun ls hl => ?_)
    refine lv_aload_nN hM.x hM.b dX4_needRoastOf_12 rfl (lv_at hl 0 rfl) ?_
    refine lv_ifnonnullN hM.x hM.b dX4_needRoastOf_13 ?_
    exact k_throw (cls := nISE) (text := "the spit has no roast") (is := 225) hlst hM hno hw (by decide +kernel) u_cl_X4_23 u_ini_JS (by decide +kernel) xISE1 xISE2 xISE3 hl.1 dX4_needRoastOf_16 dX4_needRoastOf_19 dX4_needRoastOf_20 dX4_needRoastOf_22 dX4_needRoastOf_25 (Nat.le_of_ble_eq_true rfl) (Nat.le_of_ble_eq_true rfl) (Nat.le_of_ble_eq_true rfl) (Nat.le_of_ble_eq_true rfl) ⟨hF, by decide +kernel⟩ (Nat.le_of_ble_eq_true rfl) (Nat.le_of_ble_eq_true rfl)
  · simp only [ho] at hF
    have hop1 := ho
    refine lv_astore_n (lv' := [(2, .ref (g.2.2 (p1))), (0, .ref (g.2.2 (0))), (1, .ref (g.2.2 (q)))]) hM.x hM.b dX4_needRoastOf_11 rfl hl (by decide) rfl (fun ls hl => ?_)
    refine lv_aload_n hM.x hM.b dX4_needRoastOf_12 rfl (lv_at hl 0 rfl) ?_
    refine lv_ifnonnull (tgt := 26) hM.x hM.b dX4_needRoastOf_13 (by decide) ?_
    refine lv_aload_n hM.x hM.b dX4_needRoastOf_26 rfl (lv_at hl 0 rfl) ?_
    exact vx_ret (k_eret (v := some (p1)) hM hr hw (Nat.le_of_ble_eq_true rfl) (Nat.le_of_ble_eq_true rfl) ⟨_, rfl, hF, rfl⟩ dX4_needRoastOf_27)
theorem sm_X4_needRoastOf {κ : Kp} {q : Nat} {p : Nat} (h : f_X4_needRoastOf κ q = .inr p) : f_X1_roastAt κ 1 (κ q 5) = some p := by
  unfold f_X4_needRoastOf at h
  cases h1 : f_X1_roastAt κ 1 (κ q 5) with
  | none => simp only [h1] at h; cases h
  | some p1 => simp only [h1] at h; cases h; rfl
theorem kdp_X4_needRoastOf {κ : Kp} {q : Nat} {p : Nat} (h : f_X4_needRoastOf κ q = .inr p) : kd p = 2 := kdp_X1_roastAt kd_1 (sm_X4_needRoastOf h)
theorem q_X4_needFeet : hdV yX4_needFeet RX4 1 := ⟨rfl, by decide +kernel, by decide +kernel, by decide +kernel⟩
def f_X4_needFeet (κ : Kp) (a : Int32) : (String × Kp) ⊕ Unit := if (a) < (1) then (.inl (nIAE, κ)) else (if (a) ≤ (3) then (.inr ()) else (.inl (nIAE, κ)))
set_option maxRecDepth 100000 in
set_option maxHeartbeats 4000000 in
theorem m_X4_needFeet (l : Launch) (g : Gt) (κ : Kp) (sz : Nat) (a : Int32) (hlst : l.stackTraces = false) : vx_Met l yX4_needFeet (.code yX4_needFeet cX4_needFeet 1 none :: uW) { frames := 6, cells := 1, slots := 6, locals := 180 } (PRE g κ sz [.int (a)]) (va_Qv (fun κ' => f_X4_needFeet κ a = .inr () ∧ κ' = κ) (Wp g) (fr g sz)) (xC g sz (fun E κx => f_X4_needFeet κ a = .inl (E, κx) ∧ E ∈ [nIAE])) 1 6 (fr g sz) := by
  refine k_xenter (by decide +kernel) (Nat.le_of_ble_eq_true rfl) ?_
  intro p e s m below meth c ls hM hno hr hl hw hsz
  subst hsz
  have hl : lv_has ls 1 [(0, .int (a))] := hl
  have hF := f_X4_needFeet.eq_1 κ a
  refine lv_iload_n hM.x hM.b dX4_needFeet_0 rfl (lv_at hl 0 rfl) ?_
  refine lv_iconst (v := 1) hM.x hM.b dX4_needFeet_1 (by decide) ?_
  refine lv_icmp_lt (tgt := 10) hM.x hM.b dX4_needFeet_2 (by decide) (fun c1 => ?_) (fun c1 => ?_)
  · rw [if_pos c1] at hF
    exact k_throw (cls := nIAE) (text := "feet is not 1 to 3") (is := 227) hlst hM hno hw (by decide +kernel) u_cl_X4_34 u_ini_JA (by decide +kernel) xIAE1 xIAE2 xIAE3 hl.1 dX4_needFeet_10 dX4_needFeet_13 dX4_needFeet_14 dX4_needFeet_16 dX4_needFeet_19 (Nat.le_of_ble_eq_true rfl) (Nat.le_of_ble_eq_true rfl) (Nat.le_of_ble_eq_true rfl) (Nat.le_of_ble_eq_true rfl) ⟨hF, by decide +kernel⟩ (Nat.le_of_ble_eq_true rfl) (Nat.le_of_ble_eq_true rfl)
  · rw [if_neg c1] at hF
    refine lv_iload_n hM.x hM.b dX4_needFeet_5 rfl (lv_at hl 0 rfl) ?_
    refine lv_iconst (v := 3) hM.x hM.b dX4_needFeet_6 (by decide) ?_
    refine lv_icmp_le (tgt := 20) hM.x hM.b dX4_needFeet_7 (by decide) (fun c2 => ?_) (fun c2 => ?_)
    · rw [if_pos c2] at hF
      exact vx_ret (k_vret hM hr hw (Nat.le_of_ble_eq_true rfl) (Nat.le_of_ble_eq_true rfl) ⟨hF, rfl⟩ dX4_needFeet_20)
    · rw [if_neg c2] at hF
      exact k_throw (cls := nIAE) (text := "feet is not 1 to 3") (is := 227) hlst hM hno hw (by decide +kernel) u_cl_X4_34 u_ini_JA (by decide +kernel) xIAE1 xIAE2 xIAE3 hl.1 dX4_needFeet_10 dX4_needFeet_13 dX4_needFeet_14 dX4_needFeet_16 dX4_needFeet_19 (Nat.le_of_ble_eq_true rfl) (Nat.le_of_ble_eq_true rfl) (Nat.le_of_ble_eq_true rfl) (Nat.le_of_ble_eq_true rfl) ⟨hF, by decide +kernel⟩ (Nat.le_of_ble_eq_true rfl) (Nat.le_of_ble_eq_true rfl)
theorem q_X4_needPounds : hdV yX4_needPounds RX4 1 := ⟨rfl, by decide +kernel, by decide +kernel, by decide +kernel⟩
def f_X4_needPounds (κ : Kp) (a : Int32) : (String × Kp) ⊕ Unit := if (a) < (1) then (.inl (nIAE, κ)) else (if (a) ≤ (12) then (.inr ()) else (.inl (nIAE, κ)))
set_option maxRecDepth 100000 in
set_option maxHeartbeats 4000000 in
theorem m_X4_needPounds (l : Launch) (g : Gt) (κ : Kp) (sz : Nat) (a : Int32) (hlst : l.stackTraces = false) : vx_Met l yX4_needPounds (.code yX4_needPounds cX4_needPounds 1 none :: uW) { frames := 6, cells := 1, slots := 6, locals := 180 } (PRE g κ sz [.int (a)]) (va_Qv (fun κ' => f_X4_needPounds κ a = .inr () ∧ κ' = κ) (Wp g) (fr g sz)) (xC g sz (fun E κx => f_X4_needPounds κ a = .inl (E, κx) ∧ E ∈ [nIAE])) 1 6 (fr g sz) := by
  refine k_xenter (by decide +kernel) (Nat.le_of_ble_eq_true rfl) ?_
  intro p e s m below meth c ls hM hno hr hl hw hsz
  subst hsz
  have hl : lv_has ls 1 [(0, .int (a))] := hl
  have hF := f_X4_needPounds.eq_1 κ a
  refine lv_iload_n hM.x hM.b dX4_needPounds_0 rfl (lv_at hl 0 rfl) ?_
  refine lv_iconst (v := 1) hM.x hM.b dX4_needPounds_1 (by decide) ?_
  refine lv_icmp_lt (tgt := 11) hM.x hM.b dX4_needPounds_2 (by decide) (fun c1 => ?_) (fun c1 => ?_)
  · rw [if_pos c1] at hF
    exact k_throw (cls := nIAE) (text := "pounds is not 1 to 12") (is := 229) hlst hM hno hw (by decide +kernel) u_cl_X4_34 u_ini_JA (by decide +kernel) xIAE1 xIAE2 xIAE3 hl.1 dX4_needPounds_11 dX4_needPounds_14 dX4_needPounds_15 dX4_needPounds_17 dX4_needPounds_20 (Nat.le_of_ble_eq_true rfl) (Nat.le_of_ble_eq_true rfl) (Nat.le_of_ble_eq_true rfl) (Nat.le_of_ble_eq_true rfl) ⟨hF, by decide +kernel⟩ (Nat.le_of_ble_eq_true rfl) (Nat.le_of_ble_eq_true rfl)
  · rw [if_neg c1] at hF
    refine lv_iload_n hM.x hM.b dX4_needPounds_5 rfl (lv_at hl 0 rfl) ?_
    refine lv_bipush (v := 12) hM.x hM.b dX4_needPounds_6 (by decide) ?_
    refine lv_icmp_le (tgt := 21) hM.x hM.b dX4_needPounds_8 (by decide) (fun c2 => ?_) (fun c2 => ?_)
    · rw [if_pos c2] at hF
      exact vx_ret (k_vret hM hr hw (Nat.le_of_ble_eq_true rfl) (Nat.le_of_ble_eq_true rfl) ⟨hF, rfl⟩ dX4_needPounds_21)
    · rw [if_neg c2] at hF
      exact k_throw (cls := nIAE) (text := "pounds is not 1 to 12") (is := 229) hlst hM hno hw (by decide +kernel) u_cl_X4_34 u_ini_JA (by decide +kernel) xIAE1 xIAE2 xIAE3 hl.1 dX4_needPounds_11 dX4_needPounds_14 dX4_needPounds_15 dX4_needPounds_17 dX4_needPounds_20 (Nat.le_of_ble_eq_true rfl) (Nat.le_of_ble_eq_true rfl) (Nat.le_of_ble_eq_true rfl) (Nat.le_of_ble_eq_true rfl) ⟨hF, by decide +kernel⟩ (Nat.le_of_ble_eq_true rfl) (Nat.le_of_ble_eq_true rfl)
end
section
theorem q_X4_addFire : hdV yX4_addFire RX4 0 := ⟨rfl, by decide +kernel, by decide +kernel, by decide +kernel⟩
def f_X4_addFire (κ : Kp) : (String × Kp) ⊕ (Int32 × Kp) := match f_X1_placeFire κ (1) with | (r1, κ1) => (if (r1) = ((-1)) then (.inl (nISE, κ1)) else (.inr (r1, κ1)))
set_option maxRecDepth 100000 in
set_option maxHeartbeats 4000000 in
theorem m_X4_addFire (l : Launch) (g : Gt) (κ : Kp) (sz : Nat)  (hlst : l.stackTraces = false) : vx_Met l yX4_addFire (.code yX4_addFire cX4_addFire 2 (some .int) :: uW) { frames := 6, cells := 1, slots := 6, locals := 180 } (PRE g κ sz [.ref (g.2.2 (0))]) (va_Qi (fun r κ' => f_X4_addFire κ  = .inr (r, κ')) (Wp g) (fr g sz)) (xC g sz (fun E κx => f_X4_addFire κ  = .inl (E, κx) ∧ E ∈ [nISE])) 1 6 (fr g sz) := by
  refine k_xenter (by decide +kernel) (Nat.le_of_ble_eq_true rfl) ?_
  intro p e s m below meth c ls hM hno hr hl hw hsz
  subst hsz
  have hl : lv_has ls 2 [(0, .ref (g.2.2 (0)))] := hl
  have hF := f_X4_addFire.eq_1 κ 
  refine lv_aload_n hM.x hM.b dX4_addFire_0 rfl (lv_at hl 0 rfl) ?_
  refine k_get4a hM hw u_fl_X4_10 dX4_addFire_1 ?_
  refine k_ci hw (k_runV [] [] hM hw (m_X1_placeFire l g κ _ (1) (kd_1)) (hw.dm kd_1 (by decide)) (sh1 kd_1) rfl (k_gV u_ml_X4_19 u_im_X1_placeFire u_se_X1_placeFire u_ini_X1 u_co_X1_placeFire) (q_X1_placeFire) rfl rfl rfl ⟨Nat.le_of_ble_eq_true rfl, Nat.le_of_ble_eq_true rfl⟩ hl.1 rfl (Nat.le_of_ble_eq_true rfl) dX4_addFire_4 ⟨Nat.le_of_ble_eq_true rfl, Nat.le_of_ble_eq_true rfl⟩) (fun r1 κ1 H locs hpκ1 hw => ?_)
  simp only [hpκ1] at hF
  refine lv_istore_n (lv' := [(1, .int (r1)), (0, .ref (g.2.2 (0)))]) hM.x hM.b dX4_addFire_7 rfl hl (by decide) rfl (fun ls hl => ?_)
  refine lv_iload_n hM.x hM.b dX4_addFire_8 rfl (lv_at hl 0 rfl) ?_
  refine lv_iconst (v := -1) hM.x hM.b dX4_addFire_9 (by decide) ?_
  refine lv_icmp_ne (tgt := 23) hM.x hM.b dX4_addFire_10 (by decide) (fun c1 => ?_) (fun c1 => ?_)
  · rw [if_neg c1] at hF
    refine lv_iload_n hM.x hM.b dX4_addFire_23 rfl (lv_at hl 0 rfl) ?_
    exact vx_ret (k_iret hM hr hw (Nat.le_of_ble_eq_true rfl) (Nat.le_of_ble_eq_true rfl) hF dX4_addFire_24)
  · rw [if_pos c1] at hF
    exact k_throw (cls := nISE) (text := "there are 3 fires") (is := 25) hlst hM hno hw (by decide +kernel) u_cl_X4_23 u_ini_JS (by decide +kernel) xISE1 xISE2 xISE3 hl.1 dX4_addFire_13 dX4_addFire_16 dX4_addFire_17 dX4_addFire_19 dX4_addFire_22 (Nat.le_of_ble_eq_true rfl) (Nat.le_of_ble_eq_true rfl) (Nat.le_of_ble_eq_true rfl) (Nat.le_of_ble_eq_true rfl) ⟨hF, by decide +kernel⟩ (Nat.le_of_ble_eq_true rfl) (Nat.le_of_ble_eq_true rfl)
theorem q_X4_layLogs : hdV yX4_layLogs RX4 2 := ⟨rfl, by decide +kernel, by decide +kernel, by decide +kernel⟩
def f_X4_layLogs (κ : Kp) (a : Int32) (b : Int32) : (String × Kp) ⊕ (Int32 × Kp) := match f_X4_needFire κ (a) with | .inl (E, κx) => .inl (E, κx) | .inr p1 => (if (b) < (1) then (.inl (nIAE, κ)) else (if (b) ≤ (40) then ((fun κ1 : Kp => .inr (κ1 (p1) 0, κ1)) (up2 κ (p1) 0 ((if (((κ (p1) 0) + (b))) < (40) then (((κ (p1) 0) + (b))) else (40))))) else (.inl (nIAE, κ))))
set_option maxRecDepth 100000 in
set_option maxHeartbeats 4000000 in
theorem m_X4_layLogs (l : Launch) (g : Gt) (κ : Kp) (sz : Nat) (a : Int32) (b : Int32) (hlst : l.stackTraces = false) : vx_Met l yX4_layLogs (.code yX4_layLogs cX4_layLogs 4 (some .int) :: uW) { frames := 7, cells := 2, slots := 12, locals := 210 } (PRE g κ sz [.ref (g.2.2 (0)), .int (a), .int (b)]) (va_Qi (fun r κ' => f_X4_layLogs κ a b = .inr (r, κ')) (Wp g) (fr g sz)) (xC g sz (fun E κx => f_X4_layLogs κ a b = .inl (E, κx) ∧ E ∈ [nIOE, nIAE])) 2 12 (fr g sz) := by
  refine k_xenter (by decide +kernel) (Nat.le_of_ble_eq_true rfl) ?_
  intro p e s m below meth c ls hM hno hr hl hw hsz
  subst hsz
  have hl : lv_has ls 4 [(0, .ref (g.2.2 (0))), (1, .int (a)), (2, .int (b))] := hl
  have hF := f_X4_layLogs.eq_1 κ a b
  refine lv_aload_n hM.x hM.b dX4_layLogs_0 rfl (lv_at hl 0 rfl) ?_
  refine lv_iload_n hM.x hM.b dX4_layLogs_1 rfl (lv_at hl 1 rfl) ?_
  refine k_xe hw (k_runXV [.int (a)] [] hM hw (m_X4_needFire l g κ _ (a) hlst) (hw.dm kd_0 (by decide)) (sh4 kd_0) rfl (k_gV u_ml_X4_30 u_im_X4_needFire u_se_X4_needFire u_ini_X4 u_co_X4_needFire) (q_X4_needFire) rfl rfl rfl ⟨Nat.le_of_ble_eq_true rfl, Nat.le_of_ble_eq_true rfl⟩ hl.1 rfl (Nat.le_of_ble_eq_true rfl) dX4_layLogs_2 ⟨Nat.le_of_ble_eq_true rfl, Nat.le_of_ble_eq_true rfl⟩) (fun E κx ce q9 H locs hx hw h1 h2 h3 => ?_) (fun rz κz H locs hp hw => ?_)
  · simp only [hx.1] at hF
    exact k_xout hM hno hw h1 h2 h3 ⟨hF, (by decide +kernel : ∀ E ∈ [nIOE], E ∈ [nIOE, nIAE]) E hx.2⟩ (Nat.le_of_ble_eq_true rfl) (Nat.le_of_ble_eq_true rfl)
  · obtain ⟨p1, hrz, hp, hkz⟩ := hp
    rw [hkz] at hw
    rw [hrz]
    simp only [hp] at hF
    have hp1 := kdp_X4_needFire hp
    refine W.eq (g2 := F0 m 5 ls [.ref (g.2.2 (p1))]) rfl ?_
    refine lv_astore_n (lv' := [(3, .ref (g.2.2 (p1))), (0, .ref (g.2.2 (0))), (1, .int (a)), (2, .int (b))]) hM.x hM.b dX4_layLogs_5 rfl hl (by decide) rfl (fun ls hl => ?_)
    refine lv_iload_n hM.x hM.b dX4_layLogs_6 rfl (lv_at hl 3 rfl) ?_
    refine lv_iconst (v := 1) hM.x hM.b dX4_layLogs_7 (by decide) ?_
    refine lv_icmp_lt (tgt := 17) hM.x hM.b dX4_layLogs_8 (by decide) (fun c1 => ?_) (fun c1 => ?_)
    · rw [if_pos c1] at hF
      exact k_throw (cls := nIAE) (text := "logs is not 1 to 40") (is := 36) hlst hM hno hw (by decide +kernel) u_cl_X4_34 u_ini_JA (by decide +kernel) xIAE1 xIAE2 xIAE3 hl.1 dX4_layLogs_17 dX4_layLogs_20 dX4_layLogs_21 dX4_layLogs_23 dX4_layLogs_26 (Nat.le_of_ble_eq_true rfl) (Nat.le_of_ble_eq_true rfl) (Nat.le_of_ble_eq_true rfl) (Nat.le_of_ble_eq_true rfl) ⟨hF, by decide +kernel⟩ (Nat.le_of_ble_eq_true rfl) (Nat.le_of_ble_eq_true rfl)
    · rw [if_neg c1] at hF
      refine lv_iload_n hM.x hM.b dX4_layLogs_11 rfl (lv_at hl 3 rfl) ?_
      refine lv_bipush (v := 40) hM.x hM.b dX4_layLogs_12 (by decide) ?_
      refine lv_icmp_le (tgt := 27) hM.x hM.b dX4_layLogs_14 (by decide) (fun c2 => ?_) (fun c2 => ?_)
      · rw [if_pos c2] at hF
        refine lv_aload_n hM.x hM.b dX4_layLogs_27 rfl (lv_at hl 0 rfl) ?_
        refine lv_bipush (v := 40) hM.x hM.b dX4_layLogs_28 (by decide) ?_
        refine lv_aload_n hM.x hM.b dX4_layLogs_30 rfl (lv_at hl 0 rfl) ?_
        refine k_get0 0 hM hw hp1 (by decide) u_fl_X4_39 dX4_layLogs_31 ?_
        refine lv_iload_n hM.x hM.b dX4_layLogs_34 rfl (lv_at hl 3 rfl) ?_
        refine lv_iadd hM.x hM.b dX4_layLogs_35 ?_
        refine va_mmin hM.x hM.b (hM.ml.trans hl.1.symm) hM.ow (hM.ts _ u_ml_X4_45) (hM.ts _ u_st_JM_min) (hM.ts _ u_ini_JM) (hM.ts _ u_co_JM_min) (Nat.le_of_ble_eq_true rfl) (Nat.le_of_ble_eq_true rfl) (Nat.le_of_ble_eq_true rfl) (Nat.le_of_ble_eq_true rfl) dX4_layLogs_36 ?_
        refine k_put0 0 hM hw hp1 (by decide) u_fl_X4_39 dX4_layLogs_39 (fun H locs hw => ?_)
        obtain ⟨κ1, eκ1⟩ : ∃ z : Kp, up2 κ (p1) 0 ((if (((κ (p1) 0) + (b))) < (40) then (((κ (p1) 0) + (b))) else (40))) = z := ⟨_, rfl⟩
        rw [eκ1] at hw
        rw [eκ1] at hF
        try dsimp only at hF
        refine lv_aload_n hM.x hM.b dX4_layLogs_42 rfl (lv_at hl 0 rfl) ?_
        refine k_get0 0 hM hw hp1 (by decide) u_fl_X4_39 dX4_layLogs_43 ?_
        exact vx_ret (k_iret hM hr hw (Nat.le_of_ble_eq_true rfl) (Nat.le_of_ble_eq_true rfl) hF dX4_layLogs_46)
      · rw [if_neg c2] at hF
        exact k_throw (cls := nIAE) (text := "logs is not 1 to 40") (is := 36) hlst hM hno hw (by decide +kernel) u_cl_X4_34 u_ini_JA (by decide +kernel) xIAE1 xIAE2 xIAE3 hl.1 dX4_layLogs_17 dX4_layLogs_20 dX4_layLogs_21 dX4_layLogs_23 dX4_layLogs_26 (Nat.le_of_ble_eq_true rfl) (Nat.le_of_ble_eq_true rfl) (Nat.le_of_ble_eq_true rfl) (Nat.le_of_ble_eq_true rfl) ⟨hF, by decide +kernel⟩ (Nat.le_of_ble_eq_true rfl) (Nat.le_of_ble_eq_true rfl)
theorem q_X4_addSpit : hdV yX4_addSpit RX4 2 := ⟨rfl, by decide +kernel, by decide +kernel, by decide +kernel⟩
def f_X4_addSpit (κ : Kp) (a : Int32) (b : Int32) : (String × Kp) ⊕ (Int32 × Kp) := match f_X4_needFire κ (a) with | .inl (E, κx) => .inl (E, κx) | .inr p1 => (match f_X4_needFeet κ (b) with | .inl (E, κx) => .inl (E, κx) | .inr _ => (match f_X1_placeSpit κ (1) (a) (b) with | (r1, κ1) => (if (r1) = ((-1)) then (.inl (nISE, κ1)) else (.inr (r1, κ1)))))
set_option maxRecDepth 100000 in
set_option maxHeartbeats 4000000 in
theorem m_X4_addSpit (l : Launch) (g : Gt) (κ : Kp) (sz : Nat) (a : Int32) (b : Int32) (hlst : l.stackTraces = false) : vx_Met l yX4_addSpit (.code yX4_addSpit cX4_addSpit 4 (some .int) :: uW) { frames := 7, cells := 3, slots := 18, locals := 210 } (PRE g κ sz [.ref (g.2.2 (0)), .int (a), .int (b)]) (va_Qi (fun r κ' => f_X4_addSpit κ a b = .inr (r, κ')) (Wp g) (fr g sz)) (xC g sz (fun E κx => f_X4_addSpit κ a b = .inl (E, κx) ∧ E ∈ [nIOE, nIAE, nISE])) 3 18 (fr g sz) := by
  refine k_xenter (by decide +kernel) (Nat.le_of_ble_eq_true rfl) ?_
  intro p e s m below meth c ls hM hno hr hl hw hsz
  subst hsz
  have hl : lv_has ls 4 [(0, .ref (g.2.2 (0))), (1, .int (a)), (2, .int (b))] := hl
  have hF := f_X4_addSpit.eq_1 κ a b
  refine lv_aload_n hM.x hM.b dX4_addSpit_0 rfl (lv_at hl 0 rfl) ?_
  refine lv_iload_n hM.x hM.b dX4_addSpit_1 rfl (lv_at hl 1 rfl) ?_
  refine k_xe hw (k_runXV [.int (a)] [] hM hw (m_X4_needFire l g κ _ (a) hlst) (hw.dm kd_0 (by decide)) (sh4 kd_0) rfl (k_gV u_ml_X4_30 u_im_X4_needFire u_se_X4_needFire u_ini_X4 u_co_X4_needFire) (q_X4_needFire) rfl rfl rfl ⟨Nat.le_of_ble_eq_true rfl, Nat.le_of_ble_eq_true rfl⟩ hl.1 rfl (Nat.le_of_ble_eq_true rfl) dX4_addSpit_2 ⟨Nat.le_of_ble_eq_true rfl, Nat.le_of_ble_eq_true rfl⟩) (fun E κx ce q9 H locs hx hw h1 h2 h3 => ?_) (fun rz κz H locs hp hw => ?_)
  · simp only [hx.1] at hF
    exact k_xout hM hno hw h1 h2 h3 ⟨hF, (by decide +kernel : ∀ E ∈ [nIOE], E ∈ [nIOE, nIAE, nISE]) E hx.2⟩ (Nat.le_of_ble_eq_true rfl) (Nat.le_of_ble_eq_true rfl)
  · obtain ⟨p1, hrz, hp, hkz⟩ := hp
    rw [hkz] at hw
    rw [hrz]
    simp only [hp] at hF
    have hp1 := kdp_X4_needFire hp
    refine W.eq (g2 := F0 m 5 ls [.ref (g.2.2 (p1))]) rfl ?_
    refine lv_pop hM.x hM.b dX4_addSpit_5 rfl ?_
    refine lv_iload_n hM.x hM.b dX4_addSpit_6 rfl (lv_at hl 2 rfl) ?_
    refine k_xv hw (k_runXS [.int (b)] [] hM hw (m_X4_needFeet l g κ _ (b) hlst) (k_gS u_ml_X4_51 u_st_X4_needFeet u_ini_X4 u_co_X4_needFeet) (q_X4_needFeet) rfl rfl rfl ⟨Nat.le_of_ble_eq_true rfl, Nat.le_of_ble_eq_true rfl⟩ hl.1 rfl (Nat.le_of_ble_eq_true rfl) dX4_addSpit_7 ⟨Nat.le_of_ble_eq_true rfl, Nat.le_of_ble_eq_true rfl⟩) (fun E κx ce q9 H locs hx hw h1 h2 h3 => ?_) (fun κz H locs hp hw => ?_)
    · simp only [hx.1] at hF
      exact k_xout hM hno hw h1 h2 h3 ⟨hF, (by decide +kernel : ∀ E ∈ [nIAE], E ∈ [nIOE, nIAE, nISE]) E hx.2⟩ (Nat.le_of_ble_eq_true rfl) (Nat.le_of_ble_eq_true rfl)
    · obtain ⟨hp, hkz⟩ := hp
      rw [hkz] at hw
      simp only [hp] at hF
      refine lv_aload_n hM.x hM.b dX4_addSpit_10 rfl (lv_at hl 0 rfl) ?_
      refine k_get4a hM hw u_fl_X4_10 dX4_addSpit_11 ?_
      refine lv_iload_n hM.x hM.b dX4_addSpit_14 rfl (lv_at hl 1 rfl) ?_
      refine lv_iload_n hM.x hM.b dX4_addSpit_15 rfl (lv_at hl 2 rfl) ?_
      refine k_ci hw (k_runV [.int (a), .int (b)] [] hM hw (m_X1_placeSpit l g κ _ (1) (a) (b) (kd_1)) (hw.dm kd_1 (by decide)) (sh1 kd_1) rfl (k_gV u_ml_X4_55 u_im_X1_placeSpit u_se_X1_placeSpit u_ini_X1 u_co_X1_placeSpit) (q_X1_placeSpit) rfl rfl rfl ⟨Nat.le_of_ble_eq_true rfl, Nat.le_of_ble_eq_true rfl⟩ hl.1 rfl (Nat.le_of_ble_eq_true rfl) dX4_addSpit_16 ⟨Nat.le_of_ble_eq_true rfl, Nat.le_of_ble_eq_true rfl⟩) (fun r1 κ1 H locs hpκ1 hw => ?_)
      simp only [hpκ1] at hF
      refine lv_istore_n (lv' := [(3, .int (r1)), (0, .ref (g.2.2 (0))), (1, .int (a)), (2, .int (b))]) hM.x hM.b dX4_addSpit_19 rfl hl (by decide) rfl (fun ls hl => ?_)
      refine lv_iload_n hM.x hM.b dX4_addSpit_20 rfl (lv_at hl 0 rfl) ?_
      refine lv_iconst (v := -1) hM.x hM.b dX4_addSpit_21 (by decide) ?_
      refine lv_icmp_ne (tgt := 35) hM.x hM.b dX4_addSpit_22 (by decide) (fun c1 => ?_) (fun c1 => ?_)
      · rw [if_neg c1] at hF
        refine lv_iload_n hM.x hM.b dX4_addSpit_35 rfl (lv_at hl 0 rfl) ?_
        exact vx_ret (k_iret hM hr hw (Nat.le_of_ble_eq_true rfl) (Nat.le_of_ble_eq_true rfl) hF dX4_addSpit_36)
      · rw [if_pos c1] at hF
        exact k_throw (cls := nISE) (text := "there are 6 spits") (is := 58) hlst hM hno hw (by decide +kernel) u_cl_X4_23 u_ini_JS (by decide +kernel) xISE1 xISE2 xISE3 hl.1 dX4_addSpit_25 dX4_addSpit_28 dX4_addSpit_29 dX4_addSpit_31 dX4_addSpit_34 (Nat.le_of_ble_eq_true rfl) (Nat.le_of_ble_eq_true rfl) (Nat.le_of_ble_eq_true rfl) (Nat.le_of_ble_eq_true rfl) ⟨hF, by decide +kernel⟩ (Nat.le_of_ble_eq_true rfl) (Nat.le_of_ble_eq_true rfl)
theorem q_X4_moveSpit : hdV yX4_moveSpit RX4 2 := ⟨rfl, by decide +kernel, by decide +kernel, by decide +kernel⟩
def f_X4_moveSpit (κ : Kp) (a : Int32) (b : Int32) : (String × Kp) ⊕ (Int32 × Kp) := match f_X4_needSpit κ (a) with | .inl (E, κx) => .inl (E, κx) | .inr p1 => (match f_X4_needFeet κ (b) with | .inl (E, κx) => .inl (E, κx) | .inr _ => ((fun κ1 : Kp => .inr (κ (p1) 1, κ1)) (up2 κ (p1) 1 (b))))
set_option maxRecDepth 100000 in
set_option maxHeartbeats 4000000 in
theorem m_X4_moveSpit (l : Launch) (g : Gt) (κ : Kp) (sz : Nat) (a : Int32) (b : Int32) (hlst : l.stackTraces = false) : vx_Met l yX4_moveSpit (.code yX4_moveSpit cX4_moveSpit 5 (some .int) :: uW) { frames := 7, cells := 2, slots := 12, locals := 210 } (PRE g κ sz [.ref (g.2.2 (0)), .int (a), .int (b)]) (va_Qi (fun r κ' => f_X4_moveSpit κ a b = .inr (r, κ')) (Wp g) (fr g sz)) (xC g sz (fun E κx => f_X4_moveSpit κ a b = .inl (E, κx) ∧ E ∈ [nIOE, nIAE])) 2 12 (fr g sz) := by
  refine k_xenter (by decide +kernel) (Nat.le_of_ble_eq_true rfl) ?_
  intro p e s m below meth c ls hM hno hr hl hw hsz
  subst hsz
  have hl : lv_has ls 5 [(0, .ref (g.2.2 (0))), (1, .int (a)), (2, .int (b))] := hl
  have hF := f_X4_moveSpit.eq_1 κ a b
  refine lv_aload_n hM.x hM.b dX4_moveSpit_0 rfl (lv_at hl 0 rfl) ?_
  refine lv_iload_n hM.x hM.b dX4_moveSpit_1 rfl (lv_at hl 1 rfl) ?_
  refine k_xe hw (k_runXV [.int (a)] [] hM hw (m_X4_needSpit l g κ _ (a) hlst) (hw.dm kd_0 (by decide)) (sh4 kd_0) rfl (k_gV u_ml_X4_60 u_im_X4_needSpit u_se_X4_needSpit u_ini_X4 u_co_X4_needSpit) (q_X4_needSpit) rfl rfl rfl ⟨Nat.le_of_ble_eq_true rfl, Nat.le_of_ble_eq_true rfl⟩ hl.1 rfl (Nat.le_of_ble_eq_true rfl) dX4_moveSpit_2 ⟨Nat.le_of_ble_eq_true rfl, Nat.le_of_ble_eq_true rfl⟩) (fun E κx ce q9 H locs hx hw h1 h2 h3 => ?_) (fun rz κz H locs hp hw => ?_)
  · simp only [hx.1] at hF
    exact k_xout hM hno hw h1 h2 h3 ⟨hF, (by decide +kernel : ∀ E ∈ [nIOE], E ∈ [nIOE, nIAE]) E hx.2⟩ (Nat.le_of_ble_eq_true rfl) (Nat.le_of_ble_eq_true rfl)
  · obtain ⟨p1, hrz, hp, hkz⟩ := hp
    rw [hkz] at hw
    rw [hrz]
    simp only [hp] at hF
    have hp1 := kdp_X4_needSpit hp
    refine W.eq (g2 := F0 m 5 ls [.ref (g.2.2 (p1))]) rfl ?_
    refine lv_astore_n (lv' := [(3, .ref (g.2.2 (p1))), (0, .ref (g.2.2 (0))), (1, .int (a)), (2, .int (b))]) hM.x hM.b dX4_moveSpit_5 rfl hl (by decide) rfl (fun ls hl => ?_)
    refine lv_iload_n hM.x hM.b dX4_moveSpit_6 rfl (lv_at hl 3 rfl) ?_
    refine k_xv hw (k_runXS [.int (b)] [] hM hw (m_X4_needFeet l g κ _ (b) hlst) (k_gS u_ml_X4_51 u_st_X4_needFeet u_ini_X4 u_co_X4_needFeet) (q_X4_needFeet) rfl rfl rfl ⟨Nat.le_of_ble_eq_true rfl, Nat.le_of_ble_eq_true rfl⟩ hl.1 rfl (Nat.le_of_ble_eq_true rfl) dX4_moveSpit_7 ⟨Nat.le_of_ble_eq_true rfl, Nat.le_of_ble_eq_true rfl⟩) (fun E κx ce q9 H locs hx hw h1 h2 h3 => ?_) (fun κz H locs hp hw => ?_)
    · simp only [hx.1] at hF
      exact k_xout hM hno hw h1 h2 h3 ⟨hF, (by decide +kernel : ∀ E ∈ [nIAE], E ∈ [nIOE, nIAE]) E hx.2⟩ (Nat.le_of_ble_eq_true rfl) (Nat.le_of_ble_eq_true rfl)
    · obtain ⟨hp, hkz⟩ := hp
      rw [hkz] at hw
      simp only [hp] at hF
      refine lv_aload_n hM.x hM.b dX4_moveSpit_10 rfl (lv_at hl 0 rfl) ?_
      refine k_get3 1 hM hw hp1 (by decide) u_fl_X4_64 dX4_moveSpit_11 ?_
      refine lv_istore (lv' := [(4, .int (κ (p1) 1)), (3, .ref (g.2.2 (p1))), (0, .ref (g.2.2 (0))), (1, .int (a)), (2, .int (b))]) hM.x hM.b dX4_moveSpit_14 hl (by decide) rfl (fun ls hl => ?_)
      refine lv_aload_n hM.x hM.b dX4_moveSpit_16 rfl (lv_at hl 1 rfl) ?_
      refine lv_iload_n hM.x hM.b dX4_moveSpit_17 rfl (lv_at hl 4 rfl) ?_
      refine k_put3 1 hM hw hp1 (by decide) u_fl_X4_64 dX4_moveSpit_18 (fun H locs hw => ?_)
      obtain ⟨κ1, eκ1⟩ : ∃ z : Kp, up2 κ (p1) 1 (b) = z := ⟨_, rfl⟩
      rw [eκ1] at hw
      rw [eκ1] at hF
      try dsimp only at hF
      refine lv_iload hM.x hM.b dX4_moveSpit_21 (lv_at hl 0 rfl) ?_
      exact vx_ret (k_iret hM hr hw (Nat.le_of_ble_eq_true rfl) (Nat.le_of_ble_eq_true rfl) hF dX4_moveSpit_23)
theorem q_X4_turnEach : hdV yX4_turnEach RX4 2 := ⟨rfl, by decide +kernel, by decide +kernel, by decide +kernel⟩
def f_X4_turnEach (κ : Kp) (a : Int32) (b : Int32) : (String × Kp) ⊕ (Int32 × Kp) := match f_X4_needSpit κ (a) with | .inl (E, κx) => .inl (E, κx) | .inr p1 => (if (b) < 0 then (.inl (nIAE, κ)) else (if (b) ≤ (9) then ((fun κ1 : Kp => .inr (κ (p1) 2, κ1)) (f_X3_countAnew κ (p1) (b))) else (.inl (nIAE, κ))))
set_option maxRecDepth 100000 in
set_option maxHeartbeats 4000000 in
theorem m_X4_turnEach (l : Launch) (g : Gt) (κ : Kp) (sz : Nat) (a : Int32) (b : Int32) (hlst : l.stackTraces = false) : vx_Met l yX4_turnEach (.code yX4_turnEach cX4_turnEach 5 (some .int) :: uW) { frames := 7, cells := 2, slots := 12, locals := 210 } (PRE g κ sz [.ref (g.2.2 (0)), .int (a), .int (b)]) (va_Qi (fun r κ' => f_X4_turnEach κ a b = .inr (r, κ')) (Wp g) (fr g sz)) (xC g sz (fun E κx => f_X4_turnEach κ a b = .inl (E, κx) ∧ E ∈ [nIOE, nIAE])) 2 12 (fr g sz) := by
  refine k_xenter (by decide +kernel) (Nat.le_of_ble_eq_true rfl) ?_
  intro p e s m below meth c ls hM hno hr hl hw hsz
  subst hsz
  have hl : lv_has ls 5 [(0, .ref (g.2.2 (0))), (1, .int (a)), (2, .int (b))] := hl
  have hF := f_X4_turnEach.eq_1 κ a b
  refine lv_aload_n hM.x hM.b dX4_turnEach_0 rfl (lv_at hl 0 rfl) ?_
  refine lv_iload_n hM.x hM.b dX4_turnEach_1 rfl (lv_at hl 1 rfl) ?_
  refine k_xe hw (k_runXV [.int (a)] [] hM hw (m_X4_needSpit l g κ _ (a) hlst) (hw.dm kd_0 (by decide)) (sh4 kd_0) rfl (k_gV u_ml_X4_60 u_im_X4_needSpit u_se_X4_needSpit u_ini_X4 u_co_X4_needSpit) (q_X4_needSpit) rfl rfl rfl ⟨Nat.le_of_ble_eq_true rfl, Nat.le_of_ble_eq_true rfl⟩ hl.1 rfl (Nat.le_of_ble_eq_true rfl) dX4_turnEach_2 ⟨Nat.le_of_ble_eq_true rfl, Nat.le_of_ble_eq_true rfl⟩) (fun E κx ce q9 H locs hx hw h1 h2 h3 => ?_) (fun rz κz H locs hp hw => ?_)
  · simp only [hx.1] at hF
    exact k_xout hM hno hw h1 h2 h3 ⟨hF, (by decide +kernel : ∀ E ∈ [nIOE], E ∈ [nIOE, nIAE]) E hx.2⟩ (Nat.le_of_ble_eq_true rfl) (Nat.le_of_ble_eq_true rfl)
  · obtain ⟨p1, hrz, hp, hkz⟩ := hp
    rw [hkz] at hw
    rw [hrz]
    simp only [hp] at hF
    have hp1 := kdp_X4_needSpit hp
    refine W.eq (g2 := F0 m 5 ls [.ref (g.2.2 (p1))]) rfl ?_
    refine lv_astore_n (lv' := [(3, .ref (g.2.2 (p1))), (0, .ref (g.2.2 (0))), (1, .int (a)), (2, .int (b))]) hM.x hM.b dX4_turnEach_5 rfl hl (by decide) rfl (fun ls hl => ?_)
    refine lv_iload_n hM.x hM.b dX4_turnEach_6 rfl (lv_at hl 3 rfl) ?_
    refine lv_if_lt (tgt := 16) hM.x hM.b dX4_turnEach_7 (by decide) (fun c1 => ?_) (fun c1 => ?_)
    · rw [if_pos c1] at hF
      exact k_throw (cls := nIAE) (text := "minutes is not 0 to 9") (is := 69) hlst hM hno hw (by decide +kernel) u_cl_X4_34 u_ini_JA (by decide +kernel) xIAE1 xIAE2 xIAE3 hl.1 dX4_turnEach_16 dX4_turnEach_19 dX4_turnEach_20 dX4_turnEach_22 dX4_turnEach_25 (Nat.le_of_ble_eq_true rfl) (Nat.le_of_ble_eq_true rfl) (Nat.le_of_ble_eq_true rfl) (Nat.le_of_ble_eq_true rfl) ⟨hF, by decide +kernel⟩ (Nat.le_of_ble_eq_true rfl) (Nat.le_of_ble_eq_true rfl)
    · rw [if_neg c1] at hF
      refine lv_iload_n hM.x hM.b dX4_turnEach_10 rfl (lv_at hl 3 rfl) ?_
      refine lv_bipush (v := 9) hM.x hM.b dX4_turnEach_11 (by decide) ?_
      refine lv_icmp_le (tgt := 26) hM.x hM.b dX4_turnEach_13 (by decide) (fun c2 => ?_) (fun c2 => ?_)
      · rw [if_pos c2] at hF
        refine lv_aload_n hM.x hM.b dX4_turnEach_26 rfl (lv_at hl 0 rfl) ?_
        refine k_get3 2 hM hw hp1 (by decide) u_fl_X4_71 dX4_turnEach_27 ?_
        refine lv_istore (lv' := [(4, .int (κ (p1) 2)), (3, .ref (g.2.2 (p1))), (0, .ref (g.2.2 (0))), (1, .int (a)), (2, .int (b))]) hM.x hM.b dX4_turnEach_30 hl (by decide) rfl (fun ls hl => ?_)
        refine lv_aload_n hM.x hM.b dX4_turnEach_32 rfl (lv_at hl 1 rfl) ?_
        refine lv_iload_n hM.x hM.b dX4_turnEach_33 rfl (lv_at hl 4 rfl) ?_
        refine k_cvp hw (k_runV [.int (b)] [] hM hw (m_X3_countAnew l g κ _ (p1) (b) (hp1)) (hw.dm hp1 (by decide)) (sh3 hp1) rfl (k_gV u_ml_X4_74 u_im_X3_countAnew u_se_X3_countAnew u_ini_X3 u_co_X3_countAnew) (q_X3_countAnew) rfl rfl rfl ⟨Nat.le_of_ble_eq_true rfl, Nat.le_of_ble_eq_true rfl⟩ hl.1 rfl (Nat.le_of_ble_eq_true rfl) dX4_turnEach_34 ⟨Nat.le_of_ble_eq_true rfl, Nat.le_of_ble_eq_true rfl⟩) (fun κ1 H locs eκ1 hw => ?_)
        rw [eκ1] at hF
        try dsimp only at hF
        refine lv_iload hM.x hM.b dX4_turnEach_37 (lv_at hl 0 rfl) ?_
        exact vx_ret (k_iret hM hr hw (Nat.le_of_ble_eq_true rfl) (Nat.le_of_ble_eq_true rfl) hF dX4_turnEach_39)
      · rw [if_neg c2] at hF
        exact k_throw (cls := nIAE) (text := "minutes is not 0 to 9") (is := 69) hlst hM hno hw (by decide +kernel) u_cl_X4_34 u_ini_JA (by decide +kernel) xIAE1 xIAE2 xIAE3 hl.1 dX4_turnEach_16 dX4_turnEach_19 dX4_turnEach_20 dX4_turnEach_22 dX4_turnEach_25 (Nat.le_of_ble_eq_true rfl) (Nat.le_of_ble_eq_true rfl) (Nat.le_of_ble_eq_true rfl) (Nat.le_of_ble_eq_true rfl) ⟨hF, by decide +kernel⟩ (Nat.le_of_ble_eq_true rfl) (Nat.le_of_ble_eq_true rfl)
theorem q_X4_setFeast : hdV yX4_setFeast RX4 1 := ⟨rfl, by decide +kernel, by decide +kernel, by decide +kernel⟩
def f_X4_setFeast (κ : Kp) (a : Int32) : (String × Kp) ⊕ (Int32 × Kp) := if (a) < 0 then (.inl (nIAE, κ)) else (if (a) ≤ (5000) then ((fun κ1 : Kp => .inr (κ (1) 7, κ1)) (up2 κ (1) 7 (a))) else (.inl (nIAE, κ)))
set_option maxRecDepth 100000 in
set_option maxHeartbeats 4000000 in
theorem m_X4_setFeast (l : Launch) (g : Gt) (κ : Kp) (sz : Nat) (a : Int32) (hlst : l.stackTraces = false) : vx_Met l yX4_setFeast (.code yX4_setFeast cX4_setFeast 3 (some .int) :: uW) { frames := 6, cells := 1, slots := 6, locals := 180 } (PRE g κ sz [.ref (g.2.2 (0)), .int (a)]) (va_Qi (fun r κ' => f_X4_setFeast κ a = .inr (r, κ')) (Wp g) (fr g sz)) (xC g sz (fun E κx => f_X4_setFeast κ a = .inl (E, κx) ∧ E ∈ [nIAE])) 1 6 (fr g sz) := by
  refine k_xenter (by decide +kernel) (Nat.le_of_ble_eq_true rfl) ?_
  intro p e s m below meth c ls hM hno hr hl hw hsz
  subst hsz
  have hl : lv_has ls 3 [(0, .ref (g.2.2 (0))), (1, .int (a))] := hl
  have hF := f_X4_setFeast.eq_1 κ a
  refine lv_iload_n hM.x hM.b dX4_setFeast_0 rfl (lv_at hl 1 rfl) ?_
  refine lv_if_lt (tgt := 11) hM.x hM.b dX4_setFeast_1 (by decide) (fun c1 => ?_) (fun c1 => ?_)
  · rw [if_pos c1] at hF
    exact k_throw (cls := nIAE) (text := "minute is not 0 to 5000") (is := 77) hlst hM hno hw (by decide +kernel) u_cl_X4_34 u_ini_JA (by decide +kernel) xIAE1 xIAE2 xIAE3 hl.1 dX4_setFeast_11 dX4_setFeast_14 dX4_setFeast_15 dX4_setFeast_17 dX4_setFeast_20 (Nat.le_of_ble_eq_true rfl) (Nat.le_of_ble_eq_true rfl) (Nat.le_of_ble_eq_true rfl) (Nat.le_of_ble_eq_true rfl) ⟨hF, by decide +kernel⟩ (Nat.le_of_ble_eq_true rfl) (Nat.le_of_ble_eq_true rfl)
  · rw [if_neg c1] at hF
    refine lv_iload_n hM.x hM.b dX4_setFeast_4 rfl (lv_at hl 1 rfl) ?_
    refine lv_sipush (v := 5000) hM.x hM.b dX4_setFeast_5 (by decide) ?_
    refine lv_icmp_le (tgt := 21) hM.x hM.b dX4_setFeast_8 (by decide) (fun c2 => ?_) (fun c2 => ?_)
    · rw [if_pos c2] at hF
      refine lv_aload_n hM.x hM.b dX4_setFeast_21 rfl (lv_at hl 0 rfl) ?_
      refine k_get4a hM hw u_fl_X4_10 dX4_setFeast_22 ?_
      refine k_get1 7 hM hw kd_1 (by decide) u_fl_X4_79 dX4_setFeast_25 ?_
      refine lv_istore_n (lv' := [(2, .int (κ (1) 7)), (0, .ref (g.2.2 (0))), (1, .int (a))]) hM.x hM.b dX4_setFeast_28 rfl hl (by decide) rfl (fun ls hl => ?_)
      refine lv_aload_n hM.x hM.b dX4_setFeast_29 rfl (lv_at hl 1 rfl) ?_
      refine k_get4a hM hw u_fl_X4_10 dX4_setFeast_30 ?_
      refine lv_iload_n hM.x hM.b dX4_setFeast_33 rfl (lv_at hl 2 rfl) ?_
      refine k_put1 7 hM hw kd_1 (by decide) u_fl_X4_79 dX4_setFeast_34 (fun H locs hw => ?_)
      obtain ⟨κ1, eκ1⟩ : ∃ z : Kp, up2 κ (1) 7 (a) = z := ⟨_, rfl⟩
      rw [eκ1] at hw
      rw [eκ1] at hF
      try dsimp only at hF
      refine lv_iload_n hM.x hM.b dX4_setFeast_37 rfl (lv_at hl 0 rfl) ?_
      exact vx_ret (k_iret hM hr hw (Nat.le_of_ble_eq_true rfl) (Nat.le_of_ble_eq_true rfl) hF dX4_setFeast_38)
    · rw [if_neg c2] at hF
      exact k_throw (cls := nIAE) (text := "minute is not 0 to 5000") (is := 77) hlst hM hno hw (by decide +kernel) u_cl_X4_34 u_ini_JA (by decide +kernel) xIAE1 xIAE2 xIAE3 hl.1 dX4_setFeast_11 dX4_setFeast_14 dX4_setFeast_15 dX4_setFeast_17 dX4_setFeast_20 (Nat.le_of_ble_eq_true rfl) (Nat.le_of_ble_eq_true rfl) (Nat.le_of_ble_eq_true rfl) (Nat.le_of_ble_eq_true rfl) ⟨hF, by decide +kernel⟩ (Nat.le_of_ble_eq_true rfl) (Nat.le_of_ble_eq_true rfl)
theorem q_X4_hang : hdV yX4_hang RX4 2 := ⟨rfl, by decide +kernel, by decide +kernel, by decide +kernel⟩
def f_X4_hang (κ : Kp) (a : Int32) (b : Int32) : (String × Kp) ⊕ (Int32 × Kp) := match f_X4_needSpit κ (a) with | .inl (E, κx) => .inl (E, κx) | .inr p1 => (match f_X4_needPounds κ (b) with | .inl (E, κx) => .inl (E, κx) | .inr _ => (match f_X1_placeRoast κ (1) (a) (b) with | (r1, κ1) => (if (r1) = ((-1)) then (.inl (nISE, κ1)) else (.inr (r1, κ1)))))
set_option maxRecDepth 100000 in
set_option maxHeartbeats 4000000 in
theorem m_X4_hang (l : Launch) (g : Gt) (κ : Kp) (sz : Nat) (a : Int32) (b : Int32) (hlst : l.stackTraces = false) : vx_Met l yX4_hang (.code yX4_hang cX4_hang 4 (some .int) :: uW) { frames := 7, cells := 3, slots := 18, locals := 210 } (PRE g κ sz [.ref (g.2.2 (0)), .int (a), .int (b)]) (va_Qi (fun r κ' => f_X4_hang κ a b = .inr (r, κ')) (Wp g) (fr g sz)) (xC g sz (fun E κx => f_X4_hang κ a b = .inl (E, κx) ∧ E ∈ [nIOE, nIAE, nISE])) 3 18 (fr g sz) := by
  refine k_xenter (by decide +kernel) (Nat.le_of_ble_eq_true rfl) ?_
  intro p e s m below meth c ls hM hno hr hl hw hsz
  subst hsz
  have hl : lv_has ls 4 [(0, .ref (g.2.2 (0))), (1, .int (a)), (2, .int (b))] := hl
  have hF := f_X4_hang.eq_1 κ a b
  refine lv_aload_n hM.x hM.b dX4_hang_0 rfl (lv_at hl 0 rfl) ?_
  refine lv_iload_n hM.x hM.b dX4_hang_1 rfl (lv_at hl 1 rfl) ?_
  refine k_xe hw (k_runXV [.int (a)] [] hM hw (m_X4_needSpit l g κ _ (a) hlst) (hw.dm kd_0 (by decide)) (sh4 kd_0) rfl (k_gV u_ml_X4_60 u_im_X4_needSpit u_se_X4_needSpit u_ini_X4 u_co_X4_needSpit) (q_X4_needSpit) rfl rfl rfl ⟨Nat.le_of_ble_eq_true rfl, Nat.le_of_ble_eq_true rfl⟩ hl.1 rfl (Nat.le_of_ble_eq_true rfl) dX4_hang_2 ⟨Nat.le_of_ble_eq_true rfl, Nat.le_of_ble_eq_true rfl⟩) (fun E κx ce q9 H locs hx hw h1 h2 h3 => ?_) (fun rz κz H locs hp hw => ?_)
  · simp only [hx.1] at hF
    exact k_xout hM hno hw h1 h2 h3 ⟨hF, (by decide +kernel : ∀ E ∈ [nIOE], E ∈ [nIOE, nIAE, nISE]) E hx.2⟩ (Nat.le_of_ble_eq_true rfl) (Nat.le_of_ble_eq_true rfl)
  · obtain ⟨p1, hrz, hp, hkz⟩ := hp
    rw [hkz] at hw
    rw [hrz]
    simp only [hp] at hF
    have hp1 := kdp_X4_needSpit hp
    refine W.eq (g2 := F0 m 5 ls [.ref (g.2.2 (p1))]) rfl ?_
    refine lv_pop hM.x hM.b dX4_hang_5 rfl ?_
    refine lv_iload_n hM.x hM.b dX4_hang_6 rfl (lv_at hl 2 rfl) ?_
    refine k_xv hw (k_runXS [.int (b)] [] hM hw (m_X4_needPounds l g κ _ (b) hlst) (k_gS u_ml_X4_82 u_st_X4_needPounds u_ini_X4 u_co_X4_needPounds) (q_X4_needPounds) rfl rfl rfl ⟨Nat.le_of_ble_eq_true rfl, Nat.le_of_ble_eq_true rfl⟩ hl.1 rfl (Nat.le_of_ble_eq_true rfl) dX4_hang_7 ⟨Nat.le_of_ble_eq_true rfl, Nat.le_of_ble_eq_true rfl⟩) (fun E κx ce q9 H locs hx hw h1 h2 h3 => ?_) (fun κz H locs hp hw => ?_)
    · simp only [hx.1] at hF
      exact k_xout hM hno hw h1 h2 h3 ⟨hF, (by decide +kernel : ∀ E ∈ [nIAE], E ∈ [nIOE, nIAE, nISE]) E hx.2⟩ (Nat.le_of_ble_eq_true rfl) (Nat.le_of_ble_eq_true rfl)
    · obtain ⟨hp, hkz⟩ := hp
      rw [hkz] at hw
      simp only [hp] at hF
      refine lv_aload_n hM.x hM.b dX4_hang_10 rfl (lv_at hl 0 rfl) ?_
      refine k_get4a hM hw u_fl_X4_10 dX4_hang_11 ?_
      refine lv_iload_n hM.x hM.b dX4_hang_14 rfl (lv_at hl 1 rfl) ?_
      refine lv_iload_n hM.x hM.b dX4_hang_15 rfl (lv_at hl 2 rfl) ?_
      refine k_ci hw (k_runV [.int (a), .int (b)] [] hM hw (m_X1_placeRoast l g κ _ (1) (a) (b) (kd_1)) (hw.dm kd_1 (by decide)) (sh1 kd_1) rfl (k_gV u_ml_X4_85 u_im_X1_placeRoast u_se_X1_placeRoast u_ini_X1 u_co_X1_placeRoast) (q_X1_placeRoast) rfl rfl rfl ⟨Nat.le_of_ble_eq_true rfl, Nat.le_of_ble_eq_true rfl⟩ hl.1 rfl (Nat.le_of_ble_eq_true rfl) dX4_hang_16 ⟨Nat.le_of_ble_eq_true rfl, Nat.le_of_ble_eq_true rfl⟩) (fun r1 κ1 H locs hpκ1 hw => ?_)
      simp only [hpκ1] at hF
      refine lv_istore_n (lv' := [(3, .int (r1)), (0, .ref (g.2.2 (0))), (1, .int (a)), (2, .int (b))]) hM.x hM.b dX4_hang_19 rfl hl (by decide) rfl (fun ls hl => ?_)
      refine lv_iload_n hM.x hM.b dX4_hang_20 rfl (lv_at hl 0 rfl) ?_
      refine lv_iconst (v := -1) hM.x hM.b dX4_hang_21 (by decide) ?_
      refine lv_icmp_ne (tgt := 35) hM.x hM.b dX4_hang_22 (by decide) (fun c1 => ?_) (fun c1 => ?_)
      · rw [if_neg c1] at hF
        refine lv_iload_n hM.x hM.b dX4_hang_35 rfl (lv_at hl 0 rfl) ?_
        exact vx_ret (k_iret hM hr hw (Nat.le_of_ble_eq_true rfl) (Nat.le_of_ble_eq_true rfl) hF dX4_hang_36)
      · rw [if_pos c1] at hF
        exact k_throw (cls := nISE) (text := "the spit has a roast, or 16 roasts were hung already") (is := 88) hlst hM hno hw (by decide +kernel) u_cl_X4_23 u_ini_JS (by decide +kernel) xISE1 xISE2 xISE3 hl.1 dX4_hang_25 dX4_hang_28 dX4_hang_29 dX4_hang_31 dX4_hang_34 (Nat.le_of_ble_eq_true rfl) (Nat.le_of_ble_eq_true rfl) (Nat.le_of_ble_eq_true rfl) (Nat.le_of_ble_eq_true rfl) ⟨hF, by decide +kernel⟩ (Nat.le_of_ble_eq_true rfl) (Nat.le_of_ble_eq_true rfl)
theorem q_X4_turnNow : hdV yX4_turnNow RX4 1 := ⟨rfl, by decide +kernel, by decide +kernel, by decide +kernel⟩
def f_X4_turnNow (κ : Kp) (a : Int32) : (String × Kp) ⊕ (Int32 × Kp) := match f_X4_needSpit κ (a) with | .inl (E, κx) => .inl (E, κx) | .inr p1 => (match f_X4_needRoastOf κ (p1) with | .inl (E, κx) => .inl (E, κx) | .inr p2 => ((fun κ1 : Kp => .inr (κ1 (p2) 3, κ1)) (f_X2_turn κ (p2))))
set_option maxRecDepth 100000 in
set_option maxHeartbeats 4000000 in
theorem m_X4_turnNow (l : Launch) (g : Gt) (κ : Kp) (sz : Nat) (a : Int32) (hlst : l.stackTraces = false) : vx_Met l yX4_turnNow (.code yX4_turnNow cX4_turnNow 3 (some .int) :: uW) { frames := 7, cells := 2, slots := 12, locals := 210 } (PRE g κ sz [.ref (g.2.2 (0)), .int (a)]) (va_Qi (fun r κ' => f_X4_turnNow κ a = .inr (r, κ')) (Wp g) (fr g sz)) (xC g sz (fun E κx => f_X4_turnNow κ a = .inl (E, κx) ∧ E ∈ [nIOE, nISE])) 2 12 (fr g sz) := by
  refine k_xenter (by decide +kernel) (Nat.le_of_ble_eq_true rfl) ?_
  intro p e s m below meth c ls hM hno hr hl hw hsz
  subst hsz
  have hl : lv_has ls 3 [(0, .ref (g.2.2 (0))), (1, .int (a))] := hl
  have hF := f_X4_turnNow.eq_1 κ a
  refine lv_aload_n hM.x hM.b dX4_turnNow_0 rfl (lv_at hl 0 rfl) ?_
  refine lv_aload_n hM.x hM.b dX4_turnNow_1 rfl (lv_at hl 0 rfl) ?_
  refine lv_iload_n hM.x hM.b dX4_turnNow_2 rfl (lv_at hl 1 rfl) ?_
  refine k_xe hw (k_runXV [.int (a)] [.ref (g.2.2 (0))] hM hw (m_X4_needSpit l g κ _ (a) hlst) (hw.dm kd_0 (by decide)) (sh4 kd_0) rfl (k_gV u_ml_X4_60 u_im_X4_needSpit u_se_X4_needSpit u_ini_X4 u_co_X4_needSpit) (q_X4_needSpit) rfl rfl rfl ⟨Nat.le_of_ble_eq_true rfl, Nat.le_of_ble_eq_true rfl⟩ hl.1 rfl (Nat.le_of_ble_eq_true rfl) dX4_turnNow_3 ⟨Nat.le_of_ble_eq_true rfl, Nat.le_of_ble_eq_true rfl⟩) (fun E κx ce q9 H locs hx hw h1 h2 h3 => ?_) (fun rz κz H locs hp hw => ?_)
  · simp only [hx.1] at hF
    exact k_xout hM hno hw h1 h2 h3 ⟨hF, (by decide +kernel : ∀ E ∈ [nIOE], E ∈ [nIOE, nISE]) E hx.2⟩ (Nat.le_of_ble_eq_true rfl) (Nat.le_of_ble_eq_true rfl)
  · obtain ⟨p1, hrz, hp, hkz⟩ := hp
    rw [hkz] at hw
    rw [hrz]
    simp only [hp] at hF
    have hp1 := kdp_X4_needSpit hp
    refine W.eq (g2 := F0 m 6 ls [.ref (g.2.2 (p1)), .ref (g.2.2 (0))]) rfl ?_
    refine k_xe hw (k_runXV [.ref (g.2.2 (p1))] [] hM hw (m_X4_needRoastOf l g κ _ (p1) (hp1) hlst) (hw.dm kd_0 (by decide)) (sh4 kd_0) rfl (k_gV u_ml_X4_90 u_im_X4_needRoastOf u_se_X4_needRoastOf u_ini_X4 u_co_X4_needRoastOf) (q_X4_needRoastOf) rfl rfl rfl ⟨Nat.le_of_ble_eq_true rfl, Nat.le_of_ble_eq_true rfl⟩ hl.1 rfl (Nat.le_of_ble_eq_true rfl) dX4_turnNow_6 ⟨Nat.le_of_ble_eq_true rfl, Nat.le_of_ble_eq_true rfl⟩) (fun E κx ce q9 H locs hx hw h1 h2 h3 => ?_) (fun rz κz H locs hp hw => ?_)
    · simp only [hx.1] at hF
      exact k_xout hM hno hw h1 h2 h3 ⟨hF, (by decide +kernel : ∀ E ∈ [nISE], E ∈ [nIOE, nISE]) E hx.2⟩ (Nat.le_of_ble_eq_true rfl) (Nat.le_of_ble_eq_true rfl)
    · obtain ⟨p2, hrz, hp, hkz⟩ := hp
      rw [hkz] at hw
      rw [hrz]
      simp only [hp] at hF
      have hp2 := kdp_X4_needRoastOf hp
      refine W.eq (g2 := F0 m 9 ls [.ref (g.2.2 (p2))]) rfl ?_
      refine lv_astore_n (lv' := [(2, .ref (g.2.2 (p2))), (0, .ref (g.2.2 (0))), (1, .int (a))]) hM.x hM.b dX4_turnNow_9 rfl hl (by decide) rfl (fun ls hl => ?_)
      refine lv_aload_n hM.x hM.b dX4_turnNow_10 rfl (lv_at hl 0 rfl) ?_
      refine k_cvp hw (k_runV [] [] hM hw (m_X2_turn l g κ _ (p2) (hp2)) (hw.dm hp2 (by decide)) (sh2 hp2) rfl (k_gV u_ml_X4_94 u_im_X2_turn u_se_X2_turn u_ini_X2 u_co_X2_turn) (q_X2_turn) rfl rfl rfl ⟨Nat.le_of_ble_eq_true rfl, Nat.le_of_ble_eq_true rfl⟩ hl.1 rfl (Nat.le_of_ble_eq_true rfl) dX4_turnNow_11 ⟨Nat.le_of_ble_eq_true rfl, Nat.le_of_ble_eq_true rfl⟩) (fun κ1 H locs eκ1 hw => ?_)
      rw [eκ1] at hF
      try dsimp only at hF
      refine lv_aload_n hM.x hM.b dX4_turnNow_14 rfl (lv_at hl 0 rfl) ?_
      refine k_get2 3 hM hw hp2 (by decide) u_fl_X4_99 dX4_turnNow_15 ?_
      exact vx_ret (k_iret hM hr hw (Nat.le_of_ble_eq_true rfl) (Nat.le_of_ble_eq_true rfl) hF dX4_turnNow_18)
theorem q_X4_baste : hdV yX4_baste RX4 1 := ⟨rfl, by decide +kernel, by decide +kernel, by decide +kernel⟩
def f_X4_baste (κ : Kp) (a : Int32) : (String × Kp) ⊕ (Int32 × Kp) := match f_X4_needSpit κ (a) with | .inl (E, κx) => .inl (E, κx) | .inr p1 => (match f_X4_needRoastOf κ (p1) with | .inl (E, κx) => .inl (E, κx) | .inr p2 => (if (2) ≤ (κ (p1) 4) then ((fun κ1 : Kp => (fun κ2 : Kp => .inr (κ2 (p1) 4, κ2)) (up2 κ1 (p2) 5 (3))) (up2 κ (p1) 4 (((κ (p1) 4) - (2))))) else (.inl (nISE, κ))))
set_option maxRecDepth 100000 in
set_option maxHeartbeats 4000000 in
theorem m_X4_baste (l : Launch) (g : Gt) (κ : Kp) (sz : Nat) (a : Int32) (hlst : l.stackTraces = false) : vx_Met l yX4_baste (.code yX4_baste cX4_baste 4 (some .int) :: uW) { frames := 7, cells := 3, slots := 18, locals := 210 } (PRE g κ sz [.ref (g.2.2 (0)), .int (a)]) (va_Qi (fun r κ' => f_X4_baste κ a = .inr (r, κ')) (Wp g) (fr g sz)) (xC g sz (fun E κx => f_X4_baste κ a = .inl (E, κx) ∧ E ∈ [nIOE, nISE])) 3 18 (fr g sz) := by
  refine k_xenter (by decide +kernel) (Nat.le_of_ble_eq_true rfl) ?_
  intro p e s m below meth c ls hM hno hr hl hw hsz
  subst hsz
  have hl : lv_has ls 4 [(0, .ref (g.2.2 (0))), (1, .int (a))] := hl
  have hF := f_X4_baste.eq_1 κ a
  refine lv_aload_n hM.x hM.b dX4_baste_0 rfl (lv_at hl 0 rfl) ?_
  refine lv_iload_n hM.x hM.b dX4_baste_1 rfl (lv_at hl 1 rfl) ?_
  refine k_xe hw (k_runXV [.int (a)] [] hM hw (m_X4_needSpit l g κ _ (a) hlst) (hw.dm kd_0 (by decide)) (sh4 kd_0) rfl (k_gV u_ml_X4_60 u_im_X4_needSpit u_se_X4_needSpit u_ini_X4 u_co_X4_needSpit) (q_X4_needSpit) rfl rfl rfl ⟨Nat.le_of_ble_eq_true rfl, Nat.le_of_ble_eq_true rfl⟩ hl.1 rfl (Nat.le_of_ble_eq_true rfl) dX4_baste_2 ⟨Nat.le_of_ble_eq_true rfl, Nat.le_of_ble_eq_true rfl⟩) (fun E κx ce q9 H locs hx hw h1 h2 h3 => ?_) (fun rz κz H locs hp hw => ?_)
  · simp only [hx.1] at hF
    exact k_xout hM hno hw h1 h2 h3 ⟨hF, (by decide +kernel : ∀ E ∈ [nIOE], E ∈ [nIOE, nISE]) E hx.2⟩ (Nat.le_of_ble_eq_true rfl) (Nat.le_of_ble_eq_true rfl)
  · obtain ⟨p1, hrz, hp, hkz⟩ := hp
    rw [hkz] at hw
    rw [hrz]
    simp only [hp] at hF
    have hp1 := kdp_X4_needSpit hp
    refine W.eq (g2 := F0 m 5 ls [.ref (g.2.2 (p1))]) rfl ?_
    refine lv_astore_n (lv' := [(2, .ref (g.2.2 (p1))), (0, .ref (g.2.2 (0))), (1, .int (a))]) hM.x hM.b dX4_baste_5 rfl hl (by decide) rfl (fun ls hl => ?_)
    refine lv_aload_n hM.x hM.b dX4_baste_6 rfl (lv_at hl 1 rfl) ?_
    refine lv_aload_n hM.x hM.b dX4_baste_7 rfl (lv_at hl 0 rfl) ?_
    refine k_xe hw (k_runXV [.ref (g.2.2 (p1))] [] hM hw (m_X4_needRoastOf l g κ _ (p1) (hp1) hlst) (hw.dm kd_0 (by decide)) (sh4 kd_0) rfl (k_gV u_ml_X4_90 u_im_X4_needRoastOf u_se_X4_needRoastOf u_ini_X4 u_co_X4_needRoastOf) (q_X4_needRoastOf) rfl rfl rfl ⟨Nat.le_of_ble_eq_true rfl, Nat.le_of_ble_eq_true rfl⟩ hl.1 rfl (Nat.le_of_ble_eq_true rfl) dX4_baste_8 ⟨Nat.le_of_ble_eq_true rfl, Nat.le_of_ble_eq_true rfl⟩) (fun E κx ce q9 H locs hx hw h1 h2 h3 => ?_) (fun rz κz H locs hp hw => ?_)
    · simp only [hx.1] at hF
      exact k_xout hM hno hw h1 h2 h3 ⟨hF, (by decide +kernel : ∀ E ∈ [nISE], E ∈ [nIOE, nISE]) E hx.2⟩ (Nat.le_of_ble_eq_true rfl) (Nat.le_of_ble_eq_true rfl)
    · obtain ⟨p2, hrz, hp, hkz⟩ := hp
      rw [hkz] at hw
      rw [hrz]
      simp only [hp] at hF
      have hp2 := kdp_X4_needRoastOf hp
      refine W.eq (g2 := F0 m 11 ls [.ref (g.2.2 (p2))]) rfl ?_
      refine lv_astore_n (lv' := [(3, .ref (g.2.2 (p2))), (2, .ref (g.2.2 (p1))), (0, .ref (g.2.2 (0))), (1, .int (a))]) hM.x hM.b dX4_baste_11 rfl hl (by decide) rfl (fun ls hl => ?_)
      refine lv_aload_n hM.x hM.b dX4_baste_12 rfl (lv_at hl 1 rfl) ?_
      refine k_get3 4 hM hw hp1 (by decide) u_fl_X4_102 dX4_baste_13 ?_
      refine lv_iconst (v := 2) hM.x hM.b dX4_baste_16 (by decide) ?_
      refine lv_icmp_ge (tgt := 30) hM.x hM.b dX4_baste_17 (by decide) (fun c1 => ?_) (fun c1 => ?_)
      · rw [if_pos c1] at hF
        refine lv_aload_n hM.x hM.b dX4_baste_30 rfl (lv_at hl 1 rfl) ?_
        refine lv_dup hM.x hM.b dX4_baste_31 rfl ?_
        refine k_get3 4 hM hw hp1 (by decide) u_fl_X4_102 dX4_baste_32 ?_
        refine lv_iconst (v := 2) hM.x hM.b dX4_baste_35 (by decide) ?_
        refine lv_isub hM.x hM.b dX4_baste_36 ?_
        refine k_put3 4 hM hw hp1 (by decide) u_fl_X4_102 dX4_baste_37 (fun H locs hw => ?_)
        obtain ⟨κ1, eκ1⟩ : ∃ z : Kp, up2 κ (p1) 4 (((κ (p1) 4) - (2))) = z := ⟨_, rfl⟩
        rw [eκ1] at hw
        rw [eκ1] at hF
        try dsimp only at hF
        refine lv_aload_n hM.x hM.b dX4_baste_40 rfl (lv_at hl 0 rfl) ?_
        refine lv_iconst (v := 3) hM.x hM.b dX4_baste_41 (by decide) ?_
        refine k_put2 5 hM hw hp2 (by decide) u_fl_X4_107 dX4_baste_42 (fun H locs hw => ?_)
        obtain ⟨κ2, eκ2⟩ : ∃ z : Kp, up2 κ1 (p2) 5 (3) = z := ⟨_, rfl⟩
        rw [eκ2] at hw
        rw [eκ2] at hF
        try dsimp only at hF
        refine lv_aload_n hM.x hM.b dX4_baste_45 rfl (lv_at hl 1 rfl) ?_
        refine k_get3 4 hM hw hp1 (by decide) u_fl_X4_102 dX4_baste_46 ?_
        exact vx_ret (k_iret hM hr hw (Nat.le_of_ble_eq_true rfl) (Nat.le_of_ble_eq_true rfl) hF dX4_baste_49)
      · rw [if_neg c1] at hF
        exact k_throw (cls := nISE) (text := "the pan has less than 2 drippings") (is := 105) hlst hM hno hw (by decide +kernel) u_cl_X4_23 u_ini_JS (by decide +kernel) xISE1 xISE2 xISE3 hl.1 dX4_baste_20 dX4_baste_23 dX4_baste_24 dX4_baste_26 dX4_baste_29 (Nat.le_of_ble_eq_true rfl) (Nat.le_of_ble_eq_true rfl) (Nat.le_of_ble_eq_true rfl) (Nat.le_of_ble_eq_true rfl) ⟨hF, by decide +kernel⟩ (Nat.le_of_ble_eq_true rfl) (Nat.le_of_ble_eq_true rfl)
theorem q_X4_takeDown : hdV yX4_takeDown RX4 1 := ⟨rfl, by decide +kernel, by decide +kernel, by decide +kernel⟩
def f_X4_takeDown (κ : Kp) (a : Int32) : (String × Kp) ⊕ (Int32 × Kp) := match f_X4_needSpit κ (a) with | .inl (E, κx) => .inl (E, κx) | .inr p1 => (match f_X4_needRoastOf κ (p1) with | .inl (E, κx) => .inl (E, κx) | .inr p2 => ((fun κ1 : Kp => (fun κ2 : Kp => .inr (κ (p1) 5, κ2)) (up2 κ1 (p1) 5 ((-1)))) (up2 κ (p2) 2 ((-1)))))
set_option maxRecDepth 100000 in
set_option maxHeartbeats 4000000 in
theorem m_X4_takeDown (l : Launch) (g : Gt) (κ : Kp) (sz : Nat) (a : Int32) (hlst : l.stackTraces = false) : vx_Met l yX4_takeDown (.code yX4_takeDown cX4_takeDown 5 (some .int) :: uW) { frames := 7, cells := 2, slots := 12, locals := 210 } (PRE g κ sz [.ref (g.2.2 (0)), .int (a)]) (va_Qi (fun r κ' => f_X4_takeDown κ a = .inr (r, κ')) (Wp g) (fr g sz)) (xC g sz (fun E κx => f_X4_takeDown κ a = .inl (E, κx) ∧ E ∈ [nIOE, nISE])) 2 12 (fr g sz) := by
  refine k_xenter (by decide +kernel) (Nat.le_of_ble_eq_true rfl) ?_
  intro p e s m below meth c ls hM hno hr hl hw hsz
  subst hsz
  have hl : lv_has ls 5 [(0, .ref (g.2.2 (0))), (1, .int (a))] := hl
  have hF := f_X4_takeDown.eq_1 κ a
  refine lv_aload_n hM.x hM.b dX4_takeDown_0 rfl (lv_at hl 0 rfl) ?_
  refine lv_iload_n hM.x hM.b dX4_takeDown_1 rfl (lv_at hl 1 rfl) ?_
  refine k_xe hw (k_runXV [.int (a)] [] hM hw (m_X4_needSpit l g κ _ (a) hlst) (hw.dm kd_0 (by decide)) (sh4 kd_0) rfl (k_gV u_ml_X4_60 u_im_X4_needSpit u_se_X4_needSpit u_ini_X4 u_co_X4_needSpit) (q_X4_needSpit) rfl rfl rfl ⟨Nat.le_of_ble_eq_true rfl, Nat.le_of_ble_eq_true rfl⟩ hl.1 rfl (Nat.le_of_ble_eq_true rfl) dX4_takeDown_2 ⟨Nat.le_of_ble_eq_true rfl, Nat.le_of_ble_eq_true rfl⟩) (fun E κx ce q9 H locs hx hw h1 h2 h3 => ?_) (fun rz κz H locs hp hw => ?_)
  · simp only [hx.1] at hF
    exact k_xout hM hno hw h1 h2 h3 ⟨hF, (by decide +kernel : ∀ E ∈ [nIOE], E ∈ [nIOE, nISE]) E hx.2⟩ (Nat.le_of_ble_eq_true rfl) (Nat.le_of_ble_eq_true rfl)
  · obtain ⟨p1, hrz, hp, hkz⟩ := hp
    rw [hkz] at hw
    rw [hrz]
    simp only [hp] at hF
    have hp1 := kdp_X4_needSpit hp
    refine W.eq (g2 := F0 m 5 ls [.ref (g.2.2 (p1))]) rfl ?_
    refine lv_astore_n (lv' := [(2, .ref (g.2.2 (p1))), (0, .ref (g.2.2 (0))), (1, .int (a))]) hM.x hM.b dX4_takeDown_5 rfl hl (by decide) rfl (fun ls hl => ?_)
    refine lv_aload_n hM.x hM.b dX4_takeDown_6 rfl (lv_at hl 1 rfl) ?_
    refine lv_aload_n hM.x hM.b dX4_takeDown_7 rfl (lv_at hl 0 rfl) ?_
    refine k_xe hw (k_runXV [.ref (g.2.2 (p1))] [] hM hw (m_X4_needRoastOf l g κ _ (p1) (hp1) hlst) (hw.dm kd_0 (by decide)) (sh4 kd_0) rfl (k_gV u_ml_X4_90 u_im_X4_needRoastOf u_se_X4_needRoastOf u_ini_X4 u_co_X4_needRoastOf) (q_X4_needRoastOf) rfl rfl rfl ⟨Nat.le_of_ble_eq_true rfl, Nat.le_of_ble_eq_true rfl⟩ hl.1 rfl (Nat.le_of_ble_eq_true rfl) dX4_takeDown_8 ⟨Nat.le_of_ble_eq_true rfl, Nat.le_of_ble_eq_true rfl⟩) (fun E κx ce q9 H locs hx hw h1 h2 h3 => ?_) (fun rz κz H locs hp hw => ?_)
    · simp only [hx.1] at hF
      exact k_xout hM hno hw h1 h2 h3 ⟨hF, (by decide +kernel : ∀ E ∈ [nISE], E ∈ [nIOE, nISE]) E hx.2⟩ (Nat.le_of_ble_eq_true rfl) (Nat.le_of_ble_eq_true rfl)
    · obtain ⟨p2, hrz, hp, hkz⟩ := hp
      rw [hkz] at hw
      rw [hrz]
      simp only [hp] at hF
      have hp2 := kdp_X4_needRoastOf hp
      refine W.eq (g2 := F0 m 11 ls [.ref (g.2.2 (p2))]) rfl ?_
      refine lv_astore_n (lv' := [(3, .ref (g.2.2 (p2))), (2, .ref (g.2.2 (p1))), (0, .ref (g.2.2 (0))), (1, .int (a))]) hM.x hM.b dX4_takeDown_11 rfl hl (by decide) rfl (fun ls hl => ?_)
      refine lv_aload_n hM.x hM.b dX4_takeDown_12 rfl (lv_at hl 1 rfl) ?_
      refine k_get3 5 hM hw hp1 (by decide) u_fl_X4_110 dX4_takeDown_13 ?_
      refine lv_istore (lv' := [(4, .int (κ (p1) 5)), (3, .ref (g.2.2 (p2))), (2, .ref (g.2.2 (p1))), (0, .ref (g.2.2 (0))), (1, .int (a))]) hM.x hM.b dX4_takeDown_16 hl (by decide) rfl (fun ls hl => ?_)
      refine lv_aload_n hM.x hM.b dX4_takeDown_18 rfl (lv_at hl 1 rfl) ?_
      refine lv_iconst (v := -1) hM.x hM.b dX4_takeDown_19 (by decide) ?_
      refine k_put2 2 hM hw hp2 (by decide) u_fl_X4_113 dX4_takeDown_20 (fun H locs hw => ?_)
      obtain ⟨κ1, eκ1⟩ : ∃ z : Kp, up2 κ (p2) 2 ((-1)) = z := ⟨_, rfl⟩
      rw [eκ1] at hw
      rw [eκ1] at hF
      try dsimp only at hF
      refine lv_aload_n hM.x hM.b dX4_takeDown_23 rfl (lv_at hl 2 rfl) ?_
      refine lv_iconst (v := -1) hM.x hM.b dX4_takeDown_24 (by decide) ?_
      refine k_put3 5 hM hw hp1 (by decide) u_fl_X4_110 dX4_takeDown_25 (fun H locs hw => ?_)
      obtain ⟨κ2, eκ2⟩ : ∃ z : Kp, up2 κ1 (p1) 5 ((-1)) = z := ⟨_, rfl⟩
      rw [eκ2] at hw
      rw [eκ2] at hF
      try dsimp only at hF
      refine lv_iload hM.x hM.b dX4_takeDown_28 (lv_at hl 0 rfl) ?_
      exact vx_ret (k_iret hM hr hw (Nat.le_of_ble_eq_true rfl) (Nat.le_of_ble_eq_true rfl) hF dX4_takeDown_30)
theorem q_X4_emptyPan : hdV yX4_emptyPan RX4 1 := ⟨rfl, by decide +kernel, by decide +kernel, by decide +kernel⟩
def f_X4_emptyPan (κ : Kp) (a : Int32) : (String × Kp) ⊕ (Int32 × Kp) := match f_X4_needSpit κ (a) with | .inl (E, κx) => .inl (E, κx) | .inr p1 => ((fun κ1 : Kp => .inr (κ (p1) 4, κ1)) (up2 κ (p1) 4 (0)))
set_option maxRecDepth 100000 in
set_option maxHeartbeats 4000000 in
theorem m_X4_emptyPan (l : Launch) (g : Gt) (κ : Kp) (sz : Nat) (a : Int32) (hlst : l.stackTraces = false) : vx_Met l yX4_emptyPan (.code yX4_emptyPan cX4_emptyPan 4 (some .int) :: uW) { frames := 7, cells := 1, slots := 6, locals := 210 } (PRE g κ sz [.ref (g.2.2 (0)), .int (a)]) (va_Qi (fun r κ' => f_X4_emptyPan κ a = .inr (r, κ')) (Wp g) (fr g sz)) (xC g sz (fun E κx => f_X4_emptyPan κ a = .inl (E, κx) ∧ E ∈ [nIOE])) 1 6 (fr g sz) := by
  refine k_xenter (by decide +kernel) (Nat.le_of_ble_eq_true rfl) ?_
  intro p e s m below meth c ls hM hno hr hl hw hsz
  subst hsz
  have hl : lv_has ls 4 [(0, .ref (g.2.2 (0))), (1, .int (a))] := hl
  have hF := f_X4_emptyPan.eq_1 κ a
  refine lv_aload_n hM.x hM.b dX4_emptyPan_0 rfl (lv_at hl 0 rfl) ?_
  refine lv_iload_n hM.x hM.b dX4_emptyPan_1 rfl (lv_at hl 1 rfl) ?_
  refine k_xe hw (k_runXV [.int (a)] [] hM hw (m_X4_needSpit l g κ _ (a) hlst) (hw.dm kd_0 (by decide)) (sh4 kd_0) rfl (k_gV u_ml_X4_60 u_im_X4_needSpit u_se_X4_needSpit u_ini_X4 u_co_X4_needSpit) (q_X4_needSpit) rfl rfl rfl ⟨Nat.le_of_ble_eq_true rfl, Nat.le_of_ble_eq_true rfl⟩ hl.1 rfl (Nat.le_of_ble_eq_true rfl) dX4_emptyPan_2 ⟨Nat.le_of_ble_eq_true rfl, Nat.le_of_ble_eq_true rfl⟩) (fun E κx ce q9 H locs hx hw h1 h2 h3 => ?_) (fun rz κz H locs hp hw => ?_)
  · simp only [hx.1] at hF
    exact k_xout hM hno hw h1 h2 h3 ⟨hF, (by decide +kernel : ∀ E ∈ [nIOE], E ∈ [nIOE]) E hx.2⟩ (Nat.le_of_ble_eq_true rfl) (Nat.le_of_ble_eq_true rfl)
  · obtain ⟨p1, hrz, hp, hkz⟩ := hp
    rw [hkz] at hw
    rw [hrz]
    simp only [hp] at hF
    have hp1 := kdp_X4_needSpit hp
    refine W.eq (g2 := F0 m 5 ls [.ref (g.2.2 (p1))]) rfl ?_
    refine lv_astore_n (lv' := [(2, .ref (g.2.2 (p1))), (0, .ref (g.2.2 (0))), (1, .int (a))]) hM.x hM.b dX4_emptyPan_5 rfl hl (by decide) rfl (fun ls hl => ?_)
    refine lv_aload_n hM.x hM.b dX4_emptyPan_6 rfl (lv_at hl 0 rfl) ?_
    refine k_get3 4 hM hw hp1 (by decide) u_fl_X4_102 dX4_emptyPan_7 ?_
    refine lv_istore_n (lv' := [(3, .int (κ (p1) 4)), (2, .ref (g.2.2 (p1))), (0, .ref (g.2.2 (0))), (1, .int (a))]) hM.x hM.b dX4_emptyPan_10 rfl hl (by decide) rfl (fun ls hl => ?_)
    refine lv_aload_n hM.x hM.b dX4_emptyPan_11 rfl (lv_at hl 1 rfl) ?_
    refine lv_iconst (v := 0) hM.x hM.b dX4_emptyPan_12 (by decide) ?_
    refine k_put3 4 hM hw hp1 (by decide) u_fl_X4_102 dX4_emptyPan_13 (fun H locs hw => ?_)
    obtain ⟨κ1, eκ1⟩ : ∃ z : Kp, up2 κ (p1) 4 (0) = z := ⟨_, rfl⟩
    rw [eκ1] at hw
    rw [eκ1] at hF
    try dsimp only at hF
    refine lv_iload_n hM.x hM.b dX4_emptyPan_16 rfl (lv_at hl 0 rfl) ?_
    exact vx_ret (k_iret hM hr hw (Nat.le_of_ble_eq_true rfl) (Nat.le_of_ble_eq_true rfl) hF dX4_emptyPan_17)
theorem q_X4_pass : hdV yX4_pass RX4 1 := ⟨rfl, by decide +kernel, by decide +kernel, by decide +kernel⟩
def f_X4_pass (κ : Kp) (a : Int32) : (String × Kp) ⊕ (Int32 × Kp) := if (a) < (1) then (.inl (nIAE, κ)) else (if (a) ≤ (200) then (match f_X1_goMinutes κ (1) (a) with | (r1, κ1) => (.inr (r1, κ1))) else (.inl (nIAE, κ)))
set_option maxRecDepth 100000 in
set_option maxHeartbeats 4000000 in
theorem m_X4_pass (l : Launch) (g : Gt) (κ : Kp) (sz : Nat) (a : Int32) (hlst : l.stackTraces = false) : vx_Met l yX4_pass (.code yX4_pass cX4_pass 2 (some .int) :: uW) { frames := 6, cells := 1, slots := 6, locals := 180 } (PRE g κ sz [.ref (g.2.2 (0)), .int (a)]) (va_Qi (fun r κ' => f_X4_pass κ a = .inr (r, κ')) (Wp g) (fr g sz)) (xC g sz (fun E κx => f_X4_pass κ a = .inl (E, κx) ∧ E ∈ [nIAE])) 1 6 (fr g sz) := by
  refine k_xenter (by decide +kernel) (Nat.le_of_ble_eq_true rfl) ?_
  intro p e s m below meth c ls hM hno hr hl hw hsz
  subst hsz
  have hl : lv_has ls 2 [(0, .ref (g.2.2 (0))), (1, .int (a))] := hl
  have hF := f_X4_pass.eq_1 κ a
  refine lv_iload_n hM.x hM.b dX4_pass_0 rfl (lv_at hl 1 rfl) ?_
  refine lv_iconst (v := 1) hM.x hM.b dX4_pass_1 (by decide) ?_
  refine lv_icmp_lt (tgt := 12) hM.x hM.b dX4_pass_2 (by decide) (fun c1 => ?_) (fun c1 => ?_)
  · rw [if_pos c1] at hF
    exact k_throw (cls := nIAE) (text := "minutes is not 1 to 200") (is := 116) hlst hM hno hw (by decide +kernel) u_cl_X4_34 u_ini_JA (by decide +kernel) xIAE1 xIAE2 xIAE3 hl.1 dX4_pass_12 dX4_pass_15 dX4_pass_16 dX4_pass_18 dX4_pass_21 (Nat.le_of_ble_eq_true rfl) (Nat.le_of_ble_eq_true rfl) (Nat.le_of_ble_eq_true rfl) (Nat.le_of_ble_eq_true rfl) ⟨hF, by decide +kernel⟩ (Nat.le_of_ble_eq_true rfl) (Nat.le_of_ble_eq_true rfl)
  · rw [if_neg c1] at hF
    refine lv_iload_n hM.x hM.b dX4_pass_5 rfl (lv_at hl 1 rfl) ?_
    refine lv_sipush (v := 200) hM.x hM.b dX4_pass_6 (by decide) ?_
    refine lv_icmp_le (tgt := 22) hM.x hM.b dX4_pass_9 (by decide) (fun c2 => ?_) (fun c2 => ?_)
    · rw [if_pos c2] at hF
      refine lv_aload_n hM.x hM.b dX4_pass_22 rfl (lv_at hl 0 rfl) ?_
      refine k_get4a hM hw u_fl_X4_10 dX4_pass_23 ?_
      refine lv_iload_n hM.x hM.b dX4_pass_26 rfl (lv_at hl 1 rfl) ?_
      refine k_ci hw (k_runV [.int (a)] [] hM hw (m_X1_goMinutes l g κ _ (1) (a) (kd_1)) (hw.dm kd_1 (by decide)) (sh1 kd_1) rfl (k_gV u_ml_X4_118 u_im_X1_goMinutes u_se_X1_goMinutes u_ini_X1 u_co_X1_goMinutes) (q_X1_goMinutes) rfl rfl rfl ⟨Nat.le_of_ble_eq_true rfl, Nat.le_of_ble_eq_true rfl⟩ hl.1 rfl (Nat.le_of_ble_eq_true rfl) dX4_pass_27 ⟨Nat.le_of_ble_eq_true rfl, Nat.le_of_ble_eq_true rfl⟩) (fun r1 κ1 H locs hpκ1 hw => ?_)
      simp only [hpκ1] at hF
      exact vx_ret (k_iret hM hr hw (Nat.le_of_ble_eq_true rfl) (Nat.le_of_ble_eq_true rfl) hF dX4_pass_30)
    · rw [if_neg c2] at hF
      exact k_throw (cls := nIAE) (text := "minutes is not 1 to 200") (is := 116) hlst hM hno hw (by decide +kernel) u_cl_X4_34 u_ini_JA (by decide +kernel) xIAE1 xIAE2 xIAE3 hl.1 dX4_pass_12 dX4_pass_15 dX4_pass_16 dX4_pass_18 dX4_pass_21 (Nat.le_of_ble_eq_true rfl) (Nat.le_of_ble_eq_true rfl) (Nat.le_of_ble_eq_true rfl) (Nat.le_of_ble_eq_true rfl) ⟨hF, by decide +kernel⟩ (Nat.le_of_ble_eq_true rfl) (Nat.le_of_ble_eq_true rfl)
end
section
theorem q_X4_minute : hdV yX4_minute RX4 0 := ⟨rfl, by decide +kernel, by decide +kernel, by decide +kernel⟩
def f_X4_minute (κ : Kp) : Int32 := κ (1) 6
set_option maxRecDepth 100000 in
set_option maxHeartbeats 4000000 in
theorem m_X4_minute (l : Launch) (g : Gt) (κ : Kp) (sz : Nat)  : Met l yX4_minute (.code yX4_minute cX4_minute 1 (some .int) :: uW) { frames := 0, cells := 0, slots := 0, locals := 0 } (PRE g κ sz [.ref (g.2.2 (0))]) (va_Qi (fun r κ' => r = f_X4_minute κ  ∧ κ' = κ) (Wp g) (fr g sz)) 0 0 (fr g sz) := by
  refine k_enter (by decide +kernel) (Nat.le_of_ble_eq_true rfl) ?_
  intro p e s m below meth c ls hM hr hl hw hsz
  subst hsz
  have hl : lv_has ls 1 [(0, .ref (g.2.2 (0)))] := hl
  have hF := f_X4_minute.eq_1 κ 
  refine lv_aload_n hM.x hM.b dX4_minute_0 rfl (lv_at hl 0 rfl) ?_
  refine k_get4a hM hw u_fl_X4_10 dX4_minute_1 ?_
  refine k_get1 6 hM hw kd_1 (by decide) u_fl_X4_122 dX4_minute_4 ?_
  exact k_iret hM hr hw (Nat.le_of_ble_eq_true rfl) (Nat.le_of_ble_eq_true rfl) ⟨hF.symm, rfl⟩ dX4_minute_7
theorem q_X4_feast : hdV yX4_feast RX4 0 := ⟨rfl, by decide +kernel, by decide +kernel, by decide +kernel⟩
def f_X4_feast (κ : Kp) : Int32 := κ (1) 7
set_option maxRecDepth 100000 in
set_option maxHeartbeats 4000000 in
theorem m_X4_feast (l : Launch) (g : Gt) (κ : Kp) (sz : Nat)  : Met l yX4_feast (.code yX4_feast cX4_feast 1 (some .int) :: uW) { frames := 0, cells := 0, slots := 0, locals := 0 } (PRE g κ sz [.ref (g.2.2 (0))]) (va_Qi (fun r κ' => r = f_X4_feast κ  ∧ κ' = κ) (Wp g) (fr g sz)) 0 0 (fr g sz) := by
  refine k_enter (by decide +kernel) (Nat.le_of_ble_eq_true rfl) ?_
  intro p e s m below meth c ls hM hr hl hw hsz
  subst hsz
  have hl : lv_has ls 1 [(0, .ref (g.2.2 (0)))] := hl
  have hF := f_X4_feast.eq_1 κ 
  refine lv_aload_n hM.x hM.b dX4_feast_0 rfl (lv_at hl 0 rfl) ?_
  refine k_get4a hM hw u_fl_X4_10 dX4_feast_1 ?_
  refine k_get1 7 hM hw kd_1 (by decide) u_fl_X4_79 dX4_feast_4 ?_
  exact k_iret hM hr hw (Nat.le_of_ble_eq_true rfl) (Nat.le_of_ble_eq_true rfl) ⟨hF.symm, rfl⟩ dX4_feast_7
theorem q_X4_fires : hdV yX4_fires RX4 0 := ⟨rfl, by decide +kernel, by decide +kernel, by decide +kernel⟩
def f_X4_fires (κ : Kp) : Int32 := κ (1) 3
set_option maxRecDepth 100000 in
set_option maxHeartbeats 4000000 in
theorem m_X4_fires (l : Launch) (g : Gt) (κ : Kp) (sz : Nat)  : Met l yX4_fires (.code yX4_fires cX4_fires 1 (some .int) :: uW) { frames := 0, cells := 0, slots := 0, locals := 0 } (PRE g κ sz [.ref (g.2.2 (0))]) (va_Qi (fun r κ' => r = f_X4_fires κ  ∧ κ' = κ) (Wp g) (fr g sz)) 0 0 (fr g sz) := by
  refine k_enter (by decide +kernel) (Nat.le_of_ble_eq_true rfl) ?_
  intro p e s m below meth c ls hM hr hl hw hsz
  subst hsz
  have hl : lv_has ls 1 [(0, .ref (g.2.2 (0)))] := hl
  have hF := f_X4_fires.eq_1 κ 
  refine lv_aload_n hM.x hM.b dX4_fires_0 rfl (lv_at hl 0 rfl) ?_
  refine k_get4a hM hw u_fl_X4_10 dX4_fires_1 ?_
  refine k_get1 3 hM hw kd_1 (by decide) u_fl_X4_125 dX4_fires_4 ?_
  exact k_iret hM hr hw (Nat.le_of_ble_eq_true rfl) (Nat.le_of_ble_eq_true rfl) ⟨hF.symm, rfl⟩ dX4_fires_7
theorem q_X4_spits : hdV yX4_spits RX4 0 := ⟨rfl, by decide +kernel, by decide +kernel, by decide +kernel⟩
def f_X4_spits (κ : Kp) : Int32 := κ (1) 4
set_option maxRecDepth 100000 in
set_option maxHeartbeats 4000000 in
theorem m_X4_spits (l : Launch) (g : Gt) (κ : Kp) (sz : Nat)  : Met l yX4_spits (.code yX4_spits cX4_spits 1 (some .int) :: uW) { frames := 0, cells := 0, slots := 0, locals := 0 } (PRE g κ sz [.ref (g.2.2 (0))]) (va_Qi (fun r κ' => r = f_X4_spits κ  ∧ κ' = κ) (Wp g) (fr g sz)) 0 0 (fr g sz) := by
  refine k_enter (by decide +kernel) (Nat.le_of_ble_eq_true rfl) ?_
  intro p e s m below meth c ls hM hr hl hw hsz
  subst hsz
  have hl : lv_has ls 1 [(0, .ref (g.2.2 (0)))] := hl
  have hF := f_X4_spits.eq_1 κ 
  refine lv_aload_n hM.x hM.b dX4_spits_0 rfl (lv_at hl 0 rfl) ?_
  refine k_get4a hM hw u_fl_X4_10 dX4_spits_1 ?_
  refine k_get1 4 hM hw kd_1 (by decide) u_fl_X4_131 dX4_spits_4 ?_
  exact k_iret hM hr hw (Nat.le_of_ble_eq_true rfl) (Nat.le_of_ble_eq_true rfl) ⟨hF.symm, rfl⟩ dX4_spits_7
theorem q_X4_roasts : hdV yX4_roasts RX4 0 := ⟨rfl, by decide +kernel, by decide +kernel, by decide +kernel⟩
def f_X4_roasts (κ : Kp) : Int32 := κ (1) 5
set_option maxRecDepth 100000 in
set_option maxHeartbeats 4000000 in
theorem m_X4_roasts (l : Launch) (g : Gt) (κ : Kp) (sz : Nat)  : Met l yX4_roasts (.code yX4_roasts cX4_roasts 1 (some .int) :: uW) { frames := 0, cells := 0, slots := 0, locals := 0 } (PRE g κ sz [.ref (g.2.2 (0))]) (va_Qi (fun r κ' => r = f_X4_roasts κ  ∧ κ' = κ) (Wp g) (fr g sz)) 0 0 (fr g sz) := by
  refine k_enter (by decide +kernel) (Nat.le_of_ble_eq_true rfl) ?_
  intro p e s m below meth c ls hM hr hl hw hsz
  subst hsz
  have hl : lv_has ls 1 [(0, .ref (g.2.2 (0)))] := hl
  have hF := f_X4_roasts.eq_1 κ 
  refine lv_aload_n hM.x hM.b dX4_roasts_0 rfl (lv_at hl 0 rfl) ?_
  refine k_get4a hM hw u_fl_X4_10 dX4_roasts_1 ?_
  refine k_get1 5 hM hw kd_1 (by decide) u_fl_X4_141 dX4_roasts_4 ?_
  exact k_iret hM hr hw (Nat.le_of_ble_eq_true rfl) (Nat.le_of_ble_eq_true rfl) ⟨hF.symm, rfl⟩ dX4_roasts_7
theorem q_X4_logsOf : hdV yX4_logsOf RX4 1 := ⟨rfl, by decide +kernel, by decide +kernel, by decide +kernel⟩
def f_X4_logsOf (κ : Kp) (a : Int32) : (String × Kp) ⊕ (Int32 × Kp) := match f_X4_needFire κ (a) with | .inl (E, κx) => .inl (E, κx) | .inr p1 => (.inr (κ (p1) 0, κ))
set_option maxRecDepth 100000 in
set_option maxHeartbeats 4000000 in
theorem m_X4_logsOf (l : Launch) (g : Gt) (κ : Kp) (sz : Nat) (a : Int32) (hlst : l.stackTraces = false) : vx_Met l yX4_logsOf (.code yX4_logsOf cX4_logsOf 2 (some .int) :: uW) { frames := 7, cells := 1, slots := 6, locals := 210 } (PRE g κ sz [.ref (g.2.2 (0)), .int (a)]) (va_Qi (fun r κ' => f_X4_logsOf κ a = .inr (r, κ')) (Wp g) (fr g sz)) (xC g sz (fun E κx => f_X4_logsOf κ a = .inl (E, κx) ∧ E ∈ [nIOE])) 1 6 (fr g sz) := by
  refine k_xenter (by decide +kernel) (Nat.le_of_ble_eq_true rfl) ?_
  intro p e s m below meth c ls hM hno hr hl hw hsz
  subst hsz
  have hl : lv_has ls 2 [(0, .ref (g.2.2 (0))), (1, .int (a))] := hl
  have hF := f_X4_logsOf.eq_1 κ a
  refine lv_aload_n hM.x hM.b dX4_logsOf_0 rfl (lv_at hl 0 rfl) ?_
  refine lv_iload_n hM.x hM.b dX4_logsOf_1 rfl (lv_at hl 1 rfl) ?_
  refine k_xe hw (k_runXV [.int (a)] [] hM hw (m_X4_needFire l g κ _ (a) hlst) (hw.dm kd_0 (by decide)) (sh4 kd_0) rfl (k_gV u_ml_X4_30 u_im_X4_needFire u_se_X4_needFire u_ini_X4 u_co_X4_needFire) (q_X4_needFire) rfl rfl rfl ⟨Nat.le_of_ble_eq_true rfl, Nat.le_of_ble_eq_true rfl⟩ hl.1 rfl (Nat.le_of_ble_eq_true rfl) dX4_logsOf_2 ⟨Nat.le_of_ble_eq_true rfl, Nat.le_of_ble_eq_true rfl⟩) (fun E κx ce q9 H locs hx hw h1 h2 h3 => ?_) (fun rz κz H locs hp hw => ?_)
  · simp only [hx.1] at hF
    exact k_xout hM hno hw h1 h2 h3 ⟨hF, (by decide +kernel : ∀ E ∈ [nIOE], E ∈ [nIOE]) E hx.2⟩ (Nat.le_of_ble_eq_true rfl) (Nat.le_of_ble_eq_true rfl)
  · obtain ⟨p1, hrz, hp, hkz⟩ := hp
    rw [hkz] at hw
    rw [hrz]
    simp only [hp] at hF
    have hp1 := kdp_X4_needFire hp
    refine W.eq (g2 := F0 m 5 ls [.ref (g.2.2 (p1))]) rfl ?_
    refine k_get0 0 hM hw hp1 (by decide) u_fl_X4_39 dX4_logsOf_5 ?_
    exact vx_ret (k_iret hM hr hw (Nat.le_of_ble_eq_true rfl) (Nat.le_of_ble_eq_true rfl) hF dX4_logsOf_8)
theorem q_X4_heatOf : hdV yX4_heatOf RX4 1 := ⟨rfl, by decide +kernel, by decide +kernel, by decide +kernel⟩
def f_X4_heatOf (κ : Kp) (a : Int32) : (String × Kp) ⊕ (Int32 × Kp) := match f_X4_needFire κ (a) with | .inl (E, κx) => .inl (E, κx) | .inr p1 => (.inr (κ (p1) 1, κ))
set_option maxRecDepth 100000 in
set_option maxHeartbeats 4000000 in
theorem m_X4_heatOf (l : Launch) (g : Gt) (κ : Kp) (sz : Nat) (a : Int32) (hlst : l.stackTraces = false) : vx_Met l yX4_heatOf (.code yX4_heatOf cX4_heatOf 2 (some .int) :: uW) { frames := 7, cells := 1, slots := 6, locals := 210 } (PRE g κ sz [.ref (g.2.2 (0)), .int (a)]) (va_Qi (fun r κ' => f_X4_heatOf κ a = .inr (r, κ')) (Wp g) (fr g sz)) (xC g sz (fun E κx => f_X4_heatOf κ a = .inl (E, κx) ∧ E ∈ [nIOE])) 1 6 (fr g sz) := by
  refine k_xenter (by decide +kernel) (Nat.le_of_ble_eq_true rfl) ?_
  intro p e s m below meth c ls hM hno hr hl hw hsz
  subst hsz
  have hl : lv_has ls 2 [(0, .ref (g.2.2 (0))), (1, .int (a))] := hl
  have hF := f_X4_heatOf.eq_1 κ a
  refine lv_aload_n hM.x hM.b dX4_heatOf_0 rfl (lv_at hl 0 rfl) ?_
  refine lv_iload_n hM.x hM.b dX4_heatOf_1 rfl (lv_at hl 1 rfl) ?_
  refine k_xe hw (k_runXV [.int (a)] [] hM hw (m_X4_needFire l g κ _ (a) hlst) (hw.dm kd_0 (by decide)) (sh4 kd_0) rfl (k_gV u_ml_X4_30 u_im_X4_needFire u_se_X4_needFire u_ini_X4 u_co_X4_needFire) (q_X4_needFire) rfl rfl rfl ⟨Nat.le_of_ble_eq_true rfl, Nat.le_of_ble_eq_true rfl⟩ hl.1 rfl (Nat.le_of_ble_eq_true rfl) dX4_heatOf_2 ⟨Nat.le_of_ble_eq_true rfl, Nat.le_of_ble_eq_true rfl⟩) (fun E κx ce q9 H locs hx hw h1 h2 h3 => ?_) (fun rz κz H locs hp hw => ?_)
  · simp only [hx.1] at hF
    exact k_xout hM hno hw h1 h2 h3 ⟨hF, (by decide +kernel : ∀ E ∈ [nIOE], E ∈ [nIOE]) E hx.2⟩ (Nat.le_of_ble_eq_true rfl) (Nat.le_of_ble_eq_true rfl)
  · obtain ⟨p1, hrz, hp, hkz⟩ := hp
    rw [hkz] at hw
    rw [hrz]
    simp only [hp] at hF
    have hp1 := kdp_X4_needFire hp
    refine W.eq (g2 := F0 m 5 ls [.ref (g.2.2 (p1))]) rfl ?_
    refine k_get0 1 hM hw hp1 (by decide) u_fl_X4_128 dX4_heatOf_5 ?_
    exact vx_ret (k_iret hM hr hw (Nat.le_of_ble_eq_true rfl) (Nat.le_of_ble_eq_true rfl) hF dX4_heatOf_8)
theorem q_X4_fireOf : hdV yX4_fireOf RX4 1 := ⟨rfl, by decide +kernel, by decide +kernel, by decide +kernel⟩
def f_X4_fireOf (κ : Kp) (a : Int32) : (String × Kp) ⊕ (Int32 × Kp) := match f_X4_needSpit κ (a) with | .inl (E, κx) => .inl (E, κx) | .inr p1 => (.inr (κ (p1) 0, κ))
set_option maxRecDepth 100000 in
set_option maxHeartbeats 4000000 in
theorem m_X4_fireOf (l : Launch) (g : Gt) (κ : Kp) (sz : Nat) (a : Int32) (hlst : l.stackTraces = false) : vx_Met l yX4_fireOf (.code yX4_fireOf cX4_fireOf 2 (some .int) :: uW) { frames := 7, cells := 1, slots := 6, locals := 210 } (PRE g κ sz [.ref (g.2.2 (0)), .int (a)]) (va_Qi (fun r κ' => f_X4_fireOf κ a = .inr (r, κ')) (Wp g) (fr g sz)) (xC g sz (fun E κx => f_X4_fireOf κ a = .inl (E, κx) ∧ E ∈ [nIOE])) 1 6 (fr g sz) := by
  refine k_xenter (by decide +kernel) (Nat.le_of_ble_eq_true rfl) ?_
  intro p e s m below meth c ls hM hno hr hl hw hsz
  subst hsz
  have hl : lv_has ls 2 [(0, .ref (g.2.2 (0))), (1, .int (a))] := hl
  have hF := f_X4_fireOf.eq_1 κ a
  refine lv_aload_n hM.x hM.b dX4_fireOf_0 rfl (lv_at hl 0 rfl) ?_
  refine lv_iload_n hM.x hM.b dX4_fireOf_1 rfl (lv_at hl 1 rfl) ?_
  refine k_xe hw (k_runXV [.int (a)] [] hM hw (m_X4_needSpit l g κ _ (a) hlst) (hw.dm kd_0 (by decide)) (sh4 kd_0) rfl (k_gV u_ml_X4_60 u_im_X4_needSpit u_se_X4_needSpit u_ini_X4 u_co_X4_needSpit) (q_X4_needSpit) rfl rfl rfl ⟨Nat.le_of_ble_eq_true rfl, Nat.le_of_ble_eq_true rfl⟩ hl.1 rfl (Nat.le_of_ble_eq_true rfl) dX4_fireOf_2 ⟨Nat.le_of_ble_eq_true rfl, Nat.le_of_ble_eq_true rfl⟩) (fun E κx ce q9 H locs hx hw h1 h2 h3 => ?_) (fun rz κz H locs hp hw => ?_)
  · simp only [hx.1] at hF
    exact k_xout hM hno hw h1 h2 h3 ⟨hF, (by decide +kernel : ∀ E ∈ [nIOE], E ∈ [nIOE]) E hx.2⟩ (Nat.le_of_ble_eq_true rfl) (Nat.le_of_ble_eq_true rfl)
  · obtain ⟨p1, hrz, hp, hkz⟩ := hp
    rw [hkz] at hw
    rw [hrz]
    simp only [hp] at hF
    have hp1 := kdp_X4_needSpit hp
    refine W.eq (g2 := F0 m 5 ls [.ref (g.2.2 (p1))]) rfl ?_
    refine k_get3 0 hM hw hp1 (by decide) u_fl_X4_134 dX4_fireOf_5 ?_
    exact vx_ret (k_iret hM hr hw (Nat.le_of_ble_eq_true rfl) (Nat.le_of_ble_eq_true rfl) hF dX4_fireOf_8)
theorem q_X4_feetOf : hdV yX4_feetOf RX4 1 := ⟨rfl, by decide +kernel, by decide +kernel, by decide +kernel⟩
def f_X4_feetOf (κ : Kp) (a : Int32) : (String × Kp) ⊕ (Int32 × Kp) := match f_X4_needSpit κ (a) with | .inl (E, κx) => .inl (E, κx) | .inr p1 => (.inr (κ (p1) 1, κ))
set_option maxRecDepth 100000 in
set_option maxHeartbeats 4000000 in
theorem m_X4_feetOf (l : Launch) (g : Gt) (κ : Kp) (sz : Nat) (a : Int32) (hlst : l.stackTraces = false) : vx_Met l yX4_feetOf (.code yX4_feetOf cX4_feetOf 2 (some .int) :: uW) { frames := 7, cells := 1, slots := 6, locals := 210 } (PRE g κ sz [.ref (g.2.2 (0)), .int (a)]) (va_Qi (fun r κ' => f_X4_feetOf κ a = .inr (r, κ')) (Wp g) (fr g sz)) (xC g sz (fun E κx => f_X4_feetOf κ a = .inl (E, κx) ∧ E ∈ [nIOE])) 1 6 (fr g sz) := by
  refine k_xenter (by decide +kernel) (Nat.le_of_ble_eq_true rfl) ?_
  intro p e s m below meth c ls hM hno hr hl hw hsz
  subst hsz
  have hl : lv_has ls 2 [(0, .ref (g.2.2 (0))), (1, .int (a))] := hl
  have hF := f_X4_feetOf.eq_1 κ a
  refine lv_aload_n hM.x hM.b dX4_feetOf_0 rfl (lv_at hl 0 rfl) ?_
  refine lv_iload_n hM.x hM.b dX4_feetOf_1 rfl (lv_at hl 1 rfl) ?_
  refine k_xe hw (k_runXV [.int (a)] [] hM hw (m_X4_needSpit l g κ _ (a) hlst) (hw.dm kd_0 (by decide)) (sh4 kd_0) rfl (k_gV u_ml_X4_60 u_im_X4_needSpit u_se_X4_needSpit u_ini_X4 u_co_X4_needSpit) (q_X4_needSpit) rfl rfl rfl ⟨Nat.le_of_ble_eq_true rfl, Nat.le_of_ble_eq_true rfl⟩ hl.1 rfl (Nat.le_of_ble_eq_true rfl) dX4_feetOf_2 ⟨Nat.le_of_ble_eq_true rfl, Nat.le_of_ble_eq_true rfl⟩) (fun E κx ce q9 H locs hx hw h1 h2 h3 => ?_) (fun rz κz H locs hp hw => ?_)
  · simp only [hx.1] at hF
    exact k_xout hM hno hw h1 h2 h3 ⟨hF, (by decide +kernel : ∀ E ∈ [nIOE], E ∈ [nIOE]) E hx.2⟩ (Nat.le_of_ble_eq_true rfl) (Nat.le_of_ble_eq_true rfl)
  · obtain ⟨p1, hrz, hp, hkz⟩ := hp
    rw [hkz] at hw
    rw [hrz]
    simp only [hp] at hF
    have hp1 := kdp_X4_needSpit hp
    refine W.eq (g2 := F0 m 5 ls [.ref (g.2.2 (p1))]) rfl ?_
    refine k_get3 1 hM hw hp1 (by decide) u_fl_X4_64 dX4_feetOf_5 ?_
    exact vx_ret (k_iret hM hr hw (Nat.le_of_ble_eq_true rfl) (Nat.le_of_ble_eq_true rfl) hF dX4_feetOf_8)
theorem q_X4_glowAt : hdV yX4_glowAt RX4 1 := ⟨rfl, by decide +kernel, by decide +kernel, by decide +kernel⟩
def f_X4_glowAt (κ : Kp) (a : Int32) : (String × Kp) ⊕ (Int32 × Kp) := match f_X4_needSpit κ (a) with | .inl (E, κx) => .inl (E, κx) | .inr p1 => (.inr (f_X1_glowOf κ (1) (p1), κ))
set_option maxRecDepth 100000 in
set_option maxHeartbeats 4000000 in
theorem m_X4_glowAt (l : Launch) (g : Gt) (κ : Kp) (sz : Nat) (a : Int32) (hlst : l.stackTraces = false) : vx_Met l yX4_glowAt (.code yX4_glowAt cX4_glowAt 2 (some .int) :: uW) { frames := 7, cells := 1, slots := 6, locals := 210 } (PRE g κ sz [.ref (g.2.2 (0)), .int (a)]) (va_Qi (fun r κ' => f_X4_glowAt κ a = .inr (r, κ')) (Wp g) (fr g sz)) (xC g sz (fun E κx => f_X4_glowAt κ a = .inl (E, κx) ∧ E ∈ [nIOE])) 1 6 (fr g sz) := by
  refine k_xenter (by decide +kernel) (Nat.le_of_ble_eq_true rfl) ?_
  intro p e s m below meth c ls hM hno hr hl hw hsz
  subst hsz
  have hl : lv_has ls 2 [(0, .ref (g.2.2 (0))), (1, .int (a))] := hl
  have hF := f_X4_glowAt.eq_1 κ a
  refine lv_aload_n hM.x hM.b dX4_glowAt_0 rfl (lv_at hl 0 rfl) ?_
  refine k_get4a hM hw u_fl_X4_10 dX4_glowAt_1 ?_
  refine lv_aload_n hM.x hM.b dX4_glowAt_4 rfl (lv_at hl 0 rfl) ?_
  refine lv_iload_n hM.x hM.b dX4_glowAt_5 rfl (lv_at hl 1 rfl) ?_
  refine k_xe hw (k_runXV [.int (a)] [.ref (g.2.2 (1))] hM hw (m_X4_needSpit l g κ _ (a) hlst) (hw.dm kd_0 (by decide)) (sh4 kd_0) rfl (k_gV u_ml_X4_60 u_im_X4_needSpit u_se_X4_needSpit u_ini_X4 u_co_X4_needSpit) (q_X4_needSpit) rfl rfl rfl ⟨Nat.le_of_ble_eq_true rfl, Nat.le_of_ble_eq_true rfl⟩ hl.1 rfl (Nat.le_of_ble_eq_true rfl) dX4_glowAt_6 ⟨Nat.le_of_ble_eq_true rfl, Nat.le_of_ble_eq_true rfl⟩) (fun E κx ce q9 H locs hx hw h1 h2 h3 => ?_) (fun rz κz H locs hp hw => ?_)
  · simp only [hx.1] at hF
    exact k_xout hM hno hw h1 h2 h3 ⟨hF, (by decide +kernel : ∀ E ∈ [nIOE], E ∈ [nIOE]) E hx.2⟩ (Nat.le_of_ble_eq_true rfl) (Nat.le_of_ble_eq_true rfl)
  · obtain ⟨p1, hrz, hp, hkz⟩ := hp
    rw [hkz] at hw
    rw [hrz]
    simp only [hp] at hF
    have hp1 := kdp_X4_needSpit hp
    refine W.eq (g2 := F0 m 9 ls [.ref (g.2.2 (p1)), .ref (g.2.2 (1))]) rfl ?_
    refine k_cip hw (k_runV [.ref (g.2.2 (p1))] [] hM hw (m_X1_glowOf l g κ _ (1) (p1) (kd_1) (hp1)) (hw.dm kd_1 (by decide)) (sh1 kd_1) rfl (k_gV u_ml_X4_137 u_im_X1_glowOf u_se_X1_glowOf u_ini_X1 u_co_X1_glowOf) (q_X1_glowOf) rfl rfl rfl ⟨Nat.le_of_ble_eq_true rfl, Nat.le_of_ble_eq_true rfl⟩ hl.1 rfl (Nat.le_of_ble_eq_true rfl) dX4_glowAt_9 ⟨Nat.le_of_ble_eq_true rfl, Nat.le_of_ble_eq_true rfl⟩) (fun H locs hw => ?_)
    exact vx_ret (k_iret hM hr hw (Nat.le_of_ble_eq_true rfl) (Nat.le_of_ble_eq_true rfl) hF dX4_glowAt_12)
theorem q_X4_turnedEach : hdV yX4_turnedEach RX4 1 := ⟨rfl, by decide +kernel, by decide +kernel, by decide +kernel⟩
def f_X4_turnedEach (κ : Kp) (a : Int32) : (String × Kp) ⊕ (Int32 × Kp) := match f_X4_needSpit κ (a) with | .inl (E, κx) => .inl (E, κx) | .inr p1 => (.inr (κ (p1) 2, κ))
set_option maxRecDepth 100000 in
set_option maxHeartbeats 4000000 in
theorem m_X4_turnedEach (l : Launch) (g : Gt) (κ : Kp) (sz : Nat) (a : Int32) (hlst : l.stackTraces = false) : vx_Met l yX4_turnedEach (.code yX4_turnedEach cX4_turnedEach 2 (some .int) :: uW) { frames := 7, cells := 1, slots := 6, locals := 210 } (PRE g κ sz [.ref (g.2.2 (0)), .int (a)]) (va_Qi (fun r κ' => f_X4_turnedEach κ a = .inr (r, κ')) (Wp g) (fr g sz)) (xC g sz (fun E κx => f_X4_turnedEach κ a = .inl (E, κx) ∧ E ∈ [nIOE])) 1 6 (fr g sz) := by
  refine k_xenter (by decide +kernel) (Nat.le_of_ble_eq_true rfl) ?_
  intro p e s m below meth c ls hM hno hr hl hw hsz
  subst hsz
  have hl : lv_has ls 2 [(0, .ref (g.2.2 (0))), (1, .int (a))] := hl
  have hF := f_X4_turnedEach.eq_1 κ a
  refine lv_aload_n hM.x hM.b dX4_turnedEach_0 rfl (lv_at hl 0 rfl) ?_
  refine lv_iload_n hM.x hM.b dX4_turnedEach_1 rfl (lv_at hl 1 rfl) ?_
  refine k_xe hw (k_runXV [.int (a)] [] hM hw (m_X4_needSpit l g κ _ (a) hlst) (hw.dm kd_0 (by decide)) (sh4 kd_0) rfl (k_gV u_ml_X4_60 u_im_X4_needSpit u_se_X4_needSpit u_ini_X4 u_co_X4_needSpit) (q_X4_needSpit) rfl rfl rfl ⟨Nat.le_of_ble_eq_true rfl, Nat.le_of_ble_eq_true rfl⟩ hl.1 rfl (Nat.le_of_ble_eq_true rfl) dX4_turnedEach_2 ⟨Nat.le_of_ble_eq_true rfl, Nat.le_of_ble_eq_true rfl⟩) (fun E κx ce q9 H locs hx hw h1 h2 h3 => ?_) (fun rz κz H locs hp hw => ?_)
  · simp only [hx.1] at hF
    exact k_xout hM hno hw h1 h2 h3 ⟨hF, (by decide +kernel : ∀ E ∈ [nIOE], E ∈ [nIOE]) E hx.2⟩ (Nat.le_of_ble_eq_true rfl) (Nat.le_of_ble_eq_true rfl)
  · obtain ⟨p1, hrz, hp, hkz⟩ := hp
    rw [hkz] at hw
    rw [hrz]
    simp only [hp] at hF
    have hp1 := kdp_X4_needSpit hp
    refine W.eq (g2 := F0 m 5 ls [.ref (g.2.2 (p1))]) rfl ?_
    refine k_get3 2 hM hw hp1 (by decide) u_fl_X4_71 dX4_turnedEach_5 ?_
    exact vx_ret (k_iret hM hr hw (Nat.le_of_ble_eq_true rfl) (Nat.le_of_ble_eq_true rfl) hF dX4_turnedEach_8)
theorem q_X4_drippingsOf : hdV yX4_drippingsOf RX4 1 := ⟨rfl, by decide +kernel, by decide +kernel, by decide +kernel⟩
def f_X4_drippingsOf (κ : Kp) (a : Int32) : (String × Kp) ⊕ (Int32 × Kp) := match f_X4_needSpit κ (a) with | .inl (E, κx) => .inl (E, κx) | .inr p1 => (.inr (κ (p1) 4, κ))
set_option maxRecDepth 100000 in
set_option maxHeartbeats 4000000 in
theorem m_X4_drippingsOf (l : Launch) (g : Gt) (κ : Kp) (sz : Nat) (a : Int32) (hlst : l.stackTraces = false) : vx_Met l yX4_drippingsOf (.code yX4_drippingsOf cX4_drippingsOf 2 (some .int) :: uW) { frames := 7, cells := 1, slots := 6, locals := 210 } (PRE g κ sz [.ref (g.2.2 (0)), .int (a)]) (va_Qi (fun r κ' => f_X4_drippingsOf κ a = .inr (r, κ')) (Wp g) (fr g sz)) (xC g sz (fun E κx => f_X4_drippingsOf κ a = .inl (E, κx) ∧ E ∈ [nIOE])) 1 6 (fr g sz) := by
  refine k_xenter (by decide +kernel) (Nat.le_of_ble_eq_true rfl) ?_
  intro p e s m below meth c ls hM hno hr hl hw hsz
  subst hsz
  have hl : lv_has ls 2 [(0, .ref (g.2.2 (0))), (1, .int (a))] := hl
  have hF := f_X4_drippingsOf.eq_1 κ a
  refine lv_aload_n hM.x hM.b dX4_drippingsOf_0 rfl (lv_at hl 0 rfl) ?_
  refine lv_iload_n hM.x hM.b dX4_drippingsOf_1 rfl (lv_at hl 1 rfl) ?_
  refine k_xe hw (k_runXV [.int (a)] [] hM hw (m_X4_needSpit l g κ _ (a) hlst) (hw.dm kd_0 (by decide)) (sh4 kd_0) rfl (k_gV u_ml_X4_60 u_im_X4_needSpit u_se_X4_needSpit u_ini_X4 u_co_X4_needSpit) (q_X4_needSpit) rfl rfl rfl ⟨Nat.le_of_ble_eq_true rfl, Nat.le_of_ble_eq_true rfl⟩ hl.1 rfl (Nat.le_of_ble_eq_true rfl) dX4_drippingsOf_2 ⟨Nat.le_of_ble_eq_true rfl, Nat.le_of_ble_eq_true rfl⟩) (fun E κx ce q9 H locs hx hw h1 h2 h3 => ?_) (fun rz κz H locs hp hw => ?_)
  · simp only [hx.1] at hF
    exact k_xout hM hno hw h1 h2 h3 ⟨hF, (by decide +kernel : ∀ E ∈ [nIOE], E ∈ [nIOE]) E hx.2⟩ (Nat.le_of_ble_eq_true rfl) (Nat.le_of_ble_eq_true rfl)
  · obtain ⟨p1, hrz, hp, hkz⟩ := hp
    rw [hkz] at hw
    rw [hrz]
    simp only [hp] at hF
    have hp1 := kdp_X4_needSpit hp
    refine W.eq (g2 := F0 m 5 ls [.ref (g.2.2 (p1))]) rfl ?_
    refine k_get3 4 hM hw hp1 (by decide) u_fl_X4_102 dX4_drippingsOf_5 ?_
    exact vx_ret (k_iret hM hr hw (Nat.le_of_ble_eq_true rfl) (Nat.le_of_ble_eq_true rfl) hF dX4_drippingsOf_8)
theorem q_X4_roastOn : hdV yX4_roastOn RX4 1 := ⟨rfl, by decide +kernel, by decide +kernel, by decide +kernel⟩
def f_X4_roastOn (κ : Kp) (a : Int32) : (String × Kp) ⊕ (Int32 × Kp) := match f_X4_needSpit κ (a) with | .inl (E, κx) => .inl (E, κx) | .inr p1 => (.inr (κ (p1) 5, κ))
set_option maxRecDepth 100000 in
set_option maxHeartbeats 4000000 in
theorem m_X4_roastOn (l : Launch) (g : Gt) (κ : Kp) (sz : Nat) (a : Int32) (hlst : l.stackTraces = false) : vx_Met l yX4_roastOn (.code yX4_roastOn cX4_roastOn 2 (some .int) :: uW) { frames := 7, cells := 1, slots := 6, locals := 210 } (PRE g κ sz [.ref (g.2.2 (0)), .int (a)]) (va_Qi (fun r κ' => f_X4_roastOn κ a = .inr (r, κ')) (Wp g) (fr g sz)) (xC g sz (fun E κx => f_X4_roastOn κ a = .inl (E, κx) ∧ E ∈ [nIOE])) 1 6 (fr g sz) := by
  refine k_xenter (by decide +kernel) (Nat.le_of_ble_eq_true rfl) ?_
  intro p e s m below meth c ls hM hno hr hl hw hsz
  subst hsz
  have hl : lv_has ls 2 [(0, .ref (g.2.2 (0))), (1, .int (a))] := hl
  have hF := f_X4_roastOn.eq_1 κ a
  refine lv_aload_n hM.x hM.b dX4_roastOn_0 rfl (lv_at hl 0 rfl) ?_
  refine lv_iload_n hM.x hM.b dX4_roastOn_1 rfl (lv_at hl 1 rfl) ?_
  refine k_xe hw (k_runXV [.int (a)] [] hM hw (m_X4_needSpit l g κ _ (a) hlst) (hw.dm kd_0 (by decide)) (sh4 kd_0) rfl (k_gV u_ml_X4_60 u_im_X4_needSpit u_se_X4_needSpit u_ini_X4 u_co_X4_needSpit) (q_X4_needSpit) rfl rfl rfl ⟨Nat.le_of_ble_eq_true rfl, Nat.le_of_ble_eq_true rfl⟩ hl.1 rfl (Nat.le_of_ble_eq_true rfl) dX4_roastOn_2 ⟨Nat.le_of_ble_eq_true rfl, Nat.le_of_ble_eq_true rfl⟩) (fun E κx ce q9 H locs hx hw h1 h2 h3 => ?_) (fun rz κz H locs hp hw => ?_)
  · simp only [hx.1] at hF
    exact k_xout hM hno hw h1 h2 h3 ⟨hF, (by decide +kernel : ∀ E ∈ [nIOE], E ∈ [nIOE]) E hx.2⟩ (Nat.le_of_ble_eq_true rfl) (Nat.le_of_ble_eq_true rfl)
  · obtain ⟨p1, hrz, hp, hkz⟩ := hp
    rw [hkz] at hw
    rw [hrz]
    simp only [hp] at hF
    have hp1 := kdp_X4_needSpit hp
    refine W.eq (g2 := F0 m 5 ls [.ref (g.2.2 (p1))]) rfl ?_
    refine k_get3 5 hM hw hp1 (by decide) u_fl_X4_110 dX4_roastOn_5 ?_
    exact vx_ret (k_iret hM hr hw (Nat.le_of_ble_eq_true rfl) (Nat.le_of_ble_eq_true rfl) hF dX4_roastOn_8)
theorem q_X4_poundsOf : hdV yX4_poundsOf RX4 1 := ⟨rfl, by decide +kernel, by decide +kernel, by decide +kernel⟩
def f_X4_poundsOf (κ : Kp) (a : Int32) : (String × Kp) ⊕ (Int32 × Kp) := match f_X4_needRoast κ (a) with | .inl (E, κx) => .inl (E, κx) | .inr p1 => (.inr (κ (p1) 1, κ))
set_option maxRecDepth 100000 in
set_option maxHeartbeats 4000000 in
theorem m_X4_poundsOf (l : Launch) (g : Gt) (κ : Kp) (sz : Nat) (a : Int32) (hlst : l.stackTraces = false) : vx_Met l yX4_poundsOf (.code yX4_poundsOf cX4_poundsOf 2 (some .int) :: uW) { frames := 7, cells := 1, slots := 6, locals := 210 } (PRE g κ sz [.ref (g.2.2 (0)), .int (a)]) (va_Qi (fun r κ' => f_X4_poundsOf κ a = .inr (r, κ')) (Wp g) (fr g sz)) (xC g sz (fun E κx => f_X4_poundsOf κ a = .inl (E, κx) ∧ E ∈ [nIOE])) 1 6 (fr g sz) := by
  refine k_xenter (by decide +kernel) (Nat.le_of_ble_eq_true rfl) ?_
  intro p e s m below meth c ls hM hno hr hl hw hsz
  subst hsz
  have hl : lv_has ls 2 [(0, .ref (g.2.2 (0))), (1, .int (a))] := hl
  have hF := f_X4_poundsOf.eq_1 κ a
  refine lv_aload_n hM.x hM.b dX4_poundsOf_0 rfl (lv_at hl 0 rfl) ?_
  refine lv_iload_n hM.x hM.b dX4_poundsOf_1 rfl (lv_at hl 1 rfl) ?_
  refine k_xe hw (k_runXV [.int (a)] [] hM hw (m_X4_needRoast l g κ _ (a) hlst) (hw.dm kd_0 (by decide)) (sh4 kd_0) rfl (k_gV u_ml_X4_144 u_im_X4_needRoast u_se_X4_needRoast u_ini_X4 u_co_X4_needRoast) (q_X4_needRoast) rfl rfl rfl ⟨Nat.le_of_ble_eq_true rfl, Nat.le_of_ble_eq_true rfl⟩ hl.1 rfl (Nat.le_of_ble_eq_true rfl) dX4_poundsOf_2 ⟨Nat.le_of_ble_eq_true rfl, Nat.le_of_ble_eq_true rfl⟩) (fun E κx ce q9 H locs hx hw h1 h2 h3 => ?_) (fun rz κz H locs hp hw => ?_)
  · simp only [hx.1] at hF
    exact k_xout hM hno hw h1 h2 h3 ⟨hF, (by decide +kernel : ∀ E ∈ [nIOE], E ∈ [nIOE]) E hx.2⟩ (Nat.le_of_ble_eq_true rfl) (Nat.le_of_ble_eq_true rfl)
  · obtain ⟨p1, hrz, hp, hkz⟩ := hp
    rw [hkz] at hw
    rw [hrz]
    simp only [hp] at hF
    have hp1 := kdp_X4_needRoast hp
    refine W.eq (g2 := F0 m 5 ls [.ref (g.2.2 (p1))]) rfl ?_
    refine k_get2 1 hM hw hp1 (by decide) u_fl_X4_148 dX4_poundsOf_5 ?_
    exact vx_ret (k_iret hM hr hw (Nat.le_of_ble_eq_true rfl) (Nat.le_of_ble_eq_true rfl) hF dX4_poundsOf_8)
theorem q_X4_spitOf : hdV yX4_spitOf RX4 1 := ⟨rfl, by decide +kernel, by decide +kernel, by decide +kernel⟩
def f_X4_spitOf (κ : Kp) (a : Int32) : (String × Kp) ⊕ (Int32 × Kp) := match f_X4_needRoast κ (a) with | .inl (E, κx) => .inl (E, κx) | .inr p1 => (.inr (κ (p1) 2, κ))
set_option maxRecDepth 100000 in
set_option maxHeartbeats 4000000 in
theorem m_X4_spitOf (l : Launch) (g : Gt) (κ : Kp) (sz : Nat) (a : Int32) (hlst : l.stackTraces = false) : vx_Met l yX4_spitOf (.code yX4_spitOf cX4_spitOf 2 (some .int) :: uW) { frames := 7, cells := 1, slots := 6, locals := 210 } (PRE g κ sz [.ref (g.2.2 (0)), .int (a)]) (va_Qi (fun r κ' => f_X4_spitOf κ a = .inr (r, κ')) (Wp g) (fr g sz)) (xC g sz (fun E κx => f_X4_spitOf κ a = .inl (E, κx) ∧ E ∈ [nIOE])) 1 6 (fr g sz) := by
  refine k_xenter (by decide +kernel) (Nat.le_of_ble_eq_true rfl) ?_
  intro p e s m below meth c ls hM hno hr hl hw hsz
  subst hsz
  have hl : lv_has ls 2 [(0, .ref (g.2.2 (0))), (1, .int (a))] := hl
  have hF := f_X4_spitOf.eq_1 κ a
  refine lv_aload_n hM.x hM.b dX4_spitOf_0 rfl (lv_at hl 0 rfl) ?_
  refine lv_iload_n hM.x hM.b dX4_spitOf_1 rfl (lv_at hl 1 rfl) ?_
  refine k_xe hw (k_runXV [.int (a)] [] hM hw (m_X4_needRoast l g κ _ (a) hlst) (hw.dm kd_0 (by decide)) (sh4 kd_0) rfl (k_gV u_ml_X4_144 u_im_X4_needRoast u_se_X4_needRoast u_ini_X4 u_co_X4_needRoast) (q_X4_needRoast) rfl rfl rfl ⟨Nat.le_of_ble_eq_true rfl, Nat.le_of_ble_eq_true rfl⟩ hl.1 rfl (Nat.le_of_ble_eq_true rfl) dX4_spitOf_2 ⟨Nat.le_of_ble_eq_true rfl, Nat.le_of_ble_eq_true rfl⟩) (fun E κx ce q9 H locs hx hw h1 h2 h3 => ?_) (fun rz κz H locs hp hw => ?_)
  · simp only [hx.1] at hF
    exact k_xout hM hno hw h1 h2 h3 ⟨hF, (by decide +kernel : ∀ E ∈ [nIOE], E ∈ [nIOE]) E hx.2⟩ (Nat.le_of_ble_eq_true rfl) (Nat.le_of_ble_eq_true rfl)
  · obtain ⟨p1, hrz, hp, hkz⟩ := hp
    rw [hkz] at hw
    rw [hrz]
    simp only [hp] at hF
    have hp1 := kdp_X4_needRoast hp
    refine W.eq (g2 := F0 m 5 ls [.ref (g.2.2 (p1))]) rfl ?_
    refine k_get2 2 hM hw hp1 (by decide) u_fl_X4_113 dX4_spitOf_5 ?_
    exact vx_ret (k_iret hM hr hw (Nat.le_of_ble_eq_true rfl) (Nat.le_of_ble_eq_true rfl) hF dX4_spitOf_8)
theorem q_X4_sideToFire : hdV yX4_sideToFire RX4 1 := ⟨rfl, by decide +kernel, by decide +kernel, by decide +kernel⟩
def f_X4_sideToFire (κ : Kp) (a : Int32) : (String × Kp) ⊕ (Int32 × Kp) := match f_X4_needRoast κ (a) with | .inl (E, κx) => .inl (E, κx) | .inr p1 => (.inr (κ (p1) 3, κ))
set_option maxRecDepth 100000 in
set_option maxHeartbeats 4000000 in
theorem m_X4_sideToFire (l : Launch) (g : Gt) (κ : Kp) (sz : Nat) (a : Int32) (hlst : l.stackTraces = false) : vx_Met l yX4_sideToFire (.code yX4_sideToFire cX4_sideToFire 2 (some .int) :: uW) { frames := 7, cells := 1, slots := 6, locals := 210 } (PRE g κ sz [.ref (g.2.2 (0)), .int (a)]) (va_Qi (fun r κ' => f_X4_sideToFire κ a = .inr (r, κ')) (Wp g) (fr g sz)) (xC g sz (fun E κx => f_X4_sideToFire κ a = .inl (E, κx) ∧ E ∈ [nIOE])) 1 6 (fr g sz) := by
  refine k_xenter (by decide +kernel) (Nat.le_of_ble_eq_true rfl) ?_
  intro p e s m below meth c ls hM hno hr hl hw hsz
  subst hsz
  have hl : lv_has ls 2 [(0, .ref (g.2.2 (0))), (1, .int (a))] := hl
  have hF := f_X4_sideToFire.eq_1 κ a
  refine lv_aload_n hM.x hM.b dX4_sideToFire_0 rfl (lv_at hl 0 rfl) ?_
  refine lv_iload_n hM.x hM.b dX4_sideToFire_1 rfl (lv_at hl 1 rfl) ?_
  refine k_xe hw (k_runXV [.int (a)] [] hM hw (m_X4_needRoast l g κ _ (a) hlst) (hw.dm kd_0 (by decide)) (sh4 kd_0) rfl (k_gV u_ml_X4_144 u_im_X4_needRoast u_se_X4_needRoast u_ini_X4 u_co_X4_needRoast) (q_X4_needRoast) rfl rfl rfl ⟨Nat.le_of_ble_eq_true rfl, Nat.le_of_ble_eq_true rfl⟩ hl.1 rfl (Nat.le_of_ble_eq_true rfl) dX4_sideToFire_2 ⟨Nat.le_of_ble_eq_true rfl, Nat.le_of_ble_eq_true rfl⟩) (fun E κx ce q9 H locs hx hw h1 h2 h3 => ?_) (fun rz κz H locs hp hw => ?_)
  · simp only [hx.1] at hF
    exact k_xout hM hno hw h1 h2 h3 ⟨hF, (by decide +kernel : ∀ E ∈ [nIOE], E ∈ [nIOE]) E hx.2⟩ (Nat.le_of_ble_eq_true rfl) (Nat.le_of_ble_eq_true rfl)
  · obtain ⟨p1, hrz, hp, hkz⟩ := hp
    rw [hkz] at hw
    rw [hrz]
    simp only [hp] at hF
    have hp1 := kdp_X4_needRoast hp
    refine W.eq (g2 := F0 m 5 ls [.ref (g.2.2 (p1))]) rfl ?_
    refine k_get2 3 hM hw hp1 (by decide) u_fl_X4_99 dX4_sideToFire_5 ?_
    exact vx_ret (k_iret hM hr hw (Nat.le_of_ble_eq_true rfl) (Nat.le_of_ble_eq_true rfl) hF dX4_sideToFire_8)
theorem q_X4_fatOf : hdV yX4_fatOf RX4 1 := ⟨rfl, by decide +kernel, by decide +kernel, by decide +kernel⟩
def f_X4_fatOf (κ : Kp) (a : Int32) : (String × Kp) ⊕ (Int32 × Kp) := match f_X4_needRoast κ (a) with | .inl (E, κx) => .inl (E, κx) | .inr p1 => (.inr (κ (p1) 4, κ))
set_option maxRecDepth 100000 in
set_option maxHeartbeats 4000000 in
theorem m_X4_fatOf (l : Launch) (g : Gt) (κ : Kp) (sz : Nat) (a : Int32) (hlst : l.stackTraces = false) : vx_Met l yX4_fatOf (.code yX4_fatOf cX4_fatOf 2 (some .int) :: uW) { frames := 7, cells := 1, slots := 6, locals := 210 } (PRE g κ sz [.ref (g.2.2 (0)), .int (a)]) (va_Qi (fun r κ' => f_X4_fatOf κ a = .inr (r, κ')) (Wp g) (fr g sz)) (xC g sz (fun E κx => f_X4_fatOf κ a = .inl (E, κx) ∧ E ∈ [nIOE])) 1 6 (fr g sz) := by
  refine k_xenter (by decide +kernel) (Nat.le_of_ble_eq_true rfl) ?_
  intro p e s m below meth c ls hM hno hr hl hw hsz
  subst hsz
  have hl : lv_has ls 2 [(0, .ref (g.2.2 (0))), (1, .int (a))] := hl
  have hF := f_X4_fatOf.eq_1 κ a
  refine lv_aload_n hM.x hM.b dX4_fatOf_0 rfl (lv_at hl 0 rfl) ?_
  refine lv_iload_n hM.x hM.b dX4_fatOf_1 rfl (lv_at hl 1 rfl) ?_
  refine k_xe hw (k_runXV [.int (a)] [] hM hw (m_X4_needRoast l g κ _ (a) hlst) (hw.dm kd_0 (by decide)) (sh4 kd_0) rfl (k_gV u_ml_X4_144 u_im_X4_needRoast u_se_X4_needRoast u_ini_X4 u_co_X4_needRoast) (q_X4_needRoast) rfl rfl rfl ⟨Nat.le_of_ble_eq_true rfl, Nat.le_of_ble_eq_true rfl⟩ hl.1 rfl (Nat.le_of_ble_eq_true rfl) dX4_fatOf_2 ⟨Nat.le_of_ble_eq_true rfl, Nat.le_of_ble_eq_true rfl⟩) (fun E κx ce q9 H locs hx hw h1 h2 h3 => ?_) (fun rz κz H locs hp hw => ?_)
  · simp only [hx.1] at hF
    exact k_xout hM hno hw h1 h2 h3 ⟨hF, (by decide +kernel : ∀ E ∈ [nIOE], E ∈ [nIOE]) E hx.2⟩ (Nat.le_of_ble_eq_true rfl) (Nat.le_of_ble_eq_true rfl)
  · obtain ⟨p1, hrz, hp, hkz⟩ := hp
    rw [hkz] at hw
    rw [hrz]
    simp only [hp] at hF
    have hp1 := kdp_X4_needRoast hp
    refine W.eq (g2 := F0 m 5 ls [.ref (g.2.2 (p1))]) rfl ?_
    refine k_get2 4 hM hw hp1 (by decide) u_fl_X4_160 dX4_fatOf_5 ?_
    exact vx_ret (k_iret hM hr hw (Nat.le_of_ble_eq_true rfl) (Nat.le_of_ble_eq_true rfl) hF dX4_fatOf_8)
theorem q_X4_wetFor : hdV yX4_wetFor RX4 1 := ⟨rfl, by decide +kernel, by decide +kernel, by decide +kernel⟩
def f_X4_wetFor (κ : Kp) (a : Int32) : (String × Kp) ⊕ (Int32 × Kp) := match f_X4_needRoast κ (a) with | .inl (E, κx) => .inl (E, κx) | .inr p1 => (.inr (κ (p1) 5, κ))
set_option maxRecDepth 100000 in
set_option maxHeartbeats 4000000 in
theorem m_X4_wetFor (l : Launch) (g : Gt) (κ : Kp) (sz : Nat) (a : Int32) (hlst : l.stackTraces = false) : vx_Met l yX4_wetFor (.code yX4_wetFor cX4_wetFor 2 (some .int) :: uW) { frames := 7, cells := 1, slots := 6, locals := 210 } (PRE g κ sz [.ref (g.2.2 (0)), .int (a)]) (va_Qi (fun r κ' => f_X4_wetFor κ a = .inr (r, κ')) (Wp g) (fr g sz)) (xC g sz (fun E κx => f_X4_wetFor κ a = .inl (E, κx) ∧ E ∈ [nIOE])) 1 6 (fr g sz) := by
  refine k_xenter (by decide +kernel) (Nat.le_of_ble_eq_true rfl) ?_
  intro p e s m below meth c ls hM hno hr hl hw hsz
  subst hsz
  have hl : lv_has ls 2 [(0, .ref (g.2.2 (0))), (1, .int (a))] := hl
  have hF := f_X4_wetFor.eq_1 κ a
  refine lv_aload_n hM.x hM.b dX4_wetFor_0 rfl (lv_at hl 0 rfl) ?_
  refine lv_iload_n hM.x hM.b dX4_wetFor_1 rfl (lv_at hl 1 rfl) ?_
  refine k_xe hw (k_runXV [.int (a)] [] hM hw (m_X4_needRoast l g κ _ (a) hlst) (hw.dm kd_0 (by decide)) (sh4 kd_0) rfl (k_gV u_ml_X4_144 u_im_X4_needRoast u_se_X4_needRoast u_ini_X4 u_co_X4_needRoast) (q_X4_needRoast) rfl rfl rfl ⟨Nat.le_of_ble_eq_true rfl, Nat.le_of_ble_eq_true rfl⟩ hl.1 rfl (Nat.le_of_ble_eq_true rfl) dX4_wetFor_2 ⟨Nat.le_of_ble_eq_true rfl, Nat.le_of_ble_eq_true rfl⟩) (fun E κx ce q9 H locs hx hw h1 h2 h3 => ?_) (fun rz κz H locs hp hw => ?_)
  · simp only [hx.1] at hF
    exact k_xout hM hno hw h1 h2 h3 ⟨hF, (by decide +kernel : ∀ E ∈ [nIOE], E ∈ [nIOE]) E hx.2⟩ (Nat.le_of_ble_eq_true rfl) (Nat.le_of_ble_eq_true rfl)
  · obtain ⟨p1, hrz, hp, hkz⟩ := hp
    rw [hkz] at hw
    rw [hrz]
    simp only [hp] at hF
    have hp1 := kdp_X4_needRoast hp
    refine W.eq (g2 := F0 m 5 ls [.ref (g.2.2 (p1))]) rfl ?_
    refine k_get2 5 hM hw hp1 (by decide) u_fl_X4_107 dX4_wetFor_5 ?_
    exact vx_ret (k_iret hM hr hw (Nat.le_of_ble_eq_true rfl) (Nat.le_of_ble_eq_true rfl) hF dX4_wetFor_8)
theorem q_X4_brownOf : hdV yX4_brownOf RX4 2 := ⟨rfl, by decide +kernel, by decide +kernel, by decide +kernel⟩
def f_X4_brownOf (κ : Kp) (a : Int32) (b : Int32) : (String × Kp) ⊕ (Int32 × Kp) := match f_X4_needRoast κ (a) with | .inl (E, κx) => .inl (E, κx) | .inr p1 => (if (b) < 0 then (.inl (nIOE, κ)) else (if (b) < (4) then (.inr (κ (p1 + 1) (b).toNatClampNeg, κ)) else (.inl (nIOE, κ))))
set_option maxRecDepth 100000 in
set_option maxHeartbeats 4000000 in
theorem m_X4_brownOf (l : Launch) (g : Gt) (κ : Kp) (sz : Nat) (a : Int32) (b : Int32) (hlst : l.stackTraces = false) : vx_Met l yX4_brownOf (.code yX4_brownOf cX4_brownOf 4 (some .int) :: uW) { frames := 7, cells := 2, slots := 12, locals := 210 } (PRE g κ sz [.ref (g.2.2 (0)), .int (a), .int (b)]) (va_Qi (fun r κ' => f_X4_brownOf κ a b = .inr (r, κ')) (Wp g) (fr g sz)) (xC g sz (fun E κx => f_X4_brownOf κ a b = .inl (E, κx) ∧ E ∈ [nIOE])) 2 12 (fr g sz) := by
  refine k_xenter (by decide +kernel) (Nat.le_of_ble_eq_true rfl) ?_
  intro p e s m below meth c ls hM hno hr hl hw hsz
  subst hsz
  have hl : lv_has ls 4 [(0, .ref (g.2.2 (0))), (1, .int (a)), (2, .int (b))] := hl
  have hF := f_X4_brownOf.eq_1 κ a b
  refine lv_aload_n hM.x hM.b dX4_brownOf_0 rfl (lv_at hl 0 rfl) ?_
  refine lv_iload_n hM.x hM.b dX4_brownOf_1 rfl (lv_at hl 1 rfl) ?_
  refine k_xe hw (k_runXV [.int (a)] [] hM hw (m_X4_needRoast l g κ _ (a) hlst) (hw.dm kd_0 (by decide)) (sh4 kd_0) rfl (k_gV u_ml_X4_144 u_im_X4_needRoast u_se_X4_needRoast u_ini_X4 u_co_X4_needRoast) (q_X4_needRoast) rfl rfl rfl ⟨Nat.le_of_ble_eq_true rfl, Nat.le_of_ble_eq_true rfl⟩ hl.1 rfl (Nat.le_of_ble_eq_true rfl) dX4_brownOf_2 ⟨Nat.le_of_ble_eq_true rfl, Nat.le_of_ble_eq_true rfl⟩) (fun E κx ce q9 H locs hx hw h1 h2 h3 => ?_) (fun rz κz H locs hp hw => ?_)
  · simp only [hx.1] at hF
    exact k_xout hM hno hw h1 h2 h3 ⟨hF, (by decide +kernel : ∀ E ∈ [nIOE], E ∈ [nIOE]) E hx.2⟩ (Nat.le_of_ble_eq_true rfl) (Nat.le_of_ble_eq_true rfl)
  · obtain ⟨p1, hrz, hp, hkz⟩ := hp
    rw [hkz] at hw
    rw [hrz]
    simp only [hp] at hF
    have hp1 := kdp_X4_needRoast hp
    refine W.eq (g2 := F0 m 5 ls [.ref (g.2.2 (p1))]) rfl ?_
    refine lv_astore_n (lv' := [(3, .ref (g.2.2 (p1))), (0, .ref (g.2.2 (0))), (1, .int (a)), (2, .int (b))]) hM.x hM.b dX4_brownOf_5 rfl hl (by decide) rfl (fun ls hl => ?_)
    refine lv_iload_n hM.x hM.b dX4_brownOf_6 rfl (lv_at hl 3 rfl) ?_
    refine lv_if_lt (tgt := 19) hM.x hM.b dX4_brownOf_7 (by decide) (fun c1 => ?_) (fun c1 => ?_)
    · rw [if_pos c1] at hF
      exact k_throw (cls := nIOE) (text := "side is not 0 to 3") (is := 157) hlst hM hno hw (by decide +kernel) u_cl_X4_155 u_ini_JI (by decide +kernel) xIOE1 xIOE2 xIOE3 hl.1 dX4_brownOf_19 dX4_brownOf_22 dX4_brownOf_23 dX4_brownOf_25 dX4_brownOf_28 (Nat.le_of_ble_eq_true rfl) (Nat.le_of_ble_eq_true rfl) (Nat.le_of_ble_eq_true rfl) (Nat.le_of_ble_eq_true rfl) ⟨hF, by decide +kernel⟩ (Nat.le_of_ble_eq_true rfl) (Nat.le_of_ble_eq_true rfl)
    · rw [if_neg c1] at hF
      refine lv_iload_n hM.x hM.b dX4_brownOf_10 rfl (lv_at hl 3 rfl) ?_
      refine lv_aload_n hM.x hM.b dX4_brownOf_11 rfl (lv_at hl 0 rfl) ?_
      refine k_get2r hM hw hp1 u_fl_X4_151 dX4_brownOf_12 ?_
      refine k_alen (v := 4) hM hw (hw.dm (kd2_6 hp1) (by decide)) 0 (sh6 (kd2_6 hp1)) rfl rfl dX4_brownOf_15 ?_
      refine lv_icmp_lt (tgt := 29) hM.x hM.b dX4_brownOf_16 (by decide) (fun c2 => ?_) (fun c2 => ?_)
      · rw [if_pos c2] at hF
        refine lv_aload_n hM.x hM.b dX4_brownOf_29 rfl (lv_at hl 0 rfl) ?_
        refine k_get2r hM hw hp1 u_fl_X4_151 dX4_brownOf_30 ?_
        refine lv_iload_n hM.x hM.b dX4_brownOf_33 rfl (lv_at hl 3 rfl) ?_
        refine k_iald (n := 4) hM hw (hw.dm (kd2_6 hp1) (by decide)) (sh6 (kd2_6 hp1)) (vpin2 (M := 4) (n := 4) rfl c1 c2) dX4_brownOf_34 ?_
        exact vx_ret (k_iret hM hr hw (Nat.le_of_ble_eq_true rfl) (Nat.le_of_ble_eq_true rfl) hF dX4_brownOf_35)
      · rw [if_neg c2] at hF
        exact k_throw (cls := nIOE) (text := "side is not 0 to 3") (is := 157) hlst hM hno hw (by decide +kernel) u_cl_X4_155 u_ini_JI (by decide +kernel) xIOE1 xIOE2 xIOE3 hl.1 dX4_brownOf_19 dX4_brownOf_22 dX4_brownOf_23 dX4_brownOf_25 dX4_brownOf_28 (Nat.le_of_ble_eq_true rfl) (Nat.le_of_ble_eq_true rfl) (Nat.le_of_ble_eq_true rfl) (Nat.le_of_ble_eq_true rfl) ⟨hF, by decide +kernel⟩ (Nat.le_of_ble_eq_true rfl) (Nat.le_of_ble_eq_true rfl)
theorem q_X4_isDone : hdV yX4_isDone RX4 1 := ⟨rfl, by decide +kernel, by decide +kernel, by decide +kernel⟩
def f_X4_isDone (κ : Kp) (a : Int32) : (String × Kp) ⊕ (Int32 × Kp) := match f_X4_needRoast κ (a) with | .inl (E, κx) => .inl (E, κx) | .inr p1 => (.inr (bi (f_X2_done κ (p1)), κ))
set_option maxRecDepth 100000 in
set_option maxHeartbeats 4000000 in
theorem m_X4_isDone (l : Launch) (g : Gt) (κ : Kp) (sz : Nat) (a : Int32) (hlst : l.stackTraces = false) : vx_Met l yX4_isDone (.code yX4_isDone cX4_isDone 2 (some .boolean) :: uW) { frames := 7, cells := 1, slots := 6, locals := 210 } (PRE g κ sz [.ref (g.2.2 (0)), .int (a)]) (va_Qi (fun r κ' => f_X4_isDone κ a = .inr (r, κ')) (Wp g) (fr g sz)) (xC g sz (fun E κx => f_X4_isDone κ a = .inl (E, κx) ∧ E ∈ [nIOE])) 1 6 (fr g sz) := by
  refine k_xenter (by decide +kernel) (Nat.le_of_ble_eq_true rfl) ?_
  intro p e s m below meth c ls hM hno hr hl hw hsz
  subst hsz
  have hl : lv_has ls 2 [(0, .ref (g.2.2 (0))), (1, .int (a))] := hl
  have hF := f_X4_isDone.eq_1 κ a
  refine lv_aload_n hM.x hM.b dX4_isDone_0 rfl (lv_at hl 0 rfl) ?_
  refine lv_iload_n hM.x hM.b dX4_isDone_1 rfl (lv_at hl 1 rfl) ?_
  refine k_xe hw (k_runXV [.int (a)] [] hM hw (m_X4_needRoast l g κ _ (a) hlst) (hw.dm kd_0 (by decide)) (sh4 kd_0) rfl (k_gV u_ml_X4_144 u_im_X4_needRoast u_se_X4_needRoast u_ini_X4 u_co_X4_needRoast) (q_X4_needRoast) rfl rfl rfl ⟨Nat.le_of_ble_eq_true rfl, Nat.le_of_ble_eq_true rfl⟩ hl.1 rfl (Nat.le_of_ble_eq_true rfl) dX4_isDone_2 ⟨Nat.le_of_ble_eq_true rfl, Nat.le_of_ble_eq_true rfl⟩) (fun E κx ce q9 H locs hx hw h1 h2 h3 => ?_) (fun rz κz H locs hp hw => ?_)
  · simp only [hx.1] at hF
    exact k_xout hM hno hw h1 h2 h3 ⟨hF, (by decide +kernel : ∀ E ∈ [nIOE], E ∈ [nIOE]) E hx.2⟩ (Nat.le_of_ble_eq_true rfl) (Nat.le_of_ble_eq_true rfl)
  · obtain ⟨p1, hrz, hp, hkz⟩ := hp
    rw [hkz] at hw
    rw [hrz]
    simp only [hp] at hF
    have hp1 := kdp_X4_needRoast hp
    refine W.eq (g2 := F0 m 5 ls [.ref (g.2.2 (p1))]) rfl ?_
    refine k_cip hw (k_runV [] [] hM hw (m_X2_done l g κ _ (p1) (hp1)) (hw.dm hp1 (by decide)) (sh2 hp1) rfl (k_gV u_ml_X4_163 u_im_X2_done u_se_X2_done u_ini_X2 u_co_X2_done) (q_X2_done) rfl rfl rfl ⟨Nat.le_of_ble_eq_true rfl, Nat.le_of_ble_eq_true rfl⟩ hl.1 rfl (Nat.le_of_ble_eq_true rfl) dX4_isDone_5 ⟨Nat.le_of_ble_eq_true rfl, Nat.le_of_ble_eq_true rfl⟩) (fun H locs hw => ?_)
    exact vx_ret (k_zret hM hr hw (Nat.le_of_ble_eq_true rfl) (Nat.le_of_ble_eq_true rfl) hF dX4_isDone_8)
theorem q_X4_isBurnt : hdV yX4_isBurnt RX4 1 := ⟨rfl, by decide +kernel, by decide +kernel, by decide +kernel⟩
def f_X4_isBurnt (κ : Kp) (a : Int32) : (String × Kp) ⊕ (Int32 × Kp) := match f_X4_needRoast κ (a) with | .inl (E, κx) => .inl (E, κx) | .inr p1 => (.inr (bi (f_X2_burnt κ (p1)), κ))
set_option maxRecDepth 100000 in
set_option maxHeartbeats 4000000 in
theorem m_X4_isBurnt (l : Launch) (g : Gt) (κ : Kp) (sz : Nat) (a : Int32) (hlst : l.stackTraces = false) : vx_Met l yX4_isBurnt (.code yX4_isBurnt cX4_isBurnt 2 (some .boolean) :: uW) { frames := 7, cells := 1, slots := 6, locals := 210 } (PRE g κ sz [.ref (g.2.2 (0)), .int (a)]) (va_Qi (fun r κ' => f_X4_isBurnt κ a = .inr (r, κ')) (Wp g) (fr g sz)) (xC g sz (fun E κx => f_X4_isBurnt κ a = .inl (E, κx) ∧ E ∈ [nIOE])) 1 6 (fr g sz) := by
  refine k_xenter (by decide +kernel) (Nat.le_of_ble_eq_true rfl) ?_
  intro p e s m below meth c ls hM hno hr hl hw hsz
  subst hsz
  have hl : lv_has ls 2 [(0, .ref (g.2.2 (0))), (1, .int (a))] := hl
  have hF := f_X4_isBurnt.eq_1 κ a
  refine lv_aload_n hM.x hM.b dX4_isBurnt_0 rfl (lv_at hl 0 rfl) ?_
  refine lv_iload_n hM.x hM.b dX4_isBurnt_1 rfl (lv_at hl 1 rfl) ?_
  refine k_xe hw (k_runXV [.int (a)] [] hM hw (m_X4_needRoast l g κ _ (a) hlst) (hw.dm kd_0 (by decide)) (sh4 kd_0) rfl (k_gV u_ml_X4_144 u_im_X4_needRoast u_se_X4_needRoast u_ini_X4 u_co_X4_needRoast) (q_X4_needRoast) rfl rfl rfl ⟨Nat.le_of_ble_eq_true rfl, Nat.le_of_ble_eq_true rfl⟩ hl.1 rfl (Nat.le_of_ble_eq_true rfl) dX4_isBurnt_2 ⟨Nat.le_of_ble_eq_true rfl, Nat.le_of_ble_eq_true rfl⟩) (fun E κx ce q9 H locs hx hw h1 h2 h3 => ?_) (fun rz κz H locs hp hw => ?_)
  · simp only [hx.1] at hF
    exact k_xout hM hno hw h1 h2 h3 ⟨hF, (by decide +kernel : ∀ E ∈ [nIOE], E ∈ [nIOE]) E hx.2⟩ (Nat.le_of_ble_eq_true rfl) (Nat.le_of_ble_eq_true rfl)
  · obtain ⟨p1, hrz, hp, hkz⟩ := hp
    rw [hkz] at hw
    rw [hrz]
    simp only [hp] at hF
    have hp1 := kdp_X4_needRoast hp
    refine W.eq (g2 := F0 m 5 ls [.ref (g.2.2 (p1))]) rfl ?_
    refine k_cip hw (k_runV [] [] hM hw (m_X2_burnt l g κ _ (p1) (hp1)) (hw.dm hp1 (by decide)) (sh2 hp1) rfl (k_gV u_ml_X4_167 u_im_X2_burnt u_se_X2_burnt u_ini_X2 u_co_X2_burnt) (q_X2_burnt) rfl rfl rfl ⟨Nat.le_of_ble_eq_true rfl, Nat.le_of_ble_eq_true rfl⟩ hl.1 rfl (Nat.le_of_ble_eq_true rfl) dX4_isBurnt_5 ⟨Nat.le_of_ble_eq_true rfl, Nat.le_of_ble_eq_true rfl⟩) (fun H locs hw => ?_)
    exact vx_ret (k_zret hM hr hw (Nat.le_of_ble_eq_true rfl) (Nat.le_of_ble_eq_true rfl) hF dX4_isBurnt_8)
end
section
section KDR
variable {p : Program} {l : Launch} {e : Env} {R : Room} {s : State} {m : MethodId} {args : Array Value} {below : List Frame} {meth : Method} {c : Code} {H : Heap} {locs : List Loc} {cells slots mc ms : Nat}
variable {cc : ByteArray} {pc nL : Nat} {ls : Array Slot} {g : Gt} {κ : Kp} {own : String}
theorem Ma.drawn {A : Nat → Prop} {D : va_G} {cA : Nat → ClassId} (d : Drawn) (hM : Ma A D cA p s m args meth c cc nL own) : Ma A D cA p (s.setDrawn d) m args meth c cc nL own := by
  obtain ⟨h1, ⟨hK, h0⟩, hz, hlk⟩ := hM
  have hal : s.vm.Alike (s.setDrawn d).vm := Vm.Alike.refl s.vm
  exact ⟨⟨h1.1, h1.2.1, h1.2.2.1, h1.2.2.2.1, dr_words h1.2.2.2.2 d⟩, ⟨va_K.moved hal hK, Env0.same (s := s) (U := s.setDrawn d) rfl h0⟩, ⟨vx_Zq.moved hal hz.1, vx_Zq.moved hal hz.2⟩, hlk⟩
theorem k_dret {v : UInt64} {post : UInt64 → Kp → Prop} (hM : Mc g p s m args meth c cc nL own) (hr : meth.sig.returnType = some .double) (hw : Ws g s κ H locs) (hc : cells ≤ mc) (hs : slots ≤ ms) (hp : post v κ) (hdg : decode cc pc = .ok (.dreturn, 1)) :
    W p l e R s m args below meth c H locs cells slots (MQ below (va_Qd post (Wp g) (fr g s.heap.size)) args s mc ms (fr g s.heap.size)) (F0 m pc ls [.double v]) :=
  W.widen hc hs (W.dret hM.x hM.b hr (fun t ht hW => ⟨⟨v, κ, rfl, hp, by show va_P _ _ _ t.heap; rw [ht]; exact hw.1⟩, hw.2.1.F ht⟩) hw.2.1.2.2 hdg hM.2.2.2)
end KDR
section KDX
variable {l : Launch}
/-- the entry of a method that may draw -/
theorem k_denter {y : MethodName} {rm : Room} {g : Gt} {κ : Kp} {sz : Nat} {av : List Value} {Qc : Array Value → State → Outcome → State → Prop} {mc ms maxL : Nat} {cc : ByteArray} {ret : Option FieldType} (hy : plainName y.cls = true) (hlen : (lg_sl av).length ≤ maxL)
    (body : ∀ (p : Program) (e : Env) (s : State) (m : MethodId) (below : List Frame) (meth : Method) (c : Code) (ls : Array Slot) (d0 : Drawn), Mc g p s m av.toArray meth c cc maxL y.cls → meth.sig.returnType = ret → lv_has ls maxL (lv_args 0 av) → Ws g s κ s.heap [] → s.heap.size = sz → s.drawn.sameBut d0 lw_cs →
      W p l e rm (s.setDrawn d0) m av.toArray below meth c s.heap [] 0 0 (MQD lw_cs below Qc av.toArray s mc ms (fr g s.heap.size)) (F0 m 0 ls [])) : MetD lw_cs l y (Cond.code y cc maxL ret :: uW) rm (PRE g κ sz av) Qc mc ms (fr g sz) := by
  refine MetD.ofW (cc := cc) (maxL := maxL) (ret := ret) hy rfl ?_
  intro p e s m args below meth c s₁ B hml hv hd0
  obtain ⟨rfl, rfl, hP, hE⟩ := hv
  have hts := atoms_spec (ws := Cond.code y cc maxL ret :: uW) B.pre
  have hl := lv_entry av (n := maxL) hlen
  rw [lg_entry_eq]
  generalize (lg_sl av ++ List.replicate (maxL - (lg_sl av).length) Slot.unset).toArray = ls at hl ⊢
  exact body p e s m below meth c ls s.drawn ⟨⟨B.exec, B.bytes, hml, findClass_of_methodNamed B.named, fun w h => hts w (List.mem_cons_of_mem _ h)⟩, hE.1, hE.2.2, B.notSynchronized⟩ B.returns hl ⟨hP, va_S.rf, hE.2.1, fun q hq => Or.inr hq⟩ rfl hd0
end KDX
theorem alike_0 : alike64 FP.dconst0 FP.dconst0 = true := by decide +kernel
theorem q_X4_meanBrown : hdV yX4_meanBrown RX4 0 := ⟨rfl, by decide +kernel, by decide +kernel, by decide +kernel⟩
def f_X4_meanBrown (κ : Kp) : UInt64 := if 0 < (((κ (1) 5) * (4))) then (FP.ddiv ((FP.i2d (f_X1_sumBrown κ (1)))) ((FP.i2d (((κ (1) 5) * (4)))))) else (FP.dconst0)
set_option maxRecDepth 100000 in
set_option maxHeartbeats 4000000 in
theorem m_X4_meanBrown (l : Launch) (g : Gt) (κ : Kp) (sz : Nat)  : MetD lw_cs l yX4_meanBrown (.code yX4_meanBrown cX4_meanBrown 2 (some .double) :: uW) { frames := 1, cells := 0, slots := 0, locals := 30 } (PRE g κ sz [.ref (g.2.2 (0))]) (va_Qd (fun r κ' => alike64 r (f_X4_meanBrown κ ) = true ∧ κ' = κ) (Wp g) (fr g sz)) 0 0 (fr g sz) := by
  refine k_denter (by decide +kernel) (Nat.le_of_ble_eq_true rfl) ?_
  intro p e s m below meth c ls d0 hM0 hr hl hw hsz hd0
  have hM := hM0.drawn d0
  have hw : Ws g (s.setDrawn d0) κ s.heap [] := hw
  subst hsz
  have hl : lv_has ls 2 [(0, .ref (g.2.2 (0)))] := hl
  have hF := f_X4_meanBrown.eq_1 κ 
  refine lv_aload_n hM.x hM.b dX4_meanBrown_0 rfl (lv_at hl 0 rfl) ?_
  refine k_get4a hM hw u_fl_X4_10 dX4_meanBrown_1 ?_
  refine k_get1 5 hM hw kd_1 (by decide) u_fl_X4_141 dX4_meanBrown_4 ?_
  refine lv_iconst (v := 4) hM.x hM.b dX4_meanBrown_7 (by decide) ?_
  refine lv_imul hM.x hM.b dX4_meanBrown_8 ?_
  refine lv_istore_n (lv' := [(1, .int (((κ (1) 5) * (4)))), (0, .ref (g.2.2 (0)))]) hM.x hM.b dX4_meanBrown_9 rfl hl (by decide) rfl (fun ls hl => ?_)
  refine lv_iload_n hM.x hM.b dX4_meanBrown_10 rfl (lv_at hl 0 rfl) ?_
  refine lv_if_gt (tgt := 16) hM.x hM.b dX4_meanBrown_11 (by decide) (fun c1 => ?_) (fun c1 => ?_)
  · rw [if_pos c1] at hF
    refine lv_aload_n hM.x hM.b dX4_meanBrown_16 rfl (lv_at hl 1 rfl) ?_
    refine k_get4a hM hw u_fl_X4_10 dX4_meanBrown_17 ?_
    refine k_cip hw (k_runV [] [] hM hw (m_X1_sumBrown l g κ _ (1) (kd_1)) (hw.dm kd_1 (by decide)) (sh1 kd_1) rfl (k_gV u_ml_X4_191 u_im_X1_sumBrown u_se_X1_sumBrown u_ini_X1 u_co_X1_sumBrown) (q_X1_sumBrown) rfl rfl rfl ⟨Nat.le_of_ble_eq_true rfl, Nat.le_of_ble_eq_true rfl⟩ hl.1 rfl (Nat.le_of_ble_eq_true rfl) dX4_meanBrown_20 ⟨Nat.le_of_ble_eq_true rfl, Nat.le_of_ble_eq_true rfl⟩) (fun H locs hw => ?_)
    refine lv_i2d hM.x hM.b dX4_meanBrown_23 ?_
    refine lv_iload_n hM.x hM.b dX4_meanBrown_24 rfl (lv_at hl 0 rfl) ?_
    refine lv_i2d hM.x hM.b dX4_meanBrown_25 ?_
    refine lv_ddiv_any hd0 lw_bits hM.x hM.b dX4_meanBrown_26 (fun rd1 dd1 halrd1 hd0 => ?_)
    have hM := hM0.drawn dd1
    have hw : Ws g (s.setDrawn dd1) κ _ _ := hw
    refine W.endD hd0 ?_
    exact k_dret hM hr hw (Nat.le_of_ble_eq_true rfl) (Nat.le_of_ble_eq_true rfl) ⟨by rw [hF]; exact halrd1, rfl⟩ dX4_meanBrown_27
  · rw [if_neg c1] at hF
    refine lv_dconst0 hM.x hM.b dX4_meanBrown_14 ?_
    refine W.endD hd0 ?_
    exact k_dret hM hr hw (Nat.le_of_ble_eq_true rfl) (Nat.le_of_ble_eq_true rfl) ⟨by rw [hF]; exact alike_0, rfl⟩ dX4_meanBrown_15
end
section
/-! THE WORLD AS IT IS MADE: its first n cells, at a0, a0 + 1, .. (a heap's new cell is the next one). -/
def gw (a0 n : Nat) (X : Nat → va_E) : va_W := (List.range n).map fun k => (a0 + k, X k)
section GW
variable {a0 n k : Nat} {X Y : Nat → va_E} {e : va_E} {q : Nat × va_E}
theorem gw_len : (gw a0 n X).length = n := by simp [gw]
theorem gw_get (X : Nat → va_E) (h : k < n) : (gw a0 n X)[k]? = some (a0 + k, X k) := by
  simp only [gw, List.getElem?_map, List.getElem?_range h]; rfl
theorem gw_lt (h : (gw a0 n X)[k]? = some q) : k < n ∧ q = (a0 + k, X k) := by
  have h1 := (List.getElem?_eq_some_iff.mp h).1
  rw [gw_len] at h1
  rw [gw_get X h1] at h
  exact ⟨h1, (Option.some.inj h).symm⟩
theorem gw_congr (h : ∀ k, k < n → X k = Y k) : gw a0 n X = gw a0 n Y := by
  apply List.ext_getElem?
  intro j
  by_cases hl : j < n
  · rw [gw_get X hl, gw_get Y hl, h j hl]
  · rw [List.getElem?_eq_none (by rw [gw_len]; omega), List.getElem?_eq_none (by rw [gw_len]; omega)]
theorem gw_set : (gw a0 n X).set k (a0 + k, e) = gw a0 n (va_up X k e) := by
  apply List.ext_getElem?
  intro j
  by_cases hj : j = k
  · subst hj
    by_cases hl : j < n
    · rw [List.getElem?_set_self (by rw [gw_len]; exact hl), gw_get _ hl, va_up_self]
    · rw [List.getElem?_eq_none (by rw [List.length_set, gw_len]; omega), List.getElem?_eq_none (by rw [gw_len]; omega)]
  · rw [List.getElem?_set_ne (Ne.symm hj)]
    by_cases hl : j < n
    · rw [gw_get _ hl, gw_get _ hl, va_up_ne _ _ hj]
    · rw [List.getElem?_eq_none (by rw [gw_len]; omega), List.getElem?_eq_none (by rw [gw_len]; omega)]
theorem gw_push : gw a0 n X ++ [(a0 + n, e)] = gw a0 (n + 1) (va_up X n e) := by
  apply List.ext_getElem?
  intro j
  by_cases hl : j < n
  · rw [List.getElem?_append_left (by rw [gw_len]; exact hl), gw_get _ hl, gw_get _ (by omega), va_up_ne _ _ (by omega)]
  · rw [List.getElem?_append_right (by rw [gw_len]; omega), gw_len]
    by_cases hj : j = n
    · subst hj
      rw [gw_get _ (by omega), va_up_self, Nat.sub_self]
      rfl
    · rw [List.getElem?_eq_none (by simp; omega), List.getElem?_eq_none (by rw [gw_len]; omega)]
theorem gw_D : va_D (fun q => a0 ≤ q) (gw a0 n X) := by
  refine ⟨fun i j p q h1 h2 h3 => ?_, fun k q h => ?_⟩
  · obtain ⟨-, rfl⟩ := gw_lt h1
    obtain ⟨-, rfl⟩ := gw_lt h2
    dsimp only at h3
    omega
  · obtain ⟨-, rfl⟩ := gw_lt h
    exact Nat.le_add_right _ _
/-- where a new cell lies -/
theorem gw_at {D : va_G} {H1 : Heap} {q : Nat} (hP : va_P D vwCl (gw a0 n X ++ [(q, e)]) H1) (hD : va_D (fun q => a0 ≤ q) (gw a0 n X ++ [(q, e)])) (hz : H1.size ≤ a0 + n + 1) : q = a0 + n := by
  have hr : (gw a0 n X ++ [(q, e)])[n]? = some (q, e) := by
    rw [List.getElem?_append_right (by rw [gw_len]; exact Nat.le_refl _), gw_len, Nat.sub_self]; rfl
  have hlt := (hP n _ hr).lt
  have hge := hD.2 n _ hr
  dsimp only at hlt hge
  rcases Nat.lt_or_ge q (a0 + n) with h | h
  · have hl : (gw a0 n X ++ [(q, e)])[q - a0]? = some (a0 + (q - a0), X (q - a0)) := by
      rw [List.getElem?_append_left (by rw [gw_len]; omega), gw_get X (by omega)]
    have := hD.1 _ _ _ _ hl hr (by dsimp only; omega)
    omega
  · omega
end GW
/-- what the constructors stand on -/
def EnvC (D : va_G) (cA : Nat → ClassId) (U : State) : Prop := va_K D vwCl (tyl cA) U ∧ (va_AO "KitchenSpits$Fire" U ∧ va_AO "KitchenSpits$Spit" U ∧ va_AO "KitchenSpits$Roast" U) ∧ (va_Nw (.methodLinkNest RX1 33 yX0_init "KitchenSpits") U ∧ va_Nw (.methodLinkNest RX1 34 yX3_init "KitchenSpits") U ∧ va_Nw (.methodLinkNest RX1 35 yX2_init "KitchenSpits") U)
theorem EnvC.warm {D : va_G} {cA : Nat → ClassId} {s U : State} (hW : s.WarmedH U.vm) (h : EnvC D cA s) : EnvC D cA U :=
  ⟨va_K.moved hW.alike h.1, ⟨va_AO.moved hW.alike h.2.1.1, va_AO.moved hW.alike h.2.1.2.1, va_AO.moved hW.alike h.2.1.2.2⟩, ⟨va_Nw.warmM hW h.2.2.1, va_Nw.warmM hW h.2.2.2.1, va_Nw.warmM hW h.2.2.2.2⟩⟩
theorem EnvC.same {D : va_G} {cA : Nat → ClassId} {s U : State} (e : s.vm = U.vm) (h : EnvC D cA s) : EnvC D cA U := by
  have hal : s.vm.Alike U.vm := by rw [e]; exact Vm.Alike.refl _
  exact ⟨va_K.moved hal h.1, ⟨va_AO.moved hal h.2.1.1, va_AO.moved hal h.2.1.2.1, va_AO.moved hal h.2.1.2.2⟩, ⟨va_Nw.same rfl e h.2.2.1, va_Nw.same rfl e h.2.2.2.1, va_Nw.same rfl e h.2.2.2.2⟩⟩
/-- a constructor's start -/
def PC (D : va_G) (cA : Nat → ClassId) (a0 n : Nat) (X : Nat → va_E) (av : List Value) : Array Value → State → Prop := va_Pc av (fun U => U.heap.size = a0 + n ∧ va_P D vwCl (gw a0 n X) U.heap ∧ EnvC D cA U)
theorem PC.blind {D : va_G} {cA : Nat → ClassId} {a0 n : Nat} {X : Nat → va_E} {av : List Value} : FrameBlind (PC D cA a0 n X av) := fun a U f mk h => ⟨h.1, h.2.1, h.2.2.1, EnvC.same (s := U) (U := U.calling f mk a) rfl h.2.2.2⟩
/-- its end -/
abbrev PQ (D : va_G) (a0 n : Nat) (X : Nat → va_E) : Array Value → State → Outcome → State → Prop := va_Qv (fun _ : Unit => True) (fun _ t => va_P D vwCl (gw a0 n X) t.heap) (fun q => a0 ≤ q)
def Gv (D : va_G) (a0 n : Nat) (X : Nat → va_E) (s : State) (H : Heap) (locs : List Loc) : Prop := va_P D vwCl (gw a0 n X) H ∧ va_S (fun q => a0 ≤ q) s.heap H locs
def Mk (D : va_G) (cA : Nat → ClassId) (a0 : Nat) (p : Program) (s : State) (m : MethodId) (args : Array Value) (meth : Method) (c : Code) (cc : ByteArray) (nL : Nat) (own : String) : Prop := CallFix p m c cc nL s args uW own ∧ EnvC D cA s ∧ (meth.locks = false ∧ (own = RL ∨ meth.name = "<init>")) ∧ a0 ≤ s.heap.size
section GC
variable {p : Program} {l : Launch} {e : Env} {R : Room} {s : State} {m : MethodId} {args : Array Value} {below : List Frame} {meth : Method} {c : Code} {H : Heap} {locs : List Loc} {cells slots : Nat} {Q : State → Prop}
variable {cc : ByteArray} {pc nL idx a0 n k : Nat} {ls : Array Slot} {rest : List Value} {D : va_G} {cA : Nat → ClassId} {own : String} {X Y : Nat → va_E}
theorem Gv.congr (h : Gv D a0 n X s H locs) (e : ∀ k, k < n → X k = Y k) : Gv D a0 n Y s H locs := ⟨by rw [← gw_congr e]; exact h.1, h.2⟩
/-- a heap is no larger than what was made -/
theorem g_size (kk : H.size ≤ s.heap.size + cells → W p l e R s m args below meth c H locs cells slots Q (F0 m pc ls rest)) : W p l e R s m args below meth c H locs cells slots Q (F0 m pc ls rest) := by
  intro T hT S
  refine kk ?_ T hT S
  have h := S.same.2.2.1
  rw [← hT]; exact h
theorem g_enter {y : MethodName} {rm : Room} {av : List Value} {Qc : Array Value → State → Outcome → State → Prop} {mc ms maxL : Nat} (hy : plainName y.cls = true) (hin : y.name = "<init>") (hlen : (lg_sl av).length ≤ maxL)
    (body : ∀ (p : Program) (e : Env) (s : State) (m : MethodId) (below : List Frame) (meth : Method) (c : Code) (ls : Array Slot), Mk D cA a0 p s m av.toArray meth c cc maxL y.cls → meth.sig.returnType = none → lv_has ls maxL (lv_args 0 av) → Gv D a0 n X s s.heap [] → s.heap.size = a0 + n →
      W p l e rm s m av.toArray below meth c s.heap [] 0 0 (MQ below Qc av.toArray s mc ms (fun q => a0 ≤ q)) (F0 m 0 ls [])) : Met l y (Cond.code y cc maxL none :: uW) rm (PC D cA a0 n X av) Qc mc ms (fun q => a0 ≤ q) := by
  refine Met.ofW (cc := cc) (maxL := maxL) (ret := none) hy rfl ?_
  intro p e s m args below meth c s₁ B hml hv
  obtain ⟨rfl, hsz, hP, hE⟩ := hv
  have hts := atoms_spec (ws := Cond.code y cc maxL none :: uW) B.pre
  have hl := lv_entry av (n := maxL) hlen
  rw [lg_entry_eq]
  generalize (lg_sl av ++ List.replicate (maxL - (lg_sl av).length) Slot.unset).toArray = ls at hl ⊢
  exact body p e s m below meth c ls ⟨⟨B.exec, B.bytes, hml, findClass_of_methodNamed B.named, fun w h => hts w (List.mem_cons_of_mem _ h)⟩, hE, ⟨B.notSynchronized, Or.inr ((name_of_methodNamed B.named B.method).1.trans hin)⟩, by omega⟩ B.returns hl ⟨hP, va_S.rf⟩ hsz
theorem g_obj (hM : Mk D cA a0 p s m args meth c cc nL own) (hlink : Cond.methodLink own idx Lib.objectInit ∈ uW) (hls : ls.size = nL) {a : Nat} (hdg : decode cc pc = .ok (.invokespecial idx, 3)) (hfr : 1 ≤ R.frames) (hlo : 20 ≤ R.locals)
    (kk : W p l e R s m args below meth c H locs cells slots Q (F0 m (pc + 3) ls [])) : W p l e R s m args below meth c H locs cells slots Q (F0 m pc ls [.ref a]) := by
  refine W.objInit hM.1.1 hM.1.2.1 hM.1.2.2.2.1 (hM.1.2.2.2.2 _ hlink) (hM.1.2.2.2.2 _ u_im_JO_init) (hM.1.2.2.2.2 _ u_co_JO_init) rfl (hls.trans hM.1.2.2.1.symm) rfl hdg hfr ?_ ?_
  · show 2 * 0 + 0 + 12 ≤ R.locals
    omega
  · exact W.eq (g2 := F0 m (pc + 3) ls []) rfl kk
theorem g_new {C : String} {T : u_T} {N ci : Nat} {fs : List Value} (hM : Mk D cA a0 p s m args meth c cc nL own) (hG : Gv D a0 n X s H locs) (hsz : s.heap.size + cells = a0 + n) (hin : ∀ w ∈ u_ws C T N, w ∈ uW) (ty : Nat → FieldType) (hty : ∀ k, k < N → parseFieldDescriptor (T k).2.2.1 = some (ty k)) (hcl : Cond.classLink own idx C ∈ uW) (hins : Cond.instantiable C N ∈ uW) (hini : Cond.initialized C ∈ uW) (hc : vwCl[ci]? = some (C, T, N)) (hfs : ∀ j, j < N → defaultValue (ty j) = vp_V fs j) (hcells : cells + 1 ≤ R.cells) (hslots : slots + N ≤ R.slots) (hdg : decode cc pc = .ok (.new idx, 3))
    (kk : ∀ H1 : Heap, Gv D a0 (n + 1) (va_up X n (.inr (ci, fs))) s H1 locs → W p l e R s m args below meth c H1 locs (cells + 1) (slots + N) Q (F0 m (pc + 3) ls (.ref (a0 + n) :: rest))) : W p l e R s m args below meth c H locs cells slots Q (F0 m pc ls rest) := by
  obtain ⟨⟨hx, hb, hml, hown, hts⟩, hE, hme, hle⟩ := hM
  refine va_new hx hb hts hin ty hty hown (hts _ hcl) (hts _ hins) (hts _ hini) hE.1 hG.1 gw_D hG.2 (fun q hq => Nat.le_trans hle hq) hc hfs hcells hslots hdg (fun q H1 hP hD hS => g_size (fun hz => ?_))
  have hq := gw_at hP hD (by omega)
  subst hq
  rw [gw_push] at hP
  exact kk H1 ⟨hP, hS⟩
theorem g_newI {v : Int32} {N : Nat} (hM : Mk D cA a0 p s m args meth c cc nL own) (hG : Gv D a0 n X s H locs) (hsz : s.heap.size + cells = a0 + n) (hv : v = nI N) (hN : N ≤ 1000) (hcells : cells + 1 ≤ R.cells) (hslots : slots + N ≤ R.slots) (hdg : decode cc pc = .ok (.newarray .int, 2))
    (kk : ∀ H1 : Heap, Gv D a0 (n + 1) (va_up X n (.inl (cA 0, N, .inl (fun _ => 0)))) s H1 locs → W p l e R s m args below meth c H1 locs (cells + 1) (slots + N) Q (F0 m (pc + 2) ls (.ref (a0 + n) :: rest))) : W p l e R s m args below meth c H locs cells slots Q (F0 m pc ls (.int v :: rest)) := by
  subst hv
  obtain ⟨⟨hx, hb, hml, hown, hts⟩, hE, hme, hle⟩ := hM
  refine va_newa (atype := .int) (ty := .int) (a0 := (N, .inl (fun _ => 0))) hx hb (hts _ u_ac_int) rfl hE.1 hG.1 gw_D hG.2 (fun q hq => Nat.le_trans hle hq) (fun cA => rfl) (nI0 (by omega)) (nI_clamp (by omega)) (by show N * 4 ≤ 536870912; omega) hcells hslots hdg (fun q cB H1 hK hP hD hS => g_size (fun hz => ?_))
  have hq := gw_at hP hD (by omega)
  subst hq
  have hcB : cB = cA 0 := Option.some.inj ((hK.2 7 (cB, .int) rfl).2.symm.trans (hE.1.2 0 (cA 0, .int) rfl).2)
  subst hcB
  rw [gw_push] at hP
  exact kk H1 ⟨hP, hS⟩
theorem g_newq {C : String} {v : Int32} {N j : Nat} (hM : Mk D cA a0 p s m args meth c cc nL own) (hG : Gv D a0 n X s H locs) (hsz : s.heap.size + cells = a0 + n) (hv : v = nI N) (hN : N ≤ 1000) (hcl : Cond.classLink own idx C ∈ uW) (hao : va_AO C s) (hj : (tyl cA)[j]? = some (cA j, .object C)) (hcells : cells + 1 ≤ R.cells) (hslots : slots + N ≤ R.slots) (hdg : decode cc pc = .ok (.anewarray idx, 3))
    (kk : ∀ H1 : Heap, Gv D a0 (n + 1) (va_up X n (.inl (cA j, N, Qr (fun _ => none)))) s H1 locs → W p l e R s m args below meth c H1 locs (cells + 1) (slots + N) Q (F0 m (pc + 3) ls (.ref (a0 + n) :: rest))) : W p l e R s m args below meth c H locs cells slots Q (F0 m pc ls (.int v :: rest)) := by
  subst hv
  obtain ⟨⟨hx, hb, hml, hown, hts⟩, hE, hme, hle⟩ := hM
  refine va_newq hx hb hown (hts _ hcl) hao hE.1 hG.1 gw_D hG.2 (fun q hq => Nat.le_trans hle hq) (nI0 (by omega)) (nI_clamp (by omega)) (by omega) hcells hslots hdg (fun q cB H1 hK hP hD hS => g_size (fun hz => ?_))
  have hq := gw_at hP hD (by omega)
  subst hq
  obtain ⟨-, -, -, -, -, f1⟩ := (hK.2 7 (cB, .object C) rfl).2
  obtain ⟨-, -, -, -, -, f2⟩ := (hE.1.2 j _ hj).2
  have hcB : cB = cA j := Option.some.inj (f1.symm.trans f2)
  subst hcB
  rw [gw_push] at hP
  exact kk H1 ⟨hP, hS⟩
theorem g_put {C : String} {T : u_T} {N ci : Nat} {fs : List Value} {v : Value} {ty : FieldType} (hM : Mk D cA a0 p s m args meth c cc nL own) (hG : Gv D a0 n X s H locs) (hk : k < n) (hX : X k = .inr (ci, fs)) (hc : vwCl[ci]? = some (C, T, N)) (hin : ∀ w ∈ u_ws C T N, w ∈ uW) (ty0 : Nat → FieldType) (hty : ∀ k, k < N → parseFieldDescriptor (T k).2.2.1 = some (ty0 k)) (hnm : ∀ a, a < N → ∀ b, b < N → a ≠ b → (T a).2.1 ≠ (T b).2.1) (j : Nat) (hj : j < N) (hlink : Cond.fieldLink own idx (T j).1 (T j).2.1 (T j).2.2.1 ∈ uW) (hfin : (T j).2.2.2 = false) (hd : parseFieldDescriptor (T j).2.2.1 = some ty) (hnw : narrow ty v = v) (hft : fits ty v = true) (hl : j < fs.length) (hdg : decode cc pc = .ok (.putfield idx, 3))
    (kk : ∀ (H1 : Heap) (locs1 : List Loc), Gv D a0 n (va_up X k (.inr (ci, fs.set j v))) s H1 locs1 → W p l e R s m args below meth c H1 locs1 cells slots Q (F0 m (pc + 3) ls rest)) : W p l e R s m args below meth c H locs cells slots Q (F0 m pc ls (v :: .ref (a0 + k) :: rest)) := by
  obtain ⟨⟨hx, hb, hml, hown, hts⟩, hE, hme, hle⟩ := hM
  refine va_put hx hb hts hin ty0 hty hnm hown hE.1 hG.1 gw_D hG.2 k (by rw [gw_get X hk, hX]) hc j hj (hts _ hlink) (fun _ h => h) hfin hd hnw hft hl hdg (fun H1 locs1 hP hD hS => kk H1 locs1 ⟨?_, hS⟩)
  rw [gw_set] at hP
  exact hP
theorem g_putF {C : String} {T : u_T} {N ci : Nat} {fs : List Value} {v : Value} {ty : FieldType} (hM : Mk D cA a0 p s m args meth c cc nL own) (hne : ¬ own = RL) (hG : Gv D a0 n X s H locs) (hk : k < n) (hX : X k = .inr (ci, fs)) (hc : vwCl[ci]? = some (C, T, N)) (hin : ∀ w ∈ u_ws C T N, w ∈ uW) (ty0 : Nat → FieldType) (hty : ∀ k, k < N → parseFieldDescriptor (T k).2.2.1 = some (ty0 k)) (hnm : ∀ a, a < N → ∀ b, b < N → a ≠ b → (T a).2.1 ≠ (T b).2.1) (j : Nat) (hj : j < N) (hlink : Cond.fieldLink own idx (T j).1 (T j).2.1 (T j).2.2.1 ∈ uW) (hfin : (T j).2.2.2 = true) (hdecl : (T j).1 = own) (hd : parseFieldDescriptor (T j).2.2.1 = some ty) (hnw : narrow ty v = v) (hft : fits ty v = true) (hl : j < fs.length) (hdg : decode cc pc = .ok (.putfield idx, 3))
    (kk : ∀ (H1 : Heap) (locs1 : List Loc), Gv D a0 n (va_up X k (.inr (ci, fs.set j v))) s H1 locs1 → W p l e R s m args below meth c H1 locs1 cells slots Q (F0 m (pc + 3) ls rest)) : W p l e R s m args below meth c H locs cells slots Q (F0 m pc ls (v :: .ref (a0 + k) :: rest)) := by
  obtain ⟨⟨hx, hb, hml, hown, hts⟩, hE, hme, hle⟩ := hM
  refine va_putF hx hb hts hin ty0 hty hnm hown hE.1 hG.1 gw_D hG.2 k (by rw [gw_get X hk, hX]) hc j hj (hts _ hlink) (fun _ h => h) hfin (hme.2.resolve_left hne) hdecl hd hnw hft hl hdg (fun H1 locs1 hP hD hS => kk H1 locs1 ⟨?_, hS⟩)
  rw [gw_set] at hP
  exact hP
theorem g_get {C : String} {T : u_T} {N ci : Nat} {fs : List Value} {v : Value} (hM : Mk D cA a0 p s m args meth c cc nL own) (hG : Gv D a0 n X s H locs) (hk : k < n) (hX : X k = .inr (ci, fs)) (hc : vwCl[ci]? = some (C, T, N)) (hin : ∀ w ∈ u_ws C T N, w ∈ uW) (j : Nat) (hj : j < N) (hlink : Cond.fieldLink own idx (T j).1 (T j).2.1 (T j).2.2.1 ∈ uW) (hv : fs[j]? = some v) (hdg : decode cc pc = .ok (.getfield idx, 3))
    (kk : W p l e R s m args below meth c H locs cells slots Q (F0 m (pc + 3) ls (v :: rest))) : W p l e R s m args below meth c H locs cells slots Q (F0 m pc ls (.ref (a0 + k) :: rest)) := by
  obtain ⟨⟨hx, hb, hml, hown, hts⟩, hE, hme, hle⟩ := hM
  exact va_get hx hb hts hin hown hE.1 hG.1 k (by rw [gw_get X hk, hX]) hc j hj (hts _ hlink) (fun _ h => h) hv hdg kk
theorem g_astq {r : vw_C} {N i j ci kv : Nat} {vs : List Value} {f : Nat → Option Nat} (hM : Mk D cA a0 p s m args meth c cc nL own) (hG : Gv D a0 n X s H locs) (hk : k < n) (hX : X k = .inl (cA j, N, Qr f)) (hj : (tyl cA)[j]? = some (cA j, .object r.1)) (hkv : kv < n) (hXv : X kv = .inr (ci, vs)) (hc : vwCl[ci]? = some r) (hi : i < N) (hN : N ≤ 1000) (hdg : decode cc pc = .ok (.aastore, 1))
    (kk : ∀ (H1 : Heap) (locs1 : List Loc), Gv D a0 n (va_up X k (.inl (cA j, N, Qr (va_up f i (some (a0 + kv)))))) s H1 locs1 → W p l e R s m args below meth c H1 locs1 cells slots Q (F0 m (pc + 1) ls rest)) : W p l e R s m args below meth c H locs cells slots Q (F0 m pc ls (.ref (a0 + kv) :: .int (nI i) :: .ref (a0 + k) :: rest)) := by
  obtain ⟨⟨hx, hb, hml, hown, hts⟩, hE, hme, hle⟩ := hM
  refine va_astq hx hb hE.1 hG.1 gw_D hG.2 k j kv ci (by rw [gw_get X hk, hX]) hj (by rw [gw_get X hkv, hXv]) hc (vp_in_nI hi (by omega)) hdg (fun H1 locs1 hP hD hS => kk H1 locs1 ⟨?_, hS⟩)
  rw [gw_set, nI_clamp (by omega)] at hP
  exact hP
theorem g_alen {N j : Nat} {f : Nat → Option Nat} {C : String} {v : Int32} (hM : Mk D cA a0 p s m args meth c cc nL own) (hG : Gv D a0 n X s H locs) (hk : k < n) (hX : X k = .inl (cA j, N, Qr f)) (hj : (tyl cA)[j]? = some (cA j, .object C)) (hv : Int32.ofNat N = v) (hdg : decode cc pc = .ok (.arraylength, 1))
    (kk : W p l e R s m args below meth c H locs cells slots Q (F0 m (pc + 1) ls (.int v :: rest))) : W p l e R s m args below meth c H locs cells slots Q (F0 m pc ls (.ref (a0 + k) :: rest)) := by
  obtain ⟨⟨hx, hb, hml, hown, hts⟩, hE, hme, hle⟩ := hM
  exact va_alen hx hb hE.1 hG.1 k j (by rw [gw_get X hk, hX]) hj hv hdg kk
/-- a row of references is what its places hold -/
theorem Gv.row {N : Nat} {cB : ClassId} {f f' : Nat → Option Nat} (h : Gv D a0 n X s H locs) (hX : X k = .inl (cB, N, Qr f)) (hf : ∀ t, t < N → f t = f' t) : Gv D a0 n (va_up X k (.inl (cB, N, Qr f'))) s H locs := by
  refine ⟨fun i q hq => ?_, h.2⟩
  obtain ⟨hi, rfl⟩ := gw_lt hq
  by_cases e : i = k
  · subst e
    have h1 := h.1 i _ (gw_get X hi)
    rw [hX] at h1
    rw [va_up_self]
    have h2 : H[a0 + i]? = some (vp_cell cB (N, Qr f)) := h1
    show H[a0 + i]? = some (vp_cell cB (N, Qr f'))
    rw [h2]
    have h3 : (Array.ofFn (n := N) fun j => va_rf (f j.val)) = Array.ofFn (n := N) fun j => va_rf (f' j.val) := by
      congr 1
      funext j
      rw [hf j.val j.isLt]
    show some ({ cls := cB, slots := Array.ofFn (n := N) fun j => va_rf (f j.val), vm := .none } : Cell) = some { cls := cB, slots := Array.ofFn (n := N) fun j => va_rf (f' j.val), vm := .none }
    rw [h3]
  · rw [va_up_ne _ _ e]
    exact h.1 i _ (gw_get X hi)
theorem g_vret (hM : Mk D cA a0 p s m args meth c cc nL own) (hr : meth.sig.returnType = none) (hG : Gv D a0 n X s H locs) {mc ms : Nat} (hc : cells ≤ mc) (hs : slots ≤ ms) (hdg : decode cc pc = .ok (.return_, 1)) : W p l e R s m args below meth c H locs cells slots (MQ below (PQ D a0 n X) args s mc ms (fun q => a0 ≤ q)) (F0 m pc ls []) :=
  W.widen hc hs (W.vret hM.1.1 hM.1.2.1 hr (fun t ht hW => ⟨⟨(), rfl, trivial, by show va_P D vwCl (gw a0 n X) t.heap; rw [ht]; exact hG.1⟩, hG.2.F ht⟩) hG.2.2.2 hdg hM.2.2.1.1)
/-- a constructor called: of a class that may be named -/
theorem g_runI {y : MethodName} {bytes : ByteArray} {maxL mc ms n' : Nat} {X' : Nat → va_E} {rm : Room} (hM : Mk D cA a0 p s m args meth c cc nL own) (hG : Gv D a0 n X s H locs) (hsz : s.heap.size + cells = a0 + n) (ct : Met l y (.code y bytes maxL none :: uW) rm (PC D cA a0 n X [.ref (a0 + k)]) (PQ D a0 n' X') mc ms (fun q => a0 ≤ q)) (hk : k < n)
    (h1 : Cond.methodLink own idx y ∈ uW) (h2 : Cond.instanceMethod y ∈ uW) (h3 : Cond.initialized y.cls ∈ uW) (h4 : Cond.code y bytes maxL none ∈ uW) (hy : y.name = "<init>") (hd : y.cls ≠ "java/lang/invoke/MethodHandle" ∧ y.cls ≠ "java/lang/invoke/VarHandle" ∧ (parseMethodDescriptor y.desc).map (fun d => d.parameters.length) = some 0) (hrc : rm.cells = mc) (hrs : rm.slots = ms) (hR : rm.frames + 1 ≤ R.frames ∧ 8 + (maxL + 11) + rm.locals ≤ R.locals) (hls : ls.size = nL) (hsum : (rest.map fun v => v.category).sum ≤ 8) (hdg : decode cc pc = .ok (.invokespecial idx, 3)) (hf : cells + mc ≤ R.cells ∧ slots + ms ≤ R.slots)
    (kk : ∀ (H1 : Heap) (locs1 : List Loc), Gv D a0 n' X' s H1 locs1 → W p l e R s m args below meth c H1 locs1 (cells + mc) (slots + ms) Q (F0 m (pc + 3) ls rest)) : W p l e R s m args below meth c H locs cells slots Q (F0 m pc ls (.ref (a0 + k) :: rest)) := by
  refine g_size (fun hz => ?_)
  have hlt := (hG.1 (n - 1) _ (gw_get X (by omega))).lt
  dsimp only at hlt
  obtain ⟨⟨hx, hb, hml, hown, hts⟩, hE, hme, hle⟩ := hM
  have hg := uW_good (ws := [.code y bytes maxL none]) (fun w hw => by
    rw [List.mem_singleton] at hw
    subst hw; exact h4)
  refine va_callv (va_runI (As := []) (rest := rest) ⟨hx, hb, hml, hown, hts⟩ ct (cwI 0 hts hg rfl hrc hrs (hts _ h3) (hts _ h1) (hts _ h2) hy hd hR) ⟨PC.blind, fun U hU hW => ⟨rfl, by rw [hU]; omega, by rw [hU]; exact hG.1, hE.warm hW⟩⟩ rfl rfl hls rfl (lv_room hsum) hdg hf) hG.2 (fun q _ h => h) (fun q h => h) (fun u t H1 locs1 ht hvm hp hB hz1 hk1 hS => kk H1 locs1 ⟨by rw [← ht]; exact hB, hS⟩)
/-- .. of a nest mate -/
theorem g_runIN {y : MethodName} {host : String} {bytes : ByteArray} {maxL mc ms n' : Nat} {X' : Nat → va_E} {rm : Room} (hM : Mk D cA a0 p s m args meth c cc nL own) (hG : Gv D a0 n X s H locs) (hsz : s.heap.size + cells = a0 + n) (ct : Met l y (.code y bytes maxL none :: uW) rm (PC D cA a0 n X [.ref (a0 + k)]) (PQ D a0 n' X') mc ms (fun q => a0 ≤ q)) (hk : k < n)
    (h1 : va_Nw (.methodLinkNest own idx y host) s) (h2 : Cond.instanceMethod y ∈ uW) (h3 : Cond.initialized y.cls ∈ uW) (h4 : Cond.code y bytes maxL none ∈ uW) (hy : y.name = "<init>") (hd : y.cls ≠ "java/lang/invoke/MethodHandle" ∧ y.cls ≠ "java/lang/invoke/VarHandle" ∧ (parseMethodDescriptor y.desc).map (fun d => d.parameters.length) = some 0) (hrc : rm.cells = mc) (hrs : rm.slots = ms) (hR : rm.frames + 1 ≤ R.frames ∧ 8 + (maxL + 11) + rm.locals ≤ R.locals) (hls : ls.size = nL) (hsum : (rest.map fun v => v.category).sum ≤ 8) (hdg : decode cc pc = .ok (.invokespecial idx, 3)) (hf : cells + mc ≤ R.cells ∧ slots + ms ≤ R.slots)
    (kk : ∀ (H1 : Heap) (locs1 : List Loc), Gv D a0 n' X' s H1 locs1 → W p l e R s m args below meth c H1 locs1 (cells + mc) (slots + ms) Q (F0 m (pc + 3) ls rest)) : W p l e R s m args below meth c H locs cells slots Q (F0 m pc ls (.ref (a0 + k) :: rest)) := by
  refine g_size (fun hz => ?_)
  have hlt := (hG.1 (n - 1) _ (gw_get X (by omega))).lt
  dsimp only at hlt
  obtain ⟨⟨hx, hb, hml, hown, hts⟩, hE, hme, hle⟩ := hM
  have hg := uW_good (ws := [.code y bytes maxL none]) (fun w hw => by
    rw [List.mem_singleton] at hw
    subst hw; exact h4)
  refine va_callv (va_runIN (As := []) (rest := rest) ⟨hx, hb, hml, hown, hts⟩ ct ⟨va_cnB 0 hts hg rfl hrc hrs h1 (hts _ h3) hd hR, hy, hts _ h2⟩ ⟨PC.blind, fun U hU hW => ⟨rfl, by rw [hU]; omega, by rw [hU]; exact hG.1, hE.warm hW⟩⟩ rfl rfl hls rfl (lv_room hsum) hdg hf) hG.2 (fun q _ h => h) (fun q h => h) (fun u t H1 locs1 ht hvm hp hB hz1 hk1 hS => kk H1 locs1 ⟨by rw [← ht]; exact hB, hS⟩)
end GC
end
section
/-- the numbers at the start: the feast at 120, no roast on a spit, no spit of a roast; else 0 -/
def κst (q j : Nat) : Int32 := if j = 7 then (if kd q = 1 then 120 else 0) else if j = 4 then (if kd q = 5 then 120 else 0) else if j = 5 then (if kd q = 3 then -1 else 0) else if j = 2 then (if kd q = 2 then -1 else 0) else 0
theorem κst_0 {q : Nat} (h : ¬ kd q = 1) (h5 : ¬ kd q = 5) (h3 : ¬ kd q = 3) (h2 : ¬ kd q = 2) : κst q = fun _ => 0 := by
  funext j
  unfold κst
  rw [if_neg h, if_neg h5, if_neg h3, if_neg h2]
  (repeat' split) <;> rfl
section SHST
variable {cA : Nat → ClassId} {ad : Nat → Nat} {q : Nat}
theorem shst0 (h : kd q = 0) : sh cA ad q (κst q) = .inr (0, [.int 0, .int 0, .int 0]) := by
  rw [sh0 h, κst_0 (by omega) (by omega) (by omega) (by omega)]
theorem shst6 (h : kd q = 6) : sh cA ad q (κst q) = .inl (cA 0, 4, .inl (fun _ => 0)) := by
  rw [sh6 h, κst_0 (by omega) (by omega) (by omega) (by omega)]
theorem shst3 (h : kd q = 3) : sh cA ad q (κst q) = .inr (3, [.int 0, .int 0, .int 0, .int 0, .int 0, .int (-1)]) := by
  rw [sh3 h]
  unfold κst
  rw [h]
  rfl
theorem shst2 (h : kd q = 2) : sh cA ad q (κst q) = .inr (2, [.ref (ad (q + 1)), .int 0, .int (-1), .int 0, .int 0, .int 0]) := by
  rw [sh2 h]
  unfold κst
  rw [h]
  rfl
theorem shst1 (h : kd q = 1) : sh cA ad q (κst q) = .inr (1, [.ref (ad (q + 1)), .ref (ad (q + 2)), .ref (ad (q + 3)), .int 0, .int 0, .int 0, .int 0, .int 120]) := by
  rw [sh1 h]
  unfold κst
  rw [h]
  rfl
end SHST
theorem va_up_up {α : Type} (f : Nat → α) (k : Nat) (a b : α) : va_up (va_up f k a) k b = va_up f k b := by
  funext j
  unfold va_up
  by_cases h : j = k
  · rw [if_pos h, if_pos h]
  · rw [if_neg h, if_neg h, if_neg h]
section MKA
variable {p : Program} {s : State} {m : MethodId} {args : Array Value} {meth : Method} {c : Code} {cc : ByteArray} {nL a0 : Nat} {D : va_G} {cA : Nat → ClassId} {own : String}
theorem Mk.x (hM : Mk D cA a0 p s m args meth c cc nL own) : p.tables.exec = Jvm.exec := hM.1.1
theorem Mk.b (hM : Mk D cA a0 p s m args meth c cc nL own) : c.code = cc := hM.1.2.1
end MKA
set_option maxRecDepth 100000 in
set_option maxHeartbeats 4000000 in
theorem m_X0_init (l : Launch) (D : va_G) (cA : Nat → ClassId) (a0 n k : Nat) (X : Nat → va_E) : Met l yX0_init (.code yX0_init cX0_init 1 none :: uW) { frames := 1, cells := 0, slots := 0, locals := 20 } (PC D cA a0 n X [.ref (a0 + k)]) (PQ D a0 n X) 0 0 (fun q => a0 ≤ q) := by
  refine g_enter (by decide +kernel) rfl (Nat.le_of_ble_eq_true rfl) ?_
  intro p e s m below meth c ls hM hr hl hG hsz
  have hl : lv_has ls 1 [(0, .ref (a0 + k))] := hl
  refine lv_aload_n hM.x hM.b dX0_init_0 rfl (lv_at hl 0 rfl) ?_
  refine g_obj hM u_ml_X0_3 hl.1 dX0_init_1 (Nat.le_of_ble_eq_true rfl) (Nat.le_of_ble_eq_true rfl) ?_
  exact g_vret hM hr hG (Nat.le_refl _) (Nat.le_refl _) dX0_init_4
set_option maxRecDepth 100000 in
set_option maxHeartbeats 4000000 in
theorem m_X3_init (l : Launch) (D : va_G) (cA : Nat → ClassId) (a0 n k : Nat) (X : Nat → va_E) (hk : k < n) (hX : X k = .inr (3, [.int 0, .int 0, .int 0, .int 0, .int 0, .int 0])) : Met l yX3_init (.code yX3_init cX3_init 1 none :: uW) { frames := 1, cells := 0, slots := 0, locals := 20 } (PC D cA a0 n X [.ref (a0 + k)]) (PQ D a0 n (va_up X k (.inr (3, [.int 0, .int 0, .int 0, .int 0, .int 0, .int (-1)])))) 0 0 (fun q => a0 ≤ q) := by
  refine g_enter (by decide +kernel) rfl (Nat.le_of_ble_eq_true rfl) ?_
  intro p e s m below meth c ls hM hr hl hG hsz
  have hl : lv_has ls 1 [(0, .ref (a0 + k))] := hl
  refine lv_aload_n hM.x hM.b dX3_init_0 rfl (lv_at hl 0 rfl) ?_
  refine g_obj hM u_ml_X3_3 hl.1 dX3_init_1 (Nat.le_of_ble_eq_true rfl) (Nat.le_of_ble_eq_true rfl) ?_
  refine lv_aload_n hM.x hM.b dX3_init_4 rfl (lv_at hl 0 rfl) ?_
  refine lv_iconst (v := -1) hM.x hM.b dX3_init_5 (by decide) ?_
  refine g_put (C := RX3) (T := TX3) (N := 6) (ty := .int) hM hG hk hX rfl inW3 tyX3 tyX3_ok nmX3 5 (by decide) u_fl_X3_9 rfl (tyX3_ok 5 (by decide)) rfl rfl (Nat.le_of_ble_eq_true rfl) dX3_init_6 (fun H locs hG => ?_)
  exact g_vret hM hr hG (Nat.le_refl _) (Nat.le_refl _) dX3_init_9
set_option maxRecDepth 100000 in
set_option maxHeartbeats 4000000 in
theorem m_X2_init (l : Launch) (D : va_G) (cA : Nat → ClassId) (a0 n k : Nat) (X : Nat → va_E) (hk : k < n) (hX : X k = .inr (2, [.null, .int 0, .int 0, .int 0, .int 0, .int 0])) : Met l yX2_init (.code yX2_init cX2_init 1 none :: uW) { frames := 1, cells := 1, slots := 4, locals := 20 } (PC D cA a0 n X [.ref (a0 + k)]) (PQ D a0 (n + 1) (va_up (va_up X n (.inl (cA 0, 4, .inl (fun _ => 0)))) k (.inr (2, [.ref (a0 + n), .int 0, .int (-1), .int 0, .int 0, .int 0])))) 1 4 (fun q => a0 ≤ q) := by
  refine g_enter (by decide +kernel) rfl (Nat.le_of_ble_eq_true rfl) ?_
  intro p e s m below meth c ls hM hr hl hG hsz
  have hl : lv_has ls 1 [(0, .ref (a0 + k))] := hl
  refine lv_aload_n hM.x hM.b dX2_init_0 rfl (lv_at hl 0 rfl) ?_
  refine g_obj hM u_ml_X2_3 hl.1 dX2_init_1 (Nat.le_of_ble_eq_true rfl) (Nat.le_of_ble_eq_true rfl) ?_
  refine lv_aload_n hM.x hM.b dX2_init_4 rfl (lv_at hl 0 rfl) ?_
  refine lv_iconst (v := 4) hM.x hM.b dX2_init_5 (by decide) ?_
  refine g_newI (N := 4) hM hG (by omega) rfl (by decide) (Nat.le_of_ble_eq_true rfl) (Nat.le_of_ble_eq_true rfl) dX2_init_6 (fun H hG => ?_)
  refine g_putF (C := RX2) (T := TX2) (N := 6) (ty := .array .int) hM (by decide +kernel) hG (by omega) ((va_up_ne _ _ (by omega)).trans hX) rfl inW2 tyX2 tyX2_ok nmX2 0 (by decide) u_fl_X2_9 rfl rfl (tyX2_ok 0 (by decide)) rfl rfl (Nat.le_of_ble_eq_true rfl) dX2_init_8 (fun H locs hG => ?_)
  refine lv_aload_n hM.x hM.b dX2_init_11 rfl (lv_at hl 0 rfl) ?_
  refine lv_iconst (v := -1) hM.x hM.b dX2_init_12 (by decide) ?_
  refine g_put (C := RX2) (T := TX2) (N := 6) (ty := .int) hM hG (by omega) (va_up_self _ _ _) rfl inW2 tyX2 tyX2_ok nmX2 2 (by decide) u_fl_X2_15 rfl (tyX2_ok 2 (by decide)) rfl rfl (Nat.le_of_ble_eq_true rfl) dX2_init_13 (fun H locs hG => ?_)
  rw [va_up_up] at hG
  exact g_vret hM hr hG (Nat.le_refl _) (Nat.le_refl _) dX2_init_16
/-- a kitchen at k0 as it is made: i fires, j spits, l roasts stand in their rows -/
def kitX (cA : Nat → ClassId) (a0 k0 : Nat) (X : Nat → va_E) (i j l : Nat) : Nat → va_E := fun q =>
  if q < k0 then X q
  else if q = k0 then .inr (1, [.ref (a0 + (k0 + 1)), .ref (a0 + (k0 + 2)), .ref (a0 + (k0 + 3)), .int 0, .int 0, .int 0, .int 0, .int 120])
  else if q = k0 + 1 then .inl (cA 2, 3, Qr (fun t => if t < i then some (a0 + (k0 + 4 + t)) else none))
  else if q = k0 + 2 then .inl (cA 3, 6, Qr (fun t => if t < j then some (a0 + (k0 + 7 + t)) else none))
  else if q = k0 + 3 then .inl (cA 4, 16, Qr (fun t => if t < l then some (a0 + (k0 + 13 + 2 * t)) else none))
  else sh cA (fun k => a0 + k) q (κst q)
section KITX
variable {cA : Nat → ClassId} {a0 k0 : Nat} {X : Nat → va_E} {i j l q : Nat}
theorem kx_lt (h : q < k0) : kitX cA a0 k0 X i j l q = X q := if_pos h
theorem kx0 : kitX cA a0 k0 X i j l k0 = .inr (1, [.ref (a0 + (k0 + 1)), .ref (a0 + (k0 + 2)), .ref (a0 + (k0 + 3)), .int 0, .int 0, .int 0, .int 0, .int 120]) := by
  unfold kitX
  rw [if_neg (by omega), if_pos rfl]
theorem kx1 : kitX cA a0 k0 X i j l (k0 + 1) = .inl (cA 2, 3, Qr (fun t => if t < i then some (a0 + (k0 + 4 + t)) else none)) := by
  unfold kitX
  rw [if_neg (by omega), if_neg (by omega), if_pos rfl]
theorem kx2 : kitX cA a0 k0 X i j l (k0 + 2) = .inl (cA 3, 6, Qr (fun t => if t < j then some (a0 + (k0 + 7 + t)) else none)) := by
  unfold kitX
  rw [if_neg (by omega), if_neg (by omega), if_neg (by omega), if_pos rfl]
theorem kx3 : kitX cA a0 k0 X i j l (k0 + 3) = .inl (cA 4, 16, Qr (fun t => if t < l then some (a0 + (k0 + 13 + 2 * t)) else none)) := by
  unfold kitX
  rw [if_neg (by omega), if_neg (by omega), if_neg (by omega), if_neg (by omega), if_pos rfl]
theorem kx_r (h : k0 + 3 < q) : kitX cA a0 k0 X i j l q = sh cA (fun k => a0 + k) q (κst q) := by
  unfold kitX
  rw [if_neg (by omega), if_neg (by omega), if_neg (by omega), if_neg (by omega), if_neg (by omega)]
theorem q_up {f : Nat → Nat} {i : Nat} : va_up (fun t => if t < i then some (f t) else none) i (some (f i)) = fun t => if t < i + 1 then some (f t) else none := by
  funext t
  unfold va_up
  by_cases h : t = i
  · subst h
    rw [if_pos rfl, if_pos (by omega)]
  · rw [if_neg h]
    dsimp only
    by_cases h2 : t < i
    · rw [if_pos h2, if_pos (by omega)]
    · rw [if_neg h2, if_neg (by omega)]
end KITX
set_option maxRecDepth 100000 in
set_option maxHeartbeats 4000000 in
theorem ml_X1_init_38 {p : Program} {e : Env} {s : State} {m : MethodId} {below : List Frame} {meth : Method} {c : Code} {Q : State → Prop} (l : Launch) (D : va_G) (cA : Nat → ClassId) (a0 k0 : Nat) (X : Nat → va_E) (hk : kd k0 = 1) (hM : Mk D cA a0 p s m ([.ref (a0 + k0)] : List Value).toArray meth c cX1_init 2 yX1_init.cls) (hsz : s.heap.size = a0 + (k0 + 1)) (hx : ∀ (H : Heap) (locs : List Loc) (ls : Array Slot), lv_has ls 2 [(1, .int (nI 3)), (0, .ref (a0 + k0))] → Gv D a0 (k0 + 4 + 3) (kitX cA a0 k0 X 3 0 0) s H locs → W p l e { frames := 2, cells := 44, slots := 230, locals := 40 } s m ([.ref (a0 + k0)] : List Value).toArray below meth c H locs 6 34 Q (F0 m 66 ls [])) : ∀ (d i : Nat), i + d = 3 → ∀ (H : Heap) (locs : List Loc) (ls : Array Slot), lv_has ls 2 [(1, .int (nI i)), (0, .ref (a0 + k0))] → Gv D a0 (k0 + 4 + i) (kitX cA a0 k0 X i 0 0) s H locs → W p l e { frames := 2, cells := 44, slots := 230, locals := 40 } s m ([.ref (a0 + k0)] : List Value).toArray below meth c H locs (3 + 1 * i) (25 + 3 * i) Q (F0 m 38 ls []) := by
  intro d
  induction d with
  | zero =>
    intro i hi H locs ls hl hG
    have e : i = 3 := by omega
    subst e
    refine lv_iload_n hM.x hM.b dX1_init_38 rfl (lv_at hl 0 rfl) ?_
    refine lv_aload_n hM.x hM.b dX1_init_39 rfl (lv_at hl 1 rfl) ?_
    refine g_get (C := RX1) (T := TX1) (N := 8) hM hG (by omega) kx0 rfl inW1 0 (by decide) u_fl_X1_11 rfl dX1_init_40 ?_
    refine g_alen (N := 3) (j := 2) (v := nI 3) hM hG (by omega) kx1 rfl rfl dX1_init_43 ?_
    refine lv_icmp_ge (tgt := 66) hM.x hM.b dX1_init_44 (by decide) (fun _ => ?_) (fun cz => absurd (nI_le (by omega) (by omega) : nI 3 ≤ nI 3) cz)
    exact hx H locs ls hl hG
  | succ d ih =>
    intro i hi H locs ls hl hG
    refine lv_iload_n hM.x hM.b dX1_init_38 rfl (lv_at hl 0 rfl) ?_
    refine lv_aload_n hM.x hM.b dX1_init_39 rfl (lv_at hl 1 rfl) ?_
    refine g_get (C := RX1) (T := TX1) (N := 8) hM hG (by omega) kx0 rfl inW1 0 (by decide) u_fl_X1_11 rfl dX1_init_40 ?_
    refine g_alen (N := 3) (j := 2) (v := nI 3) hM hG (by omega) kx1 rfl rfl dX1_init_43 ?_
    refine lv_icmp_ge (tgt := 66) hM.x hM.b dX1_init_44 (by decide) (fun cz => absurd cz (nI_ge (by omega) (by decide) : ¬ nI 3 ≤ nI i)) (fun _ => ?_)
    refine lv_aload_n hM.x hM.b dX1_init_47 rfl (lv_at hl 1 rfl) ?_
    refine g_get (C := RX1) (T := TX1) (N := 8) hM hG (by omega) kx0 rfl inW1 0 (by decide) u_fl_X1_11 rfl dX1_init_48 ?_
    refine lv_iload_n hM.x hM.b dX1_init_51 rfl (lv_at hl 0 rfl) ?_
    refine g_new (C := RX0) (T := TX0) (N := 3) (ci := 0) (fs := [.int 0, .int 0, .int 0]) hM hG (by omega) inW0 tyX0 tyX0_ok u_cl_X1_9 u_ins_X0 u_ini_X0 rfl (fun j hj => by match j, hj with | 0, _ => rfl | 1, _ => rfl | 2, _ => rfl) (show 3 + 1 * i + 1 ≤ 44 by omega) (show 25 + 3 * i + 3 ≤ 230 by omega) dX1_init_52 (fun H hG => ?_)
    refine lv_dup hM.x hM.b dX1_init_55 rfl ?_
    refine g_runIN (host := "KitchenSpits") hM hG (by omega) (m_X0_init l D cA a0 _ _ _ ) (by omega) hM.2.1.2.2.1 u_im_X0_init u_ini_X0 u_co_X0_init rfl ⟨by decide +kernel, by decide +kernel, by decide +kernel⟩ rfl rfl ⟨Nat.le_of_ble_eq_true rfl, Nat.le_of_ble_eq_true rfl⟩ hl.1 (Nat.le_of_ble_eq_true rfl) dX1_init_56 ⟨show 3 + 1 * i + 1 + 0 ≤ 44 by omega, show 25 + 3 * i + 3 + 0 ≤ 230 by omega⟩ (fun H locs hG => ?_)
    refine g_astq (r := (RX0, TX0, 3)) (N := 3) (i := i) (j := 2) (ci := 0) hM hG (by omega) ((va_up_ne _ _ (by omega)).trans kx1) rfl (by omega) (va_up_self _ _ _) rfl (by omega) (by decide) dX1_init_59 (fun H locs hG => ?_)
    refine lv_iinc (v := nI (i + 1)) (lv' := [(1, .int (nI (i + 1))), (0, .ref (a0 + k0))]) hM.x hM.b dX1_init_60 hl (k := 0) rfl (nI_1 i) (by decide) rfl (fun ls hl => ?_)
    refine lv_goto (tgt := 38) hM.x hM.b dX1_init_63 (by decide) ?_
    refine W.widen (k := 3 + 1 * (i + 1)) (n := 25 + 3 * (i + 1)) (by omega) (by omega) ?_
    refine ih (i + 1) (by omega) H locs ls hl (Gv.congr (n := k0 + 4 + (i + 1)) hG (fun q hq => ?_))
    by_cases e1 : q = k0 + 1
    · subst e1
      rw [va_up_self, kx1]
      exact congrArg (fun f => (.inl (cA 2, 3, Qr f) : va_E)) q_up
    · rw [va_up_ne _ _ e1]
      by_cases e2 : q = k0 + 4 + i
      · subst e2
        rw [va_up_self, kx_r (by omega), shst0 (kd1_0 hk (by omega))]
      · rw [va_up_ne _ _ e2]
        unfold kitX
        by_cases c0 : q < k0
        · rw [if_pos c0, if_pos c0]
        · rw [if_neg c0, if_neg c0]
          by_cases c1 : q = k0
          · rw [if_pos c1, if_pos c1]
          · rw [if_neg c1, if_neg c1, if_neg e1, if_neg e1]
set_option maxRecDepth 100000 in
set_option maxHeartbeats 4000000 in
theorem ml_X1_init_68 {p : Program} {e : Env} {s : State} {m : MethodId} {below : List Frame} {meth : Method} {c : Code} {Q : State → Prop} (l : Launch) (D : va_G) (cA : Nat → ClassId) (a0 k0 : Nat) (X : Nat → va_E) (hk : kd k0 = 1) (hM : Mk D cA a0 p s m ([.ref (a0 + k0)] : List Value).toArray meth c cX1_init 2 yX1_init.cls) (hsz : s.heap.size = a0 + (k0 + 1)) (hx : ∀ (H : Heap) (locs : List Loc) (ls : Array Slot), lv_has ls 2 [(1, .int (nI 6)), (0, .ref (a0 + k0))] → Gv D a0 (k0 + 7 + 6) (kitX cA a0 k0 X 3 6 0) s H locs → W p l e { frames := 2, cells := 44, slots := 230, locals := 40 } s m ([.ref (a0 + k0)] : List Value).toArray below meth c H locs 12 70 Q (F0 m 96 ls [])) : ∀ (d i : Nat), i + d = 6 → ∀ (H : Heap) (locs : List Loc) (ls : Array Slot), lv_has ls 2 [(1, .int (nI i)), (0, .ref (a0 + k0))] → Gv D a0 (k0 + 7 + i) (kitX cA a0 k0 X 3 i 0) s H locs → W p l e { frames := 2, cells := 44, slots := 230, locals := 40 } s m ([.ref (a0 + k0)] : List Value).toArray below meth c H locs (6 + 1 * i) (34 + 6 * i) Q (F0 m 68 ls []) := by
  intro d
  induction d with
  | zero =>
    intro i hi H locs ls hl hG
    have e : i = 6 := by omega
    subst e
    refine lv_iload_n hM.x hM.b dX1_init_68 rfl (lv_at hl 0 rfl) ?_
    refine lv_aload_n hM.x hM.b dX1_init_69 rfl (lv_at hl 1 rfl) ?_
    refine g_get (C := RX1) (T := TX1) (N := 8) hM hG (by omega) kx0 rfl inW1 1 (by decide) u_fl_X1_19 rfl dX1_init_70 ?_
    refine g_alen (N := 6) (j := 3) (v := nI 6) hM hG (by omega) kx2 rfl rfl dX1_init_73 ?_
    refine lv_icmp_ge (tgt := 96) hM.x hM.b dX1_init_74 (by decide) (fun _ => ?_) (fun cz => absurd (nI_le (by omega) (by omega) : nI 6 ≤ nI 6) cz)
    exact hx H locs ls hl hG
  | succ d ih =>
    intro i hi H locs ls hl hG
    refine lv_iload_n hM.x hM.b dX1_init_68 rfl (lv_at hl 0 rfl) ?_
    refine lv_aload_n hM.x hM.b dX1_init_69 rfl (lv_at hl 1 rfl) ?_
    refine g_get (C := RX1) (T := TX1) (N := 8) hM hG (by omega) kx0 rfl inW1 1 (by decide) u_fl_X1_19 rfl dX1_init_70 ?_
    refine g_alen (N := 6) (j := 3) (v := nI 6) hM hG (by omega) kx2 rfl rfl dX1_init_73 ?_
    refine lv_icmp_ge (tgt := 96) hM.x hM.b dX1_init_74 (by decide) (fun cz => absurd cz (nI_ge (by omega) (by decide) : ¬ nI 6 ≤ nI i)) (fun _ => ?_)
    refine lv_aload_n hM.x hM.b dX1_init_77 rfl (lv_at hl 1 rfl) ?_
    refine g_get (C := RX1) (T := TX1) (N := 8) hM hG (by omega) kx0 rfl inW1 1 (by decide) u_fl_X1_19 rfl dX1_init_78 ?_
    refine lv_iload_n hM.x hM.b dX1_init_81 rfl (lv_at hl 0 rfl) ?_
    refine g_new (C := RX3) (T := TX3) (N := 6) (ci := 3) (fs := [.int 0, .int 0, .int 0, .int 0, .int 0, .int 0]) hM hG (by omega) inW3 tyX3 tyX3_ok u_cl_X1_17 u_ins_X3 u_ini_X3 rfl (fun j hj => by match j, hj with | 0, _ => rfl | 1, _ => rfl | 2, _ => rfl | 3, _ => rfl | 4, _ => rfl | 5, _ => rfl) (show 6 + 1 * i + 1 ≤ 44 by omega) (show 34 + 6 * i + 6 ≤ 230 by omega) dX1_init_82 (fun H hG => ?_)
    refine lv_dup hM.x hM.b dX1_init_85 rfl ?_
    refine g_runIN (host := "KitchenSpits") hM hG (by omega) (m_X3_init l D cA a0 _ _ _ (by omega) (va_up_self _ _ _)) (by omega) hM.2.1.2.2.2.1 u_im_X3_init u_ini_X3 u_co_X3_init rfl ⟨by decide +kernel, by decide +kernel, by decide +kernel⟩ rfl rfl ⟨Nat.le_of_ble_eq_true rfl, Nat.le_of_ble_eq_true rfl⟩ hl.1 (Nat.le_of_ble_eq_true rfl) dX1_init_86 ⟨show 6 + 1 * i + 1 + 0 ≤ 44 by omega, show 34 + 6 * i + 6 + 0 ≤ 230 by omega⟩ (fun H locs hG => ?_)
    refine g_astq (r := (RX3, TX3, 6)) (N := 6) (i := i) (j := 3) (ci := 3) hM hG (by omega) ((va_up_ne _ _ (by omega)).trans ((va_up_ne _ _ (by omega)).trans kx2)) rfl (by omega) (va_up_self _ _ _) rfl (by omega) (by decide) dX1_init_89 (fun H locs hG => ?_)
    refine lv_iinc (v := nI (i + 1)) (lv' := [(1, .int (nI (i + 1))), (0, .ref (a0 + k0))]) hM.x hM.b dX1_init_90 hl (k := 0) rfl (nI_1 i) (by decide) rfl (fun ls hl => ?_)
    refine lv_goto (tgt := 68) hM.x hM.b dX1_init_93 (by decide) ?_
    refine W.widen (k := 6 + 1 * (i + 1)) (n := 34 + 6 * (i + 1)) (by omega) (by omega) ?_
    refine ih (i + 1) (by omega) H locs ls hl (Gv.congr (n := k0 + 7 + (i + 1)) hG (fun q hq => ?_))
    by_cases e1 : q = k0 + 2
    · subst e1
      rw [va_up_self, kx2]
      exact congrArg (fun f => (.inl (cA 3, 6, Qr f) : va_E)) q_up
    · rw [va_up_ne _ _ e1]
      by_cases e2 : q = k0 + 7 + i
      · subst e2
        rw [va_up_self, kx_r (by omega), shst3 (kd1_3 hk (by omega))]
      · rw [va_up_ne _ _ e2, va_up_ne _ _ e2]
        unfold kitX
        by_cases c0 : q < k0
        · rw [if_pos c0, if_pos c0]
        · rw [if_neg c0, if_neg c0]
          by_cases c1 : q = k0
          · rw [if_pos c1, if_pos c1]
          · rw [if_neg c1, if_neg c1]
            by_cases c2 : q = k0 + 1
            · rw [if_pos c2, if_pos c2]
            · rw [if_neg c2, if_neg c2, if_neg e1, if_neg e1]
set_option maxRecDepth 100000 in
set_option maxHeartbeats 4000000 in
theorem ml_X1_init_98 {p : Program} {e : Env} {s : State} {m : MethodId} {below : List Frame} {meth : Method} {c : Code} {Q : State → Prop} (l : Launch) (D : va_G) (cA : Nat → ClassId) (a0 k0 : Nat) (X : Nat → va_E) (hk : kd k0 = 1) (hM : Mk D cA a0 p s m ([.ref (a0 + k0)] : List Value).toArray meth c cX1_init 2 yX1_init.cls) (hsz : s.heap.size = a0 + (k0 + 1)) (hx : ∀ (H : Heap) (locs : List Loc) (ls : Array Slot), lv_has ls 2 [(1, .int (nI 16)), (0, .ref (a0 + k0))] → Gv D a0 (k0 + 13 + 2 * 16) (kitX cA a0 k0 X 3 6 16) s H locs → W p l e { frames := 2, cells := 44, slots := 230, locals := 40 } s m ([.ref (a0 + k0)] : List Value).toArray below meth c H locs 44 230 Q (F0 m 126 ls [])) : ∀ (d i : Nat), i + d = 16 → ∀ (H : Heap) (locs : List Loc) (ls : Array Slot), lv_has ls 2 [(1, .int (nI i)), (0, .ref (a0 + k0))] → Gv D a0 (k0 + 13 + 2 * i) (kitX cA a0 k0 X 3 6 i) s H locs → W p l e { frames := 2, cells := 44, slots := 230, locals := 40 } s m ([.ref (a0 + k0)] : List Value).toArray below meth c H locs (12 + 2 * i) (70 + 10 * i) Q (F0 m 98 ls []) := by
  intro d
  induction d with
  | zero =>
    intro i hi H locs ls hl hG
    have e : i = 16 := by omega
    subst e
    refine lv_iload_n hM.x hM.b dX1_init_98 rfl (lv_at hl 0 rfl) ?_
    refine lv_aload_n hM.x hM.b dX1_init_99 rfl (lv_at hl 1 rfl) ?_
    refine g_get (C := RX1) (T := TX1) (N := 8) hM hG (by omega) kx0 rfl inW1 2 (by decide) u_fl_X1_25 rfl dX1_init_100 ?_
    refine g_alen (N := 16) (j := 4) (v := nI 16) hM hG (by omega) kx3 rfl rfl dX1_init_103 ?_
    refine lv_icmp_ge (tgt := 126) hM.x hM.b dX1_init_104 (by decide) (fun _ => ?_) (fun cz => absurd (nI_le (by omega) (by omega) : nI 16 ≤ nI 16) cz)
    exact hx H locs ls hl hG
  | succ d ih =>
    intro i hi H locs ls hl hG
    refine lv_iload_n hM.x hM.b dX1_init_98 rfl (lv_at hl 0 rfl) ?_
    refine lv_aload_n hM.x hM.b dX1_init_99 rfl (lv_at hl 1 rfl) ?_
    refine g_get (C := RX1) (T := TX1) (N := 8) hM hG (by omega) kx0 rfl inW1 2 (by decide) u_fl_X1_25 rfl dX1_init_100 ?_
    refine g_alen (N := 16) (j := 4) (v := nI 16) hM hG (by omega) kx3 rfl rfl dX1_init_103 ?_
    refine lv_icmp_ge (tgt := 126) hM.x hM.b dX1_init_104 (by decide) (fun cz => absurd cz (nI_ge (by omega) (by decide) : ¬ nI 16 ≤ nI i)) (fun _ => ?_)
    refine lv_aload_n hM.x hM.b dX1_init_107 rfl (lv_at hl 1 rfl) ?_
    refine g_get (C := RX1) (T := TX1) (N := 8) hM hG (by omega) kx0 rfl inW1 2 (by decide) u_fl_X1_25 rfl dX1_init_108 ?_
    refine lv_iload_n hM.x hM.b dX1_init_111 rfl (lv_at hl 0 rfl) ?_
    refine g_new (C := RX2) (T := TX2) (N := 6) (ci := 2) (fs := [.null, .int 0, .int 0, .int 0, .int 0, .int 0]) hM hG (by omega) inW2 tyX2 tyX2_ok u_cl_X1_23 u_ins_X2 u_ini_X2 rfl (fun j hj => by match j, hj with | 0, _ => rfl | 1, _ => rfl | 2, _ => rfl | 3, _ => rfl | 4, _ => rfl | 5, _ => rfl) (show 12 + 2 * i + 1 ≤ 44 by omega) (show 70 + 10 * i + 6 ≤ 230 by omega) dX1_init_112 (fun H hG => ?_)
    refine lv_dup hM.x hM.b dX1_init_115 rfl ?_
    refine g_runIN (host := "KitchenSpits") hM hG (by omega) (m_X2_init l D cA a0 _ _ _ (by omega) (va_up_self _ _ _)) (by omega) hM.2.1.2.2.2.2 u_im_X2_init u_ini_X2 u_co_X2_init rfl ⟨by decide +kernel, by decide +kernel, by decide +kernel⟩ rfl rfl ⟨Nat.le_of_ble_eq_true rfl, Nat.le_of_ble_eq_true rfl⟩ hl.1 (Nat.le_of_ble_eq_true rfl) dX1_init_116 ⟨show 12 + 2 * i + 1 + 1 ≤ 44 by omega, show 70 + 10 * i + 6 + 4 ≤ 230 by omega⟩ (fun H locs hG => ?_)
    refine g_astq (r := (RX2, TX2, 6)) (N := 16) (i := i) (j := 4) (ci := 2) hM hG (by omega) ((va_up_ne _ _ (by omega)).trans ((va_up_ne _ _ (by omega)).trans ((va_up_ne _ _ (by omega)).trans kx3))) rfl (by omega) (va_up_self _ _ _) rfl (by omega) (by decide) dX1_init_119 (fun H locs hG => ?_)
    refine lv_iinc (v := nI (i + 1)) (lv' := [(1, .int (nI (i + 1))), (0, .ref (a0 + k0))]) hM.x hM.b dX1_init_120 hl (k := 0) rfl (nI_1 i) (by decide) rfl (fun ls hl => ?_)
    refine lv_goto (tgt := 98) hM.x hM.b dX1_init_123 (by decide) ?_
    refine W.widen (k := 12 + 2 * (i + 1)) (n := 70 + 10 * (i + 1)) (by omega) (by omega) ?_
    refine ih (i + 1) (by omega) H locs ls hl (Gv.congr (n := k0 + 13 + 2 * (i + 1)) hG (fun q hq => ?_))
    by_cases e1 : q = k0 + 3
    · subst e1
      rw [va_up_self, kx3]
      exact congrArg (fun f => (.inl (cA 4, 16, Qr f) : va_E)) (q_up (f := fun t => a0 + (k0 + 13 + 2 * t)))
    · rw [va_up_ne _ _ e1]
      by_cases e2 : q = k0 + 13 + 2 * i
      · subst e2
        rw [va_up_self, kx_r (by omega), shst2 (kd1_2 hk (by omega))]
      · rw [va_up_ne _ _ e2]
        by_cases e3 : q = k0 + 13 + 2 * i + 1
        · subst e3
          rw [va_up_self, kx_r (by omega), shst6 (kd2_6 (kd1_2 hk (by omega)))]
        · rw [va_up_ne _ _ e3, va_up_ne _ _ e2]
          unfold kitX
          by_cases c0 : q < k0
          · rw [if_pos c0, if_pos c0]
          · rw [if_neg c0, if_neg c0]
            by_cases c1 : q = k0
            · rw [if_pos c1, if_pos c1]
            · rw [if_neg c1, if_neg c1]
              by_cases c2 : q = k0 + 1
              · rw [if_pos c2, if_pos c2]
              · rw [if_neg c2, if_neg c2]
                by_cases c3 : q = k0 + 2
                · rw [if_pos c3, if_pos c3]
                · rw [if_neg c3, if_neg c3, if_neg e1, if_neg e1]
end
section
theorem q_0 {f : Nat → Nat} : (fun t => if t < 0 then some (f t) else none) = (fun _ => none : Nat → Option Nat) := by
  funext t
  rw [if_neg (by omega)]
/-- a kitchen made: at k0 and behind it all as at the start -/
def kitF (cA : Nat → ClassId) (a0 k0 : Nat) (X : Nat → va_E) : Nat → va_E := fun q => if q < k0 then X q else sh cA (fun k => a0 + k) q (κst q)
set_option maxRecDepth 100000 in
set_option maxHeartbeats 4000000 in
theorem m_X1_init (l : Launch) (D : va_G) (cA : Nat → ClassId) (a0 k0 : Nat) (X : Nat → va_E) (hk : kd k0 = 1) (hX : X k0 = .inr (1, [.null, .null, .null, .int 0, .int 0, .int 0, .int 0, .int 0])) : Met l yX1_init (.code yX1_init cX1_init 2 none :: uW) { frames := 2, cells := 44, slots := 230, locals := 40 } (PC D cA a0 (k0 + 1) X [.ref (a0 + k0)]) (PQ D a0 (k0 + 45) (kitF cA a0 k0 X)) 44 230 (fun q => a0 ≤ q) := by
  refine g_enter (by decide +kernel) rfl (Nat.le_of_ble_eq_true rfl) ?_
  intro p e s m below meth c ls hM hr hl hG hsz
  have hl : lv_has ls 2 [(0, .ref (a0 + k0))] := hl
  refine lv_aload_n hM.x hM.b dX1_init_0 rfl (lv_at hl 0 rfl) ?_
  refine g_obj hM u_ml_X1_3 hl.1 dX1_init_1 (Nat.le_of_ble_eq_true rfl) (Nat.le_of_ble_eq_true rfl) ?_
  refine lv_aload_n hM.x hM.b dX1_init_4 rfl (lv_at hl 0 rfl) ?_
  refine lv_iconst (v := 3) hM.x hM.b dX1_init_5 (by decide) ?_
  refine g_newq (N := 3) (j := 2) hM hG (by omega) rfl (by decide) u_cl_X1_9 hM.2.1.2.1.1 rfl (Nat.le_of_ble_eq_true rfl) (Nat.le_of_ble_eq_true rfl) dX1_init_6 (fun H hG => ?_)
  refine g_putF (C := RX1) (T := TX1) (N := 8) (ty := .array (.object "KitchenSpits$Fire")) hM (by decide +kernel) hG (by omega) ((va_up_ne _ _ (by omega)).trans hX) rfl inW1 tyX1 tyX1_ok nmX1 0 (by decide) u_fl_X1_11 rfl rfl (tyX1_ok 0 (by decide)) rfl rfl (Nat.le_of_ble_eq_true rfl) dX1_init_9 (fun H locs hG => ?_)
  refine lv_aload_n hM.x hM.b dX1_init_12 rfl (lv_at hl 0 rfl) ?_
  refine lv_bipush (v := 6) hM.x hM.b dX1_init_13 (by decide) ?_
  refine g_newq (N := 6) (j := 3) hM hG (by omega) rfl (by decide) u_cl_X1_17 hM.2.1.2.1.2.1 rfl (Nat.le_of_ble_eq_true rfl) (Nat.le_of_ble_eq_true rfl) dX1_init_15 (fun H hG => ?_)
  refine g_putF (C := RX1) (T := TX1) (N := 8) (ty := .array (.object "KitchenSpits$Spit")) hM (by decide +kernel) hG (by omega) ((va_up_ne _ _ (by omega)).trans (va_up_self _ _ _)) rfl inW1 tyX1 tyX1_ok nmX1 1 (by decide) u_fl_X1_19 rfl rfl (tyX1_ok 1 (by decide)) rfl rfl (Nat.le_of_ble_eq_true rfl) dX1_init_18 (fun H locs hG => ?_)
  refine lv_aload_n hM.x hM.b dX1_init_21 rfl (lv_at hl 0 rfl) ?_
  refine lv_bipush (v := 16) hM.x hM.b dX1_init_22 (by decide) ?_
  refine g_newq (N := 16) (j := 4) hM hG (by omega) rfl (by decide) u_cl_X1_23 hM.2.1.2.1.2.2 rfl (Nat.le_of_ble_eq_true rfl) (Nat.le_of_ble_eq_true rfl) dX1_init_24 (fun H hG => ?_)
  refine g_putF (C := RX1) (T := TX1) (N := 8) (ty := .array (.object "KitchenSpits$Roast")) hM (by decide +kernel) hG (by omega) ((va_up_ne _ _ (by omega)).trans (va_up_self _ _ _)) rfl inW1 tyX1 tyX1_ok nmX1 2 (by decide) u_fl_X1_25 rfl rfl (tyX1_ok 2 (by decide)) rfl rfl (Nat.le_of_ble_eq_true rfl) dX1_init_27 (fun H locs hG => ?_)
  refine lv_aload_n hM.x hM.b dX1_init_30 rfl (lv_at hl 0 rfl) ?_
  refine lv_bipush (v := 120) hM.x hM.b dX1_init_31 (by decide) ?_
  refine g_put (C := RX1) (T := TX1) (N := 8) (ty := .int) hM hG (by omega) (va_up_self _ _ _) rfl inW1 tyX1 tyX1_ok nmX1 7 (by decide) u_fl_X1_29 rfl (tyX1_ok 7 (by decide)) rfl rfl (Nat.le_of_ble_eq_true rfl) dX1_init_33 (fun H locs hG => ?_)
  refine lv_iconst (v := 0) hM.x hM.b dX1_init_36 (by decide) ?_
  refine lv_istore_n (lv' := [(1, .int (nI 0)), (0, .ref (a0 + k0))]) hM.x hM.b dX1_init_37 rfl hl (by decide) rfl (fun ls hl => ?_)
  refine ml_X1_init_38 l D cA a0 k0 X hk hM hsz (fun H locs ls hl hG => ?_) 3 0 rfl H locs ls hl (Gv.congr (n := k0 + 4 + 0) hG (fun q hq => ?_))
  · refine lv_iconst (v := 0) hM.x hM.b dX1_init_66 (by decide) ?_
    refine lv_istore_n (lv' := [(1, .int (nI 0)), (0, .ref (a0 + k0))]) hM.x hM.b dX1_init_67 rfl hl (by decide) rfl (fun ls hl => ?_)
    refine ml_X1_init_68 l D cA a0 k0 X hk hM hsz (fun H locs ls hl hG => ?_) 6 0 rfl H locs ls hl hG
    refine lv_iconst (v := 0) hM.x hM.b dX1_init_96 (by decide) ?_
    refine lv_istore_n (lv' := [(1, .int (nI 0)), (0, .ref (a0 + k0))]) hM.x hM.b dX1_init_97 rfl hl (by decide) rfl (fun ls hl => ?_)
    refine ml_X1_init_98 l D cA a0 k0 X hk hM hsz (fun H locs ls hl hG => ?_) 16 0 rfl H locs ls hl hG
    have h1 := Gv.row (f' := fun t => if t < 3 then some (a0 + (k0 + 1 + 3 + t)) else none) hG kx1 (fun t ht => rfl)
    have h2 := Gv.row (f' := fun t => if t < 6 then some (a0 + (k0 + 2 + 5 + t)) else none) h1 ((va_up_ne _ _ (by omega)).trans kx2) (fun t ht => rfl)
    have h3 := Gv.row (f' := fun t => if t < 16 then some (a0 + (k0 + 3 + 10 + 2 * t)) else none) h2 ((va_up_ne _ _ (by omega)).trans ((va_up_ne _ _ (by omega)).trans kx3)) (fun t ht => rfl)
    refine g_vret hM hr (Gv.congr (n := k0 + 45) h3 (fun q hq => ?_)) (Nat.le_refl _) (Nat.le_refl _) dX1_init_126
    unfold kitF
    by_cases c0 : q < k0
    · rw [va_up_ne _ _ (by omega), va_up_ne _ _ (by omega), va_up_ne _ _ (by omega), kx_lt c0, if_pos c0]
    · rw [if_neg c0]
      by_cases c3 : q = k0 + 3
      · subst c3
        rw [va_up_self, sh9 (kd1_9 hk)]
      · rw [va_up_ne _ _ c3]
        by_cases c2 : q = k0 + 2
        · subst c2
          rw [va_up_self, sh8 (kd1_8 hk)]
        · rw [va_up_ne _ _ c2]
          by_cases c1 : q = k0 + 1
          · subst c1
            rw [va_up_self, sh7 (kd1_7 hk)]
          · rw [va_up_ne _ _ c1]
            by_cases c4 : q = k0
            · subst c4
              rw [kx0, shst1 hk]
            · rw [kx_r (by omega)]
  · by_cases c0 : q = k0
    · subst c0
      rw [va_up_self, kx0]
      rfl
    · rw [va_up_ne _ _ c0, va_up_ne _ _ c0]
      by_cases c3 : q = k0 + 3
      · subst c3
        rw [show k0 + 3 = k0 + 1 + 1 + 1 from rfl, va_up_self]
        exact (kx3.trans (congrArg (fun f => (.inl (cA 4, 16, Qr f) : va_E)) q_0)).symm
      · rw [va_up_ne _ _ (by omega), va_up_ne _ _ c0]
        by_cases c2 : q = k0 + 2
        · subst c2
          rw [show k0 + 2 = k0 + 1 + 1 from rfl, va_up_self]
          exact (kx2.trans (congrArg (fun f => (.inl (cA 3, 6, Qr f) : va_E)) q_0)).symm
        · rw [va_up_ne _ _ (by omega), va_up_ne _ _ c0]
          by_cases c1 : q = k0 + 1
          · subst c1
            rw [va_up_self]
            exact (kx1.trans (congrArg (fun f => (.inl (cA 2, 3, Qr f) : va_E)) q_0)).symm
          · rw [va_up_ne _ _ c1, kx_lt (by omega)]
/-- the class's object, its two kitchens -/
def objF (cA : Nat → ClassId) (a0 : Nat) : Nat → va_E := fun q => sh cA (fun k => a0 + k) q (κst q)
set_option maxRecDepth 100000 in
set_option maxHeartbeats 4000000 in
theorem m_X4_init (l : Launch) (D : va_G) (cA : Nat → ClassId) (a0 : Nat) (X : Nat → va_E) (hX : X 0 = .inr (4, [.null, .null])) : Met l yX4_init (.code yX4_init cX4_init 1 none :: uW) { frames := 3, cells := 90, slots := 476, locals := 61 } (PC D cA a0 1 X [.ref (a0 + 0)]) (PQ D a0 91 (objF cA a0)) 90 476 (fun q => a0 ≤ q) := by
  refine g_enter (by decide +kernel) rfl (Nat.le_of_ble_eq_true rfl) ?_
  intro p e s m below meth c ls hM hr hl hG hsz
  have hl : lv_has ls 1 [(0, .ref (a0 + 0))] := hl
  refine lv_aload_n hM.x hM.b dX4_init_0 rfl (lv_at hl 0 rfl) ?_
  refine g_obj hM u_ml_X4_1 hl.1 dX4_init_1 (Nat.le_of_ble_eq_true rfl) (Nat.le_of_ble_eq_true rfl) ?_
  refine lv_aload_n hM.x hM.b dX4_init_4 rfl (lv_at hl 0 rfl) ?_
  refine g_new (C := RX1) (T := TX1) (N := 8) (ci := 1) (fs := [.null, .null, .null, .int 0, .int 0, .int 0, .int 0, .int 0]) hM hG (by omega) inW1 tyX1 tyX1_ok u_cl_X4_7 u_ins_X1 u_ini_X1 rfl (fun j hj => by match j, hj with | 0, _ => rfl | 1, _ => rfl | 2, _ => rfl | 3, _ => rfl | 4, _ => rfl | 5, _ => rfl | 6, _ => rfl | 7, _ => rfl) (Nat.le_of_ble_eq_true rfl) (Nat.le_of_ble_eq_true rfl) dX4_init_5 (fun H hG => ?_)
  refine lv_dup hM.x hM.b dX4_init_8 rfl ?_
  refine g_runI hM hG (by omega) (m_X1_init l D cA a0 1 _ kd_1 (va_up_self _ _ _)) (by decide) u_ml_X4_9 u_im_X1_init u_ini_X1 u_co_X1_init rfl ⟨by decide +kernel, by decide +kernel, by decide +kernel⟩ rfl rfl ⟨Nat.le_of_ble_eq_true rfl, Nat.le_of_ble_eq_true rfl⟩ hl.1 (Nat.le_of_ble_eq_true rfl) dX4_init_9 ⟨Nat.le_of_ble_eq_true rfl, Nat.le_of_ble_eq_true rfl⟩ (fun H locs hG => ?_)
  have hX0 : kitF cA a0 1 (va_up X 1 (.inr (1, [.null, .null, .null, .int 0, .int 0, .int 0, .int 0, .int 0]))) 0 = .inr (4, [.null, .null]) := by
    unfold kitF
    rw [if_pos (by decide), va_up_ne _ _ (by decide)]; exact hX
  refine g_putF (C := RX4) (T := TX4) (N := 2) (ty := .object "KitchenSpits$Kitchen") hM (by decide +kernel) hG (by decide) hX0 rfl inW4 tyX4 tyX4_ok nmX4 0 (by decide) u_fl_X4_10 rfl rfl (tyX4_ok 0 (by decide)) rfl rfl (Nat.le_of_ble_eq_true rfl) dX4_init_12 (fun H locs hG => ?_)
  refine lv_aload_n hM.x hM.b dX4_init_15 rfl (lv_at hl 0 rfl) ?_
  refine g_new (C := RX1) (T := TX1) (N := 8) (ci := 1) (fs := [.null, .null, .null, .int 0, .int 0, .int 0, .int 0, .int 0]) hM hG (by omega) inW1 tyX1 tyX1_ok u_cl_X4_7 u_ins_X1 u_ini_X1 rfl (fun j hj => by match j, hj with | 0, _ => rfl | 1, _ => rfl | 2, _ => rfl | 3, _ => rfl | 4, _ => rfl | 5, _ => rfl | 6, _ => rfl | 7, _ => rfl) (Nat.le_of_ble_eq_true rfl) (Nat.le_of_ble_eq_true rfl) dX4_init_16 (fun H hG => ?_)
  refine lv_dup hM.x hM.b dX4_init_19 rfl ?_
  refine g_runI hM hG (by omega) (m_X1_init l D cA a0 46 _ kd_46 (va_up_self _ _ _)) (by decide) u_ml_X4_9 u_im_X1_init u_ini_X1 u_co_X1_init rfl ⟨by decide +kernel, by decide +kernel, by decide +kernel⟩ rfl rfl ⟨Nat.le_of_ble_eq_true rfl, Nat.le_of_ble_eq_true rfl⟩ hl.1 (Nat.le_of_ble_eq_true rfl) dX4_init_20 ⟨Nat.le_of_ble_eq_true rfl, Nat.le_of_ble_eq_true rfl⟩ (fun H locs hG => ?_)
  generalize hY : kitF cA a0 1 (va_up X 1 (.inr (1, [.null, .null, .null, .int 0, .int 0, .int 0, .int 0, .int 0]))) = Y at hG
  have hX1 : kitF cA a0 46 (va_up (va_up Y 0 (.inr (4, ([.null, .null] : List Value).set 0 (.ref (a0 + 1))))) 46 (.inr (1, [.null, .null, .null, .int 0, .int 0, .int 0, .int 0, .int 0]))) 0 = .inr (4, [.ref (a0 + 1), .null]) := by
    unfold kitF
    rw [if_pos (by decide), va_up_ne _ _ (by decide), va_up_self]
    rfl
  refine g_putF (C := RX4) (T := TX4) (N := 2) (ty := .object "KitchenSpits$Kitchen") hM (by decide +kernel) hG (by decide) hX1 rfl inW4 tyX4 tyX4_ok nmX4 1 (by decide) u_fl_X4_16 rfl rfl (tyX4_ok 1 (by decide)) rfl rfl (Nat.le_of_ble_eq_true rfl) dX4_init_23 (fun H locs hG => ?_)
  refine g_vret hM hr (Gv.congr (n := 91) hG (fun q hq => ?_)) (Nat.le_of_ble_eq_true rfl) (Nat.le_of_ble_eq_true rfl) dX4_init_26
  unfold objF
  by_cases c0 : q = 0
  · subst c0
    rw [va_up_self, sh4 kd_0]
    rfl
  · rw [va_up_ne _ _ c0]
    unfold kitF
    by_cases c1 : q < 46
    · rw [if_pos c1, va_up_ne _ _ (by omega), va_up_ne _ _ c0, ← hY]
      unfold kitF
      rw [if_neg (by omega)]
    · rw [if_neg c1]
end
section
/-! THE LAW MAKES CELLS: a world with one cell more, with some cells less, with a row in another's place. -/
theorem wl_at {D : va_G} {c : Nat → ClassId} {ad : Nat → Nat} {L : List Nat} {κ : Kp} {H : Heap} : va_P D vwCl (wl c ad L κ) H ↔ ∀ k ∈ L, va_at D vwCl (ad k, sh c ad k (κ k)) H := by
  constructor
  · intro h k hk
    exact h (L.idxOf k) _ (wl_get hk)
  · intro h i q hq
    obtain ⟨k, h1, rfl⟩ := wl_lt hq
    exact h k (List.mem_of_getElem? h1)
theorem app_at {D : va_G} {ws : va_W} {x : Nat × va_E} {H : Heap} (h : va_P D vwCl (ws ++ [x]) H) : va_P D vwCl ws H ∧ va_at D vwCl x H := by
  refine ⟨fun i q hq => h i q ?_, h ws.length x ?_⟩
  · rw [List.getElem?_append_left (List.getElem?_eq_some_iff.mp hq).1]; exact hq
  · rw [List.getElem?_append_right (Nat.le_refl _), Nat.sub_self]; rfl
theorem app_D {A : Nat → Prop} {ws : va_W} {x : Nat × va_E} (h : va_D A (ws ++ [x])) : A x.1 ∧ ∀ (i : Nat) (q : Nat × va_E), ws[i]? = some q → q.1 ≠ x.1 := by
  have hx : (ws ++ [x])[ws.length]? = some x := by
    rw [List.getElem?_append_right (Nat.le_refl _), Nat.sub_self]; rfl
  refine ⟨h.2 _ _ hx, fun i q hq e => ?_⟩
  have hi := (List.getElem?_eq_some_iff.mp hq).1
  have := h.1 i ws.length q x (by rw [List.getElem?_append_left hi]; exact hq) hx e
  omega
/-- what a cell's content looks up among the addresses -/
def dep (ad : Nat → Nat) (k : Nat) (r : Nat → Int32) (x : Nat) : Prop := match kd k with
  | 1 => x = k + 1 ∨ x = k + 2 ∨ x = k + 3
  | 2 => x = k + 1
  | 4 => x = k + 1 ∨ x = k + 46
  | 7 => ∃ i, i < 3 ∧ x = k + 3 + i
  | 8 => ∃ i, i < 6 ∧ x = k + 5 + i
  | 9 => ∃ i, i < 16 ∧ x = k + 10 + 2 * i
  | 15 => x = k + 1 ∨ x = k + 2 ∨ x = k + 3
  | 16 => x = 1000 + k ∨ ∃ i, i < ad (1000 + k) ∧ x = k + 3 + i
  | 17 => x = 1000 + k ∨ ∃ i, i < ad (1000 + k) ∧ x = k + 5 + i
  | 18 => x = 1000 + k ∨ ∃ i, i < ad (1000 + k) ∧ x = k + 10 + 2 * i
  | 21 => x = k + 1
  | 22 => x = 1000 + k ∨ ∃ i, i < ad (1000 + k) ∧ x = k + 1 + i
  | 23 => x = 1000 + k
  | 24 => x = 1000 + k
  | 25 => x = 1000 + k ∨ ∃ i, i < (r 0).toNatClampNeg ∧ x = 104 + 2 * i
  | 26 => x = 1000 + k ∨ ∃ i, i < (r 0).toNatClampNeg ∧ x = (r 1).toNatClampNeg + i
  | _ => False
theorem qr_congr {n : Nat} {f g : Nat → Nat} (h : ∀ i, i < n → f i = g i) : (fun i => if i < n then some (f i) else none) = (fun i => if i < n then some (g i) else none) := by
  funext i
  by_cases c : i < n
  · rw [if_pos c, if_pos c, h i c]
  · rw [if_neg c, if_neg c]
theorem sh_congr {c : Nat → ClassId} {ad ad' : Nat → Nat} {k : Nat} {r : Nat → Int32} (h : ∀ x, dep ad k r x → ad' x = ad x) : sh c ad' k r = sh c ad k r := by
  unfold dep at h
  unfold sh
  generalize kd k = n at h ⊢
  match n, h with
  | 0, h => rfl
  | 1, h => rw [h _ (Or.inl rfl), h _ (Or.inr (Or.inl rfl)), h _ (Or.inr (Or.inr rfl))]; rfl
  | 2, h => rw [h _ rfl]; rfl
  | 3, h => rfl
  | 4, h => rw [h _ (Or.inl rfl), h _ (Or.inr rfl)]; rfl
  | 5, h => rfl
  | 6, h => rfl
  | 7, h => rw [qr_congr (fun i hi => h _ ⟨i, hi, rfl⟩)]; rfl
  | 8, h => rw [qr_congr (fun i hi => h _ ⟨i, hi, rfl⟩)]; rfl
  | 9, h => rw [qr_congr (fun i hi => h _ ⟨i, hi, rfl⟩)]; rfl
  | 10, h => rfl
  | 11, h => rfl
  | 12, h => rfl
  | 13, h => rfl
  | 14, h => rfl
  | 15, h => rw [h _ (Or.inl rfl), h _ (Or.inr (Or.inl rfl)), h _ (Or.inr (Or.inr rfl))]; rfl
  | 16, h => rw [h _ (Or.inl rfl), qr_congr (fun i hi => h _ (Or.inr ⟨i, hi, rfl⟩))]; rfl
  | 17, h => rw [h _ (Or.inl rfl), qr_congr (fun i hi => h _ (Or.inr ⟨i, hi, rfl⟩))]; rfl
  | 18, h => rw [h _ (Or.inl rfl), qr_congr (fun i hi => h _ (Or.inr ⟨i, hi, rfl⟩))]; rfl
  | 19, h => rfl
  | 20, h => rfl
  | 21, h => rw [h _ rfl]; rfl
  | 22, h => rw [h _ (Or.inl rfl), qr_congr (fun i hi => h _ (Or.inr ⟨i, hi, rfl⟩))]; rfl
  | 23, h => rw [h _ rfl]; rfl
  | 24, h => rw [h _ rfl]; rfl
  | 25, h => rw [h _ (Or.inl rfl), qr_congr (fun i hi => h _ (Or.inr ⟨i, hi, rfl⟩))]; rfl
  | 26, h => rw [h _ (Or.inl rfl), qr_congr (fun i hi => h _ (Or.inr ⟨i, hi, rfl⟩))]; rfl
  | 27, h => rfl
  | n + 28, h => rfl
/-- the class's cells look among themselves -/
theorem dep_class {ad : Nat → Nat} {k : Nat} {r : Nat → Int32} {x : Nat} (hk : k < 91) (h : dep ad k r x) : x < 91 := by
  have h1 : ∀ k, k < 91 → (kd k = 1 → k + 3 < 91) ∧ (kd k = 2 → k + 1 < 91) ∧ (kd k = 4 → k + 46 < 91) ∧ (kd k = 7 → k + 5 < 91) ∧ (kd k = 8 → k + 10 < 91) ∧ (kd k = 9 → k + 40 < 91) ∧ kd k < 15 := by decide +kernel
  obtain ⟨a1, a2, a4, a7, a8, a9, a15⟩ := h1 k hk
  unfold dep at h
  generalize kd k = n at h a1 a2 a4 a7 a8 a9 a15
  match n, h, a15 with
  | 0, h, _ => exact h.elim
  | 1, h, _ => have := a1 rfl; replace h : x = k + 1 ∨ x = k + 2 ∨ x = k + 3 := h; omega
  | 2, h, _ => have := a2 rfl; replace h : x = k + 1 := h; omega
  | 3, h, _ => exact h.elim
  | 4, h, _ => have := a4 rfl; replace h : x = k + 1 ∨ x = k + 46 := h; omega
  | 5, h, _ => exact h.elim
  | 6, h, _ => exact h.elim
  | 7, h, _ => have := a7 rfl; obtain ⟨i, hi, rfl⟩ := h; omega
  | 8, h, _ => have := a8 rfl; obtain ⟨i, hi, rfl⟩ := h; omega
  | 9, h, _ => have := a9 rfl; obtain ⟨i, hi, rfl⟩ := h; omega
  | 10, h, _ => exact h.elim
  | 11, h, _ => exact h.elim
  | 12, h, _ => exact h.elim
  | 13, h, _ => exact h.elim
  | 14, h, _ => exact h.elim
  | n + 15, h, q => omega
/-- the law's world: nf fires, ns spits, nr roasts, and the cells T besides -/
def Lm (L : List Nat) (ad : Nat → Nat) (nf ns nr : Nat) (T : List Nat) : Prop := (∀ k, k ∈ L ↔ (k < 95 ∨ (95 ≤ k ∧ k < 95 + nf) ∨ (98 ≤ k ∧ k < 98 + ns) ∨ (104 ≤ k ∧ k < 104 + 2 * nr) ∨ k ∈ T)) ∧ (ad 1092 = nf ∧ ad 1093 = ns ∧ ad 1094 = nr) ∧ (nf ≤ 3 ∧ ns ≤ 6 ∧ nr ≤ 16) ∧ (∀ k ∈ T, 136 ≤ k)
theorem kd_ge : ∀ k, k < 136 → (95 ≤ k → k < 98 → kd k = 19) ∧ (98 ≤ k → k < 104 → kd k = 20) ∧ (104 ≤ k → kd k = 21 ∧ k % 2 = 0 ∨ kd k = 27 ∧ k % 2 = 1) := by decide +kernel
theorem dep_lm {L : List Nat} {ad : Nat → Nat} {nf ns nr : Nat} {T : List Nat} {k x : Nat} {r : Nat → Int32} (hL : Lm L ad nf ns nr T) (hk : k ∈ L) (h : dep ad k r x) : x < 95 ∨ x = 1000 + k ∨ (95 ≤ x ∧ x < 95 + nf) ∨ (98 ≤ x ∧ x < 98 + ns) ∨ (104 ≤ x ∧ x < 104 + 2 * nr) ∨ (k ∈ T) := by
  obtain ⟨hm, ⟨e1, e2, e3⟩, ⟨b1, b2, b3⟩, hT⟩ := hL
  by_cases hkT : k ∈ T
  · exact Or.inr (Or.inr (Or.inr (Or.inr (Or.inr hkT))))
  by_cases hk9 : k < 91
  · have := dep_class hk9 h
    omega
  have hk1 := (hm k).mp hk
  have hk136 : k < 136 := by
    rcases hk1 with q | q | q | q | q
    · omega
    · omega
    · omega
    · omega
    · exact absurd q hkT
  obtain ⟨a19, a20, a21⟩ := kd_ge k hk136
  unfold dep at h
  rcases hk1 with q | q | q | q | q
  · have hk4 : k = 91 ∨ k = 92 ∨ k = 93 ∨ k = 94 := by omega
    rcases hk4 with rfl | rfl | rfl | rfl
    · rw [kd_91] at h; replace h : x = 91 + 1 ∨ x = 91 + 2 ∨ x = 91 + 3 := h; omega
    · rw [kd_92] at h
      rcases h with h | ⟨i, hi, rfl⟩
      · omega
      · rw [e1] at hi; omega
    · rw [kd_93] at h
      rcases h with h | ⟨i, hi, rfl⟩
      · omega
      · rw [e2] at hi; omega
    · rw [kd_94] at h
      rcases h with h | ⟨i, hi, rfl⟩
      · omega
      · rw [e3] at hi; omega
  · rw [a19 q.1 (by omega)] at h; exact h.elim
  · rw [a20 q.1 (by omega)] at h; exact h.elim
  · rcases a21 q.1 with ⟨z, z2⟩ | ⟨z, z2⟩
    · rw [z] at h; replace h : x = k + 1 := h; omega
    · rw [z] at h; exact h.elim
  · exact absurd q hkT
/-- a temporary row looks up its length alone, but for those of references -/
theorem dep_tmp {ad : Nat → Nat} {k x : Nat} {r : Nat → Int32} (hk : (153 ≤ k ∧ k < 162) ∨ (137 ≤ k ∧ k < 153)) (h : dep ad k r x) : x = 1000 + k := by
  have h1 : ∀ k, k < 164 → ((153 ≤ k ∧ k < 162) ∨ (137 ≤ k ∧ k < 153)) → kd k = 23 ∨ kd k = 24 ∨ kd k = 27 := by decide +kernel
  unfold dep at h
  rcases h1 k (by omega) hk with e | e | e
  · rw [e] at h; exact h
  · rw [e] at h; exact h
  · rw [e] at h; exact h.elim
section ADD
variable {s : State} {H H1 : Heap} {locs locs1 : List Loc} {A : Nat → Prop} {D : va_G} {cA : Nat → ClassId} {L : List Nat} {ad ad' : Nat → Nat} {κ : Kp} {k q : Nat} {e : va_E}
/-- one cell more -/
theorem Wa.add (hw : Wa A D cA L ad s κ H locs) (hk : k ∉ L) (h164 : k < 164) (r : Nat → Int32) (hP : va_P D vwCl (wl cA ad L κ ++ [(q, e)]) H1) (hD : va_D A (wl cA ad L κ ++ [(q, e)])) (hS : va_S A s.heap H1 locs1) (hq : ad' k = q) (hst : ∀ j ∈ L, ad' j = ad j ∧ sh cA ad' j (κ j) = sh cA ad j (κ j)) (he : e = sh cA ad' k r) : Wa A D cA (L ++ [k]) ad' s (va_up κ k r) H1 locs1 := by
  obtain ⟨p1, p2⟩ := app_at hP
  obtain ⟨d1, d2⟩ := app_D hD
  obtain ⟨g1, g2, g3, g4, g5⟩ := hw.2.2.1
  have hne : ∀ j ∈ L, ad j ≠ q := fun j hj => d2 _ _ (wl_get hj)
  have hjk : ∀ j ∈ L, j ≠ k := fun j hj z => hk (z ▸ hj)
  refine ⟨wl_at.mpr (fun j hj => ?_), hS, ⟨?_, ?_, ?_, ?_, ?_⟩, hw.2.2.2⟩
  · rcases List.mem_append.mp hj with h | h
    · rw [va_up_ne κ r (hjk j h), (hst j h).1, (hst j h).2]
      exact wl_at.mp p1 j h
    · rw [List.mem_singleton] at h
      subst h
      rw [va_up_self, hq, ← he]
      exact p2
  · rw [List.nodup_append]
    refine ⟨g1, List.nodup_cons.mpr ⟨List.not_mem_nil, List.nodup_nil⟩, fun a ha b hb => ?_⟩
    rw [List.mem_singleton] at hb
    subst hb
    exact hjk a ha
  · intro i hi j hj hij
    rcases List.mem_append.mp hi with h | h
    · rcases List.mem_append.mp hj with h2 | h2
      · rw [(hst i h).1, (hst j h2).1] at hij
        exact g2 i h j h2 hij
      · rw [List.mem_singleton] at h2
        subst h2
        rw [(hst i h).1, hq] at hij
        exact absurd hij (hne i h)
    · rw [List.mem_singleton] at h
      subst h
      rcases List.mem_append.mp hj with h2 | h2
      · rw [(hst j h2).1, hq] at hij
        exact absurd hij.symm (hne j h2)
      · rw [List.mem_singleton] at h2
        exact h2.symm
  · intro j hj
    rcases List.mem_append.mp hj with h | h
    · rw [(hst j h).1]; exact g3 j h
    · rw [List.mem_singleton] at h
      subst h
      rw [hq]; exact d1
  · exact fun j hj => List.mem_append_left _ (g4 j hj)
  · intro j hj
    rcases List.mem_append.mp hj with h | h
    · exact g5 j h
    · rw [List.mem_singleton] at h
      subst h
      exact h164
/-- some cells less -/
theorem Wa.drop (hw : Wa A D cA L ad s κ H locs) (f : Nat → Bool) (hf : ∀ k, k < 91 → f k = true) : Wa A D cA (L.filter f) ad s κ H locs := by
  obtain ⟨g1, g2, g3, g4, g5⟩ := hw.2.2.1
  refine ⟨wl_at.mpr (fun j hj => wl_at.mp hw.1 j (List.mem_filter.mp hj).1), hw.2.1, ⟨g1.filter f, fun i hi j hj => g2 i (List.mem_filter.mp hi).1 j (List.mem_filter.mp hj).1, fun j hj => g3 j (List.mem_filter.mp hj).1, fun j hj => List.mem_filter.mpr ⟨g4 j hj, hf j hj⟩, fun j hj => g5 j (List.mem_filter.mp hj).1⟩, hw.2.2.2⟩
/-- the same cells, known by other addresses that nobody looks up, and other numbers that no cell holds -/
theorem Wa.sames (hw : Wa A D cA L ad s κ H locs) {κ' : Kp} (hκ : ∀ k ∈ L, κ' k = κ k) : Wa A D cA L ad s κ' H locs :=
  ⟨wl_at.mpr (fun j hj => by rw [hκ j hj]; exact wl_at.mp hw.1 j hj), hw.2.1, hw.2.2⟩
end ADD
/-- the addresses, with cell k at q, of length n -/
def adn (ad : Nat → Nat) (k q n : Nat) : Nat → Nat := va_up (va_up ad k q) (1000 + k) n
section ADN
variable {ad : Nat → Nat} {k q n x : Nat}
theorem adn_at : adn ad k q n k = q := by unfold adn; rw [va_up_ne _ _ (by omega), va_up_self]
theorem adn_len : adn ad k q n (1000 + k) = n := va_up_self _ _ _
theorem adn_ne (h1 : x ≠ k) (h2 : x ≠ 1000 + k) : adn ad k q n x = ad x := by unfold adn; rw [va_up_ne _ _ h2, va_up_ne _ _ h1]
theorem adn_st {cA : Nat → ClassId} {L : List Nat} {κ : Kp} (hk : k ∉ L) (hL : ∀ j ∈ L, j < 164) (h164 : k < 164) (hd : ∀ j ∈ L, ∀ x, dep ad j (κ j) x → x ≠ k ∧ x ≠ 1000 + k) : ∀ j ∈ L, adn ad k q n j = ad j ∧ sh cA (adn ad k q n) j (κ j) = sh cA ad j (κ j) := by
  intro j hj
  have hjk : j ≠ k := fun z => hk (z ▸ hj)
  have h1 := hL j hj
  exact ⟨adn_ne hjk (by omega), sh_congr (fun x hx => adn_ne (hd j hj x hx).1 (hd j hj x hx).2)⟩
end ADN
end
section
theorem asg_self (vm : Vm) (c : ClassId) : vm.assignable c c = true := by
  show Vm.assignableAux vm (255 + 1) c c = true
  rw [Vm.assignableAux, show (c == c) = true from beq_self_eq_true c, Bool.true_or]
section RAW
variable {p : Program} {l : Launch} {e : Env} {R : Room} {s : State} {m : MethodId} {args : Array Value} {below : List Frame} {meth : Method} {c : Code} {H : Heap} {locs : List Loc} {cells slots : Nat} {Q : State → Prop}
variable {cc : ByteArray} {pc : Nat} {ls : Array Slot} {rest : List Value} {D : va_G} {cl : List vw_C} {A : Nat → Prop} {a : Nat} {tys : List (ClassId × FieldType)} {ws : va_W} {H0 : Heap}
/-- new ty[n][], its places null -/
theorem va_newA2 (hexec : p.tables.exec = Jvm.exec) (hb : c.code = cc) {own : String} {ty : FieldType} {index : Nat} (hown : s.vm.findClass own = some m.cls) (hclink : (Cond.classLink own index (FieldType.array ty).toString).before args s = true) (hover : va_AOA ty s) (hK : va_K D cl tys s) (hP : va_P D cl ws H) (hD : va_D A ws) (hS : va_S A H0 H locs) (hA : ∀ q, H0.size ≤ q → A q)
    {n : Int32} {N' : Nat} (hn : ¬ n < 0) (hN : n.toNatClampNeg = N') (hbytes : N' * 4 ≤ 536870912) (hcells : cells + 1 ≤ R.cells) (hslots : slots + N' ≤ R.slots) (hdg : decode cc pc = .ok (.anewarray index, 3))
    (kk : ∀ (q : Nat) (cA : ClassId) (H1 : Heap), s.vm.findClass ("[" ++ (FieldType.array ty).toString) = some cA → va_P D cl (ws ++ [(q, .inl (cA, N', .inr (.inr (.inr (.inr (fun _ => none))))))]) H1 → va_D A (ws ++ [(q, .inl (cA, N', .inr (.inr (.inr (.inr (fun _ => none))))))]) → va_S A H0 H1 locs →
      W p l e R s m args below meth c H1 locs (cells + 1) (slots + N') Q (F0 m (pc + 3) ls (.ref q :: rest))) : W p l e R s m args below meth c H locs cells slots Q (F0 m pc ls (.int n :: rest)) := by
  subst hN
  refine W.anewA hexec hb hown hclink (va_AOA.use hover) rfl hdg rfl hn hbytes hcells hslots fun cA kA comp f1 f2 f3 f4 => ?_
  generalize hH1 : H.push ({ cls := cA, slots := Array.replicate n.toNatClampNeg .null, vm := .none } : Cell) = H1
  have z1 : H1.size = H.size + 1 := by rw [← hH1, Array.size_push]
  have e1 : H1[H.size]? = some (arrV cA n.toNatClampNeg (fun _ => .null)) := by rw [← hH1, Array.getElem?_push_size, ← arrV_new]
  have o1 : ∀ q : Nat, q < H.size → H1[q]? = H[q]? := fun q hq => by rw [← hH1, Array.getElem?_push, if_neg (Nat.ne_of_lt hq)]
  have hk : ∀ (k : Nat) (x : Nat × va_E), ws[k]? = some x → H1[x.1]? = H[x.1]? := fun k x hx => o1 x.1 ((hP k x hx).lt)
  refine kk H.size cA H1 f1 ((hP.kept hk).app (fun k x hx => ?_)) (hD.push hP rfl (hA _ hS.1)) ⟨Nat.le_trans hS.1 (by omega), fun x h1 h2 => (o1 x (Nat.lt_of_lt_of_le h1 hS.1)).trans (hS.2.1 x h1 h2), hS.2.2⟩
  have hz : k < 1 := (List.getElem?_eq_some_iff.mp hx).1
  rw [show k = 0 by omega] at hx
  cases hx
  show H1[H.size]? = some (vp_cell _ _)
  rw [vp_cell_q]
  exact e1
/-- a row into a row of rows -/
theorem va_astA (hexec : p.tables.exec = Jvm.exec) (hb : c.code = cc) (hover : va_AOA .int s) (hK : va_K D cl tys s) (hP : va_P D cl ws H) (hD : va_D A ws) (hS : va_S A H0 H locs) (q0 t0 qk tk : Nat) {cA cB : ClassId} {n v n2 : Nat} {f : Nat → Option Nat} {f2 : Nat → Int32} (ha : ws[q0]? = some (a, .inl (cA, n, .inr (.inr (.inr (.inr f)))))) (ht : tys[t0]? = some (cA, .array .int)) (hv : ws[qk]? = some (v, .inl (cB, n2, .inl f2))) (htk : tys[tk]? = some (cB, .int)) {i : Int32} (hin : vp_in i n) (hdg : decode cc pc = .ok (.aastore, 1))
    (kk : ∀ (H1 : Heap) (locs1 : List Loc), va_P D cl (ws.set q0 (a, .inl (cA, n, .inr (.inr (.inr (.inr (va_up f i.toNatClampNeg (some v)))))))) H1 → va_D A (ws.set q0 (a, .inl (cA, n, .inr (.inr (.inr (.inr (va_up f i.toNatClampNeg (some v)))))))) → va_S A H0 H1 locs1 → W p l e R s m args below meth c H1 locs1 cells slots Q (F0 m (pc + 1) ls rest)) : W p l e R s m args below meth c H locs cells slots Q (F0 m pc ls (.ref v :: .int i :: .ref a :: rest)) := by
  have hlt : i.toNatClampNeg < n := Nat.not_le.mp fun q => hin (Or.inr q)
  have h0 : ¬ i < 0 := fun q => hin (Or.inl q)
  have hvc : H[v]? = some (vp_cell cB (n2, .inl f2)) := hP qk _ hv
  obtain ⟨comp, c0, k0, f1, -, g2, g3, g4⟩ := arrayOverA_spec (va_AOA.use (A := #[]) hover)
  have hcA : cA = c0 := Option.some.inj (((hK.2 t0 _ ht).2 : s.vm.findClass ("[" ++ (FieldType.array .int).toString) = some cA).symm.trans g4)
  subst hcA
  have hcB : cB = comp := Option.some.inj (((hK.2 tk _ htk).2 : s.vm.findClass ("[" ++ FieldType.int.toString) = some cB).symm.trans f1)
  subst hcB
  obtain ⟨-, kB, kB1, -⟩ := (hK.2 tk _ htk).1 n2 (fun j => .int (f2 j))
  refine W.aast (t := .array .int) hexec hb (hP q0 _ ha) (fun q h => by cases h) (fun h => by cases h) g2 g3 rfl kB1 ⟨h0, by show _ < (arrV _ _ _).slots.size; rw [arrV_size]; exact hlt⟩ hvc (fun q h => by cases h) kB1 (asg_self _ _) rfl rfl hdg fun H1 e z oq => ?_
  refine kk H1 _ (hP.set hD ha ?_ oq) (hD.set ha) (hS.put z oq (hD.2 q0 _ ha))
  show H1[a]? = some (vp_cell _ _)
  rw [e]
  rw [vp_cell_q, vp_cell_q, arrV_store]
  congr 2
  funext q
  by_cases hq : q = i.toNatClampNeg
  · subst hq
    simp [updV, va_up, va_rf]
  · simp [updV, va_up, hq]
end RAW
/-- a constructor's start: the object alone -/
def PR (D : va_G) (cA : Nat → ClassId) (sz a : Nat) (x : va_E) : Array Value → State → Prop := va_Pc [.ref a] (fun U => U.heap.size = sz ∧ va_P D vwCl [(a, x)] U.heap ∧ Ec D cA U)
theorem Ec.same {D : va_G} {cA : Nat → ClassId} {s U : State} (e : s.vm = U.vm) (h : Ec D cA s) : Ec D cA U := ⟨va_K.moved (by rw [e]; exact Vm.Alike.refl _) h.1, h.2.same e⟩
theorem PR.blind {D : va_G} {cA : Nat → ClassId} {sz a : Nat} {x : va_E} : FrameBlind (PR D cA sz a x) := fun b U f mk h => ⟨h.1, h.2.1, h.2.2.1, Ec.same (s := U) (U := U.calling f mk b) rfl h.2.2.2⟩
def frO (a sz : Nat) : Nat → Prop := fun x => x = a ∨ sz ≤ x
theorem one_D {a sz : Nat} {x : va_E} : va_D (frO a sz) [(a, x)] := by
  refine ⟨fun i j p q h1 h2 _ => ?_, fun k q h => ?_⟩
  · have := (List.getElem?_eq_some_iff.mp h1).1
    have := (List.getElem?_eq_some_iff.mp h2).1
    simp at *
    omega
  · have := (List.getElem?_eq_some_iff.mp h).1
    have hk : k = 0 := by simp at this; omega
    subst hk
    cases h
    exact Or.inl rfl
/-- a cell behind the object: new, and elsewhere -/
theorem two_new {a sz q : Nat} {x y : va_E} {ws : va_W} (i : Nat) (hi : 0 < i) (h0 : ws[0]? = some (a, x)) (h1 : ws[i]? = some (q, y)) (hD : va_D (frO a sz) ws) : sz ≤ q ∧ q ≠ a := by
  have hne : q ≠ a := fun z => by
    have := hD.1 0 i _ _ h0 h1 z.symm
    omega
  exact ⟨(hD.2 i _ h1).resolve_left hne, hne⟩
set_option maxRecDepth 100000 in
set_option maxHeartbeats 4000000 in
theorem m_X5_init (l : Launch) (D : va_G) (cA : Nat → ClassId) (sz a : Nat) : Met l yX5_init (.code yX5_init cX5_init 1 none :: uW) { frames := 1, cells := 1, slots := 4, locals := 20 } (PR D cA sz a (.inr (5, [.int 0, .int 0, .int 0, .int 0, .int 0, .int 0, .null]))) (va_Qv (fun q : Nat => sz ≤ q ∧ q ≠ a) (fun q t => va_P D vwCl [(a, .inr (5, [.int 0, .int 0, .int 0, .int 0, .int 0, .int 0, .ref q])), (q, .inl (cA 0, 4, .inl (fun _ => 0)))] t.heap) (frO a sz)) 1 4 (frO a sz) := by
  refine Met.ofW (cc := cX5_init) (maxL := 1) (ret := none) (by decide +kernel) rfl ?_
  intro p e s m args below meth c s₁ B hml hv
  obtain ⟨rfl, hsz, hP, hE⟩ := hv
  have hts : ∀ w ∈ uW, w.before _ s = true := fun w h => atoms_spec (ws := Cond.code yX5_init cX5_init 1 none :: uW) B.pre w (List.mem_cons_of_mem _ h)
  have hown := findClass_of_methodNamed B.named
  have hl := lv_entry ([.ref a]) (n := 1) (Nat.le_of_ble_eq_true rfl)
  rw [lg_entry_eq]
  generalize (lg_sl ([.ref a]) ++ List.replicate (1 - (lg_sl ([.ref a])).length) Slot.unset).toArray = ls at hl ⊢
  have hl : lv_has ls 1 [(0, .ref a)] := hl
  have hA : ∀ q, s.heap.size ≤ q → frO a sz q := fun q hq => Or.inr (by omega)
  refine lv_aload_n B.exec B.bytes dX5_init_0 rfl (lv_at hl 0 rfl) ?_
  refine W.objInit B.exec B.bytes hown (hts _ u_ml_X5_1) (hts _ u_im_JO_init) (hts _ u_co_JO_init) rfl (hl.1.trans hml.symm) rfl dX5_init_1 (Nat.le_of_ble_eq_true rfl) (Nat.le_of_ble_eq_true rfl) ?_
  refine W.eq (g2 := F0 m (1 + 3) ls []) rfl ?_
  refine lv_aload_n B.exec B.bytes dX5_init_4 rfl (lv_at hl 0 rfl) ?_
  refine lv_iconst (v := 4) B.exec B.bytes dX5_init_5 (by decide) ?_
  refine va_newa (atype := .int) (ty := .int) (a0 := (4, .inl (fun _ => 0))) B.exec B.bytes (hts _ u_ac_int) rfl hE.1 hP one_D va_S.rf hA (fun cA => rfl) (by decide) (by decide) (by decide) (Nat.le_of_ble_eq_true rfl) (Nat.le_of_ble_eq_true rfl) dX5_init_6 (fun q cB H1 hK hP hD hS => ?_)
  have hcB : cB = cA 0 := Option.some.inj ((hK.2 7 (cB, .int) rfl).2.symm.trans (hE.1.2 0 (cA 0, .int) rfl).2)
  subst hcB
  obtain ⟨n1, n2⟩ := two_new 1 (by decide) rfl rfl hD
  refine va_putF (C := RX5) (T := TX5) (N := 7) (ci := 5) B.exec B.bytes hts inW5 tyX5 tyX5_ok nmX5 hown hE.1 hP hD hS 0 rfl rfl 6 (by decide) (hts _ u_fl_X5_7) (fun _ h => h) rfl ((name_of_methodNamed B.named B.method).1.trans rfl) rfl (tyX5_ok 6 (by decide)) rfl rfl (by decide) dX5_init_8 (fun H1 locs1 hP hD hS => ?_)
  exact W.widen (Nat.le_refl _) (Nat.le_refl _) (W.vret B.exec B.bytes B.returns (fun t ht hW => ⟨⟨q, rfl, ⟨n1, n2⟩, by show va_P _ _ _ t.heap; rw [ht]; exact hP⟩, hS.F ht⟩) hS.2.2 dX5_init_11 B.notSynchronized)
theorem nil_Qr {f : Nat → Option Nat} : (fun i => if i < 0 then f i else none) = (fun _ => none : Nat → Option Nat) := by
  funext i
  rw [if_neg (by omega)]
/-- the law's kitchen as it is made -/
def sim0 (cA : Nat → ClassId) (a q1 q2 q3 : Nat) : va_W := [(a, .inr (6, [.int 0, .int 120, .ref q1, .ref q2, .ref q3])), (q1, .inl (cA 1, 0, Qr (fun _ => none))), (q2, .inl (cA 1, 0, Qr (fun _ => none))), (q3, .inl (cA 5, 0, Qr (fun _ => none)))]
set_option maxRecDepth 100000 in
set_option maxHeartbeats 4000000 in
theorem m_X6_init (l : Launch) (D : va_G) (cA : Nat → ClassId) (sz a : Nat) : Met l yX6_init (.code yX6_init cX6_init 1 none :: uW) { frames := 1, cells := 3, slots := 0, locals := 20 } (PR D cA sz a (.inr (6, [.int 0, .int 0, .null, .null, .null]))) (va_Qv (fun q : Nat × Nat × Nat => va_D (frO a sz) (sim0 cA a q.1 q.2.1 q.2.2)) (fun q t => va_P D vwCl (sim0 cA a q.1 q.2.1 q.2.2) t.heap) (frO a sz)) 3 0 (frO a sz) := by
  refine Met.ofW (cc := cX6_init) (maxL := 1) (ret := none) (by decide +kernel) rfl ?_
  intro p e s m args below meth c s₁ B hml hv
  obtain ⟨rfl, hsz, hP, hE⟩ := hv
  have hts : ∀ w ∈ uW, w.before _ s = true := fun w h => atoms_spec (ws := Cond.code yX6_init cX6_init 1 none :: uW) B.pre w (List.mem_cons_of_mem _ h)
  have hown := findClass_of_methodNamed B.named
  have hl := lv_entry ([.ref a]) (n := 1) (Nat.le_of_ble_eq_true rfl)
  rw [lg_entry_eq]
  generalize (lg_sl ([.ref a]) ++ List.replicate (1 - (lg_sl ([.ref a])).length) Slot.unset).toArray = ls at hl ⊢
  have hl : lv_has ls 1 [(0, .ref a)] := hl
  have hA : ∀ q, s.heap.size ≤ q → frO a sz q := fun q hq => Or.inr (by omega)
  have hEL := hE.2.2.2.2.2.2
  have hc1 : ∀ cB : ClassId, s.vm.findClass ("[" ++ (FieldType.array .int).toString) = some cB → cB = cA 1 := fun cB h => Option.some.inj (h.symm.trans (hE.1.2 1 (cA 1, .array .int) rfl).2)
  refine lv_aload_n B.exec B.bytes dX6_init_0 rfl (lv_at hl 0 rfl) ?_
  refine W.objInit B.exec B.bytes hown (hts _ u_ml_X6_1) (hts _ u_im_JO_init) (hts _ u_co_JO_init) rfl (hl.1.trans hml.symm) rfl dX6_init_1 (Nat.le_of_ble_eq_true rfl) (Nat.le_of_ble_eq_true rfl) ?_
  refine W.eq (g2 := F0 m (1 + 3) ls []) rfl ?_
  refine lv_aload_n B.exec B.bytes dX6_init_4 rfl (lv_at hl 0 rfl) ?_
  refine lv_bipush (v := 120) B.exec B.bytes dX6_init_5 (by decide) ?_
  refine va_put (A := frO a sz) (C := RX6) (T := TX6) (N := 5) (ci := 6) B.exec B.bytes hts inW6 tyX6 tyX6_ok nmX6 hown hE.1 hP one_D va_S.rf 0 rfl rfl 1 (by decide) (hts _ u_fl_X6_7) (fun _ h => h) rfl (tyX6_ok 1 (by decide)) rfl rfl (by decide) dX6_init_7 (fun H1 locs1 hP hD hS => ?_)
  refine lv_aload_n B.exec B.bytes dX6_init_10 rfl (lv_at hl 0 rfl) ?_
  refine lv_iconst (v := 0) B.exec B.bytes dX6_init_11 (by decide) ?_
  refine va_newA2 (ty := .int) (N' := 0) B.exec B.bytes hown (hts _ u_cl_X6_13) hEL.1 hE.1 hP hD hS hA (by decide) (by decide) (by decide) (Nat.le_of_ble_eq_true rfl) (Nat.le_of_ble_eq_true rfl) dX6_init_12 (fun q1 cB H1 hcB hP hD hS => ?_)
  obtain rfl := hc1 cB hcB
  refine va_put (A := frO a sz) (C := RX6) (T := TX6) (N := 5) (ci := 6) B.exec B.bytes hts inW6 tyX6 tyX6_ok nmX6 hown hE.1 hP hD hS 0 rfl rfl 2 (by decide) (hts _ u_fl_X6_15) (fun _ h => h) rfl (tyX6_ok 2 (by decide)) rfl rfl (show 2 < 5 by decide) dX6_init_15 (fun H1 locs1 hP hD hS => ?_)
  refine lv_aload_n B.exec B.bytes dX6_init_18 rfl (lv_at hl 0 rfl) ?_
  refine lv_iconst (v := 0) B.exec B.bytes dX6_init_19 (by decide) ?_
  refine va_newA2 (ty := .int) (N' := 0) B.exec B.bytes hown (hts _ u_cl_X6_13) hEL.1 hE.1 hP hD hS hA (by decide) (by decide) (by decide) (Nat.le_of_ble_eq_true rfl) (Nat.le_of_ble_eq_true rfl) dX6_init_20 (fun q2 cB H1 hcB hP hD hS => ?_)
  obtain rfl := hc1 cB hcB
  refine va_put (A := frO a sz) (C := RX6) (T := TX6) (N := 5) (ci := 6) B.exec B.bytes hts inW6 tyX6 tyX6_ok nmX6 hown hE.1 hP hD hS 0 rfl rfl 3 (by decide) (hts _ u_fl_X6_19) (fun _ h => h) rfl (tyX6_ok 3 (by decide)) rfl rfl (show 3 < 5 by decide) dX6_init_23 (fun H1 locs1 hP hD hS => ?_)
  refine lv_aload_n B.exec B.bytes dX6_init_26 rfl (lv_at hl 0 rfl) ?_
  refine lv_iconst (v := 0) B.exec B.bytes dX6_init_27 (by decide) ?_
  refine va_newq (C := "KitchenSpitsLaw$Roast") (N' := 0) B.exec B.bytes hown (hts _ u_cl_X6_22) hEL.2.1 hE.1 hP hD hS hA (by decide) (by decide) (by decide) (Nat.le_of_ble_eq_true rfl) (Nat.le_of_ble_eq_true rfl) dX6_init_28 (fun q3 cB H1 hK hP hD hS => ?_)
  have hcB : cB = cA 5 := by
    obtain ⟨-, -, -, -, -, f1⟩ := (hK.2 7 (cB, .object "KitchenSpitsLaw$Roast") rfl).2
    obtain ⟨-, -, -, -, -, f2⟩ := (hE.1.2 5 (cA 5, .object "KitchenSpitsLaw$Roast") rfl).2
    exact Option.some.inj (f1.symm.trans f2)
  subst hcB
  refine va_put (A := frO a sz) (C := RX6) (T := TX6) (N := 5) (ci := 6) B.exec B.bytes hts inW6 tyX6 tyX6_ok nmX6 hown hE.1 hP hD hS 0 rfl rfl 4 (by decide) (hts _ u_fl_X6_24) (fun _ h => h) rfl (tyX6_ok 4 (by decide)) rfl rfl (show 4 < 5 by decide) dX6_init_31 (fun H1 locs1 hP hD hS => ?_)
  exact W.widen (Nat.le_refl _) (Nat.le_refl _) (W.vret B.exec B.bytes B.returns (fun t ht hW => ⟨⟨(q1, q2, q3), rfl, hD, by show va_P _ _ _ t.heap; rw [ht]; exact hP⟩, hS.F ht⟩) hS.2.2 dX6_init_34 B.notSynchronized)
end
section
/-- the addresses ad', which are ad, but for cell k, which is new and n long -/
def AdX (ad ad' : Nat → Nat) (k n : Nat) : Prop := (∀ x, x ≠ k → x ≠ 1000 + k → ad' x = ad x) ∧ ad' (1000 + k) = n
theorem AdX.st {ad ad' : Nat → Nat} {k n : Nat} {cA : Nat → ClassId} {L : List Nat} {κ : Kp} (h : AdX ad ad' k n) (hk : k ∉ L) (hL : ∀ j ∈ L, j < 164) (hd : ∀ j ∈ L, ∀ x, dep ad j (κ j) x → x ≠ k ∧ x ≠ 1000 + k) : ∀ j ∈ L, ad' j = ad j ∧ sh cA ad' j (κ j) = sh cA ad j (κ j) := by
  intro j hj
  have hjk : j ≠ k := fun z => hk (z ▸ hj)
  have h1 := hL j hj
  exact ⟨h.1 j hjk (by omega), sh_congr (fun x hx => h.1 x (hd j hj x hx).1 (hd j hj x hx).2)⟩
theorem AdX.mk {ad : Nat → Nat} {k q n : Nat} : AdX ad (adn ad k q n) k n := ⟨fun _ h1 h2 => adn_ne h1 h2, adn_len⟩
section MKR
variable {p : Program} {l : Launch} {e : Env} {R : Room} {s : State} {m : MethodId} {args : Array Value} {below : List Frame} {meth : Method} {c : Code} {H : Heap} {locs : List Loc} {cells slots : Nat} {Q : State → Prop}
variable {cc : ByteArray} {pc nL k idx : Nat} {ls : Array Slot} {rest : List Value} {A : Nat → Prop} {D : va_G} {cA : Nat → ClassId} {L : List Nat} {ad : Nat → Nat} {κ : Kp} {own : String}
theorem a_newI {v : Int32} {N : Nat} (k : Nat) (hM : Ma A D cA p s m args meth c cc nL own) (hw : Wa A D cA L ad s κ H locs) (hk : k ∉ L) (h164 : k < 164) (hd : ∀ j ∈ L, ∀ x, dep ad j (κ j) x → x ≠ k ∧ x ≠ 1000 + k) (hsh : ∀ ad' : Nat → Nat, ad' (1000 + k) = N → ∀ r, sh cA ad' k r = .inl (cA 0, N, .inl r)) (hv : v = nI N) (hN : N ≤ 1000) (hcells : cells + 1 ≤ R.cells) (hslots : slots + N ≤ R.slots) (hdg : decode cc pc = .ok (.newarray .int, 2))
    (kk : ∀ (ad' : Nat → Nat) (H1 : Heap), AdX ad ad' k N → Wa A D cA (L ++ [k]) ad' s (va_up κ k (fun _ => 0)) H1 locs → W p l e R s m args below meth c H1 locs (cells + 1) (slots + N) Q (F0 m (pc + 2) ls (.ref (ad' k) :: rest))) : W p l e R s m args below meth c H locs cells slots Q (F0 m pc ls (.int v :: rest)) := by
  subst hv
  refine va_newa (atype := .int) (ty := .int) (a0 := (N, .inl (fun _ => 0))) hM.x hM.b (hM.ts _ u_ac_int) rfl hM.K hw.1 hw.dd hw.2.1 hw.2.2.2 (fun cA => rfl) (nI0 (by omega)) (nI_clamp (by omega)) (by show N * 4 ≤ 536870912; omega) hcells hslots hdg (fun q cB H1 hK hP hD hS => ?_)
  have hcB : cB = cA 0 := Option.some.inj ((hK.2 7 (cB, .int) rfl).2.symm.trans (hM.K.2 0 (cA 0, .int) rfl).2)
  subst hcB
  have h1 := hw.add (ad' := adn ad k q N) hk h164 (fun _ => 0) hP hD hS adn_at (AdX.mk.st hk hw.2.2.1.2.2.2.2 hd) (hsh _ adn_len _).symm
  have h2 := kk (adn ad k q N) H1 AdX.mk h1
  rw [adn_at] at h2
  exact h2
theorem a_newZ {v : Int32} {N : Nat} (k : Nat) (hM : Ma A D cA p s m args meth c cc nL own) (hw : Wa A D cA L ad s κ H locs) (hk : k ∉ L) (h164 : k < 164) (hd : ∀ j ∈ L, ∀ x, dep ad j (κ j) x → x ≠ k ∧ x ≠ 1000 + k) (hsh : ∀ ad' : Nat → Nat, ad' (1000 + k) = N → ∀ r, sh cA ad' k r = .inl (cA 6, N, .inl r)) (hv : v = nI N) (hN : N ≤ 1000) (hcells : cells + 1 ≤ R.cells) (hslots : slots + N ≤ R.slots) (hdg : decode cc pc = .ok (.newarray .boolean, 2))
    (kk : ∀ (ad' : Nat → Nat) (H1 : Heap), AdX ad ad' k N → Wa A D cA (L ++ [k]) ad' s (va_up κ k (fun _ => 0)) H1 locs → W p l e R s m args below meth c H1 locs (cells + 1) (slots + N) Q (F0 m (pc + 2) ls (.ref (ad' k) :: rest))) : W p l e R s m args below meth c H locs cells slots Q (F0 m pc ls (.int v :: rest)) := by
  subst hv
  refine va_newa (atype := .boolean) (ty := .boolean) (a0 := (N, .inl (fun _ => 0))) hM.x hM.b (hM.ts _ u_ac_boolean) rfl hM.K hw.1 hw.dd hw.2.1 hw.2.2.2 (fun cA => rfl) (nI0 (by omega)) (nI_clamp (by omega)) (by show N * 1 ≤ 536870912; omega) hcells hslots hdg (fun q cB H1 hK hP hD hS => ?_)
  have hcB : cB = cA 6 := Option.some.inj ((hK.2 7 (cB, .boolean) rfl).2.symm.trans (hM.K.2 6 (cA 6, .boolean) rfl).2)
  subst hcB
  have h1 := hw.add (ad' := adn ad k q N) hk h164 (fun _ => 0) hP hD hS adn_at (AdX.mk.st hk hw.2.2.1.2.2.2.2 hd) (hsh _ adn_len _).symm
  have h2 := kk (adn ad k q N) H1 AdX.mk h1
  rw [adn_at] at h2
  exact h2
/-- a row of rows, its places null -/
theorem a_newA {v : Int32} {N : Nat} (k : Nat) (r : Nat → Int32) (hM : Ma A D cA p s m args meth c cc nL own) (hw : Wa A D cA L ad s κ H locs) (hk : k ∉ L) (h164 : k < 164) (hd : ∀ j ∈ L, ∀ x, dep ad j (κ j) x → x ≠ k ∧ x ≠ 1000 + k) (hsh : ∀ ad' : Nat → Nat, ad' (1000 + k) = N → sh cA ad' k r = .inl (cA 1, N, Qr (fun _ => none))) (hlk : Cond.classLink own idx (FieldType.array .int).toString ∈ uW) (hv : v = nI N) (hN : N ≤ 1000) (hcells : cells + 1 ≤ R.cells) (hslots : slots + N ≤ R.slots) (hdg : decode cc pc = .ok (.anewarray idx, 3))
    (kk : ∀ (ad' : Nat → Nat) (H1 : Heap), AdX ad ad' k N → Wa A D cA (L ++ [k]) ad' s (va_up κ k r) H1 locs → W p l e R s m args below meth c H1 locs (cells + 1) (slots + N) Q (F0 m (pc + 3) ls (.ref (ad' k) :: rest))) : W p l e R s m args below meth c H locs cells slots Q (F0 m pc ls (.int v :: rest)) := by
  subst hv
  refine va_newA2 (ty := .int) hM.x hM.b hM.ow (hM.ts _ hlk) hM.2.1.2.2.2.2.2.2.1 hM.K hw.1 hw.dd hw.2.1 hw.2.2.2 (nI0 (by omega)) (nI_clamp (by omega)) (by omega) hcells hslots hdg (fun q cB H1 hcB hP hD hS => ?_)
  have hcB : cB = cA 1 := Option.some.inj (hcB.symm.trans (hM.K.2 1 (cA 1, .array .int) rfl).2)
  subst hcB
  have h1 := hw.add (ad' := adn ad k q N) hk h164 r hP hD hS adn_at (AdX.mk.st hk hw.2.2.1.2.2.2.2 hd) (hsh _ adn_len).symm
  have h2 := kk (adn ad k q N) H1 AdX.mk h1
  rw [adn_at] at h2
  exact h2
/-- a row of roasts, its places null -/
theorem a_newQ {v : Int32} {N : Nat} (k : Nat) (r : Nat → Int32) (hM : Ma A D cA p s m args meth c cc nL own) (hw : Wa A D cA L ad s κ H locs) (hk : k ∉ L) (h164 : k < 164) (hd : ∀ j ∈ L, ∀ x, dep ad j (κ j) x → x ≠ k ∧ x ≠ 1000 + k) (hsh : ∀ ad' : Nat → Nat, ad' (1000 + k) = N → sh cA ad' k r = .inl (cA 5, N, Qr (fun _ => none))) (hlk : Cond.classLink own idx "KitchenSpitsLaw$Roast" ∈ uW) (hv : v = nI N) (hN : N ≤ 1000) (hcells : cells + 1 ≤ R.cells) (hslots : slots + N ≤ R.slots) (hdg : decode cc pc = .ok (.anewarray idx, 3))
    (kk : ∀ (ad' : Nat → Nat) (H1 : Heap), AdX ad ad' k N → Wa A D cA (L ++ [k]) ad' s (va_up κ k r) H1 locs → W p l e R s m args below meth c H1 locs (cells + 1) (slots + N) Q (F0 m (pc + 3) ls (.ref (ad' k) :: rest))) : W p l e R s m args below meth c H locs cells slots Q (F0 m pc ls (.int v :: rest)) := by
  subst hv
  refine va_newq (C := "KitchenSpitsLaw$Roast") hM.x hM.b hM.ow (hM.ts _ hlk) hM.2.1.2.2.2.2.2.2.2.1 hM.K hw.1 hw.dd hw.2.1 hw.2.2.2 (nI0 (by omega)) (nI_clamp (by omega)) (by omega) hcells hslots hdg (fun q cB H1 hK hP hD hS => ?_)
  have hcB : cB = cA 5 := by
    obtain ⟨-, -, -, -, -, f1⟩ := (hK.2 7 (cB, .object "KitchenSpitsLaw$Roast") rfl).2
    obtain ⟨-, -, -, -, -, f2⟩ := (hM.K.2 5 (cA 5, .object "KitchenSpitsLaw$Roast") rfl).2
    exact Option.some.inj (f1.symm.trans f2)
  subst hcB
  have h1 := hw.add (ad' := adn ad k q N) hk h164 r hP hD hS adn_at (AdX.mk.st hk hw.2.2.1.2.2.2.2 hd) (hsh _ adn_len).symm
  have h2 := kk (adn ad k q N) H1 AdX.mk h1
  rw [adn_at] at h2
  exact h2
/-- a row into a row of rows -/
theorem a_astA {i n n2 kv : Nat} {f : Nat → Option Nat} {r' : Nat → Int32} (hM : Ma A D cA p s m args meth c cc nL own) (hw : Wa A D cA L ad s κ H locs) (hk : k ∈ L) (hsh : sh cA ad k (κ k) = .inl (cA 1, n, Qr f)) (hkv : kv ∈ L) (hshv : sh cA ad kv (κ kv) = .inl (cA 0, n2, .inl (κ kv))) (hi : i < n) (hn : n ≤ 1000) (hset : sh cA ad k r' = .inl (cA 1, n, Qr (va_up f i (some (ad kv))))) (hdg : decode cc pc = .ok (.aastore, 1))
    (kk : ∀ (H1 : Heap) (locs1 : List Loc), Wa A D cA L ad s (va_up κ k r') H1 locs1 → W p l e R s m args below meth c H1 locs1 cells slots Q (F0 m (pc + 1) ls rest)) : W p l e R s m args below meth c H locs cells slots Q (F0 m pc ls (.ref (ad kv) :: .int (nI i) :: .ref (ad k) :: rest)) := by
  refine va_astA hM.x hM.b hM.2.1.2.2.2.2.2.2.1 hM.K hw.1 hw.dd hw.2.1 (L.idxOf k) 1 (L.idxOf kv) 0 (by rw [wl_get hk, hsh]) rfl (by rw [wl_get hkv, hshv]) rfl (vp_in_nI hi (by omega)) hdg (fun H1 locs1 hP hD hS => kk H1 locs1 ⟨?_, hS, hw.2.2⟩)
  rw [nI_clamp (by omega), ← hset, wl_set _ hw.2.2.1.1 hk] at hP
  exact hP
/-- a roast into a row of roasts -/
theorem a_astQ {i n kv : Nat} {f : Nat → Option Nat} {r' : Nat → Int32} (hM : Ma A D cA p s m args meth c cc nL own) (hw : Wa A D cA L ad s κ H locs) (hk : k ∈ L) (hsh : sh cA ad k (κ k) = .inl (cA 5, n, Qr f)) (hkv : kv ∈ L) (hv : kd kv = 21) (hi : i < n) (hn : n ≤ 1000) (hset : sh cA ad k r' = .inl (cA 5, n, Qr (va_up f i (some (ad kv))))) (hdg : decode cc pc = .ok (.aastore, 1))
    (kk : ∀ (H1 : Heap) (locs1 : List Loc), Wa A D cA L ad s (va_up κ k r') H1 locs1 → W p l e R s m args below meth c H1 locs1 cells slots Q (F0 m (pc + 1) ls rest)) : W p l e R s m args below meth c H locs cells slots Q (F0 m pc ls (.ref (ad kv) :: .int (nI i) :: .ref (ad k) :: rest)) := by
  refine va_astq (r := (RX5, TX5, 7)) hM.x hM.b hM.K hw.1 hw.dd hw.2.1 (L.idxOf k) 5 (L.idxOf kv) 5 (by rw [wl_get hk, hsh]) rfl (by rw [wl_get hkv, sh21 hv]) rfl (vp_in_nI hi (by omega)) hdg (fun H1 locs1 hP hD hS => kk H1 locs1 ⟨?_, hS, hw.2.2⟩)
  rw [nI_clamp (by omega), ← hset, wl_set _ hw.2.2.1.1 hk] at hP
  exact hP
end MKR
end
section
/-! THE CLAIM OUT OF ONE WALK OF THE LAW'S BODY. Your part is whole_start (and what it stands on); all else here is the same for every law, but numbers. -/
def R_law : String := "KitchenSpitsLaw"
def lw_P (b : Addr) (xs : List Int32) (args : Array Value) (s : State) : Prop := args = #[.ref b] ∧ s.IntsAt b xs ∧ xs.length ≤ 260 ∧ (Jvm.Cond.and given_1 narrow_1).before args s = true
/-- what a walk over the start with the record d0 says of its end, said of the start itself -/
theorem lw_closed {s t : State} {o : Outcome} {d0 : Drawn} {L : List Loc} {k n : Nat} (hd0 : s.drawn.sameBut d0 lw_cs) (hv : ∃ v, o = .returned v) (hW : (s.setDrawn d0).WarmedH t.vm) (hs : (s.setDrawn d0).sameButNew ({ t with vm := s.vm } : State) L k n) : State.butDraws s t lw_cs (fun t1 => Framed s o t1 L k n) := by
  have h2 : t.drawn = d0 := congrArg State.drawn hs.1
  refine ⟨⟨hv, hW, State.sameButNew.setDrawn hs s.drawn⟩, ?_, by decide⟩
  rw [h2]
  exact hd0
def lw_Q (_ : Array Value) (s : State) (o : Outcome) (t : State) : Prop := o = .returned (some (.int 1)) ∧ State.butDraws s t lw_cs (fun t1 => Framed s o t1 [] 817018 6650127)
def lw_Z (below : List Frame) (a : Array Value) (s : State) : State → Prop := fun t => ∃ o, t.status = .running ∧ Ended t below o ∧ lw_Q a s o t
/-- the law's own end, with 1 on the stack, nothing written that was there before, its room as the claim has it; d0: the record of draws at this point (at the entry s.drawn: begin with 'refine W.base ?_' and 'have hd0 := Drawn.sameBut.refl s.drawn lw_cs') -/
theorem lw_ret {p : Program} {l : Launch} {e : Env} {s : State} {m : MethodId} {below : List Frame} {meth : Method} {c : Code} {b : Nat} {d0 : Drawn} (hd0 : s.drawn.sameBut d0 lw_cs) (hx : p.tables.exec = Jvm.exec) (hb : c.code = code) (hr : meth.sig.returnType = ret) (hlocks : meth.locks = false) {pc : Nat} {H : Heap} {ls : Array Slot} (hdg : decode code pc = .ok (.ireturn, 1)) : W p l e room_1 (s.setDrawn d0) m #[Value.ref b] below meth c H [] 817018 6650127 (lw_Z below #[Value.ref b] s) (F0 m pc ls [.int 1]) := by
  intro T hT X
  obtain ⟨fs, hret, hrun, hended, hW, hframe⟩ := X.leave (v := some (.int 1)) (hlocks := hlocks) (fun h => by rw [hr] at h; cases h)
  have hmeth' : T.vm.method? m = some meth := X.method'
  refine ⟨T.setFrames fs, ?_, .returned (some (.int 1)), hrun, hended, rfl, lw_closed hd0 ⟨_, rfl⟩ hW hframe⟩
  jvm_step X.here [X.here.top, hx, hb, hdg, hmeth', hr, ret, narrow_b1]
  (try refine ⟨rfl, ?_⟩); (try refine ⟨rfl, ?_⟩)
  first | (intro acts; rw [hret _ acts rfl rfl rfl]) | rw [hret _ _ rfl rfl rfl]
  exact Steps.refl _
/-- what holds at the law's entry: the machine, the code, the tables' words (any of lw_tbl by 'hts w (by decide +kernel)'), the script of L ints xs at the cell b, what the Statement gives of the start (any of its parts by flat_of_before) -/
def lw_At (p : Program) (s : State) (m : MethodId) (meth : Method) (c : Code) (b L : Nat) (xs : Nat → Int32) : Prop :=
  p.tables.exec = Jvm.exec ∧ c.code = code ∧ meth.sig.returnType = ret ∧ c.maxLocals = 27 ∧ s.vm.findClass R_law = some m.cls ∧ (∀ w ∈ lw_tbl, w.before #[Value.ref b] s = true) ∧ va_X b L xs s s.heap ∧ b < s.heap.size ∧ meth.locks = false ∧ (Jvm.Cond.and given_1 narrow_1).before #[Value.ref b] s = true
-- ===== YOUR PART BEGINS =====
/-- YOUR PART: from the entry, for every script of at most 260 ints, the law comes to its end with true ('hflags': the launch's flags, for a law that throws: no stack traces) -/
theorem whole_start {p : Program} {e : Env} {s : State} {m : MethodId} {below : List Frame} {meth : Method} {c : Code} (l : Launch) (hflags : l.flags = flags0) {b L : Nat} {xs : Nat → Int32} (hL : L ≤ 260) (C0 : lw_At p s m meth c b L xs) : W p l e room_1 s m #[Value.ref b] below meth c s.heap [] 0 0 (lw_Z below #[Value.ref b] s) (entryFrame m ([Value.ref b] : List Value).toArray 27) := by
  sorry
end
section
set_option maxHeartbeats 4000000 in
theorem lw_walk (l : Launch) (hflags : l.flags = flags0) (b : Addr) (xs : List Int32) : MetFree l x (headSpec (Jvm.Cond.code x code maxLocals ret :: tables_1) room_1) (lw_P b xs) (fun _ _ _ _ _ => True) lw_Q := by
  refine MetFree.of_bodyS (code := code) (maxLocals := maxLocals) (ret := ret) (by decide) ?_ ?_
  · intro args s m h hn
    obtain ⟨meth, c, h1, h2, h3, h4, h5, h6, -, -⟩ := Cond.code_spec hn (atoms_spec (ws := Jvm.Cond.code x code maxLocals ret :: tables_1) h _ List.mem_cons_self)
    exact ⟨meth, c, h1, h2, h3, h4, h5, h6⟩
  · intro p e s m args below meth c s₁ B hml0 hP _
    obtain ⟨rfl, hx, hbd, hgv⟩ := hP
    obtain ⟨scr, harrAt, hlist, hof, hsmall⟩ := hx
    obtain ⟨hcb, hkn, -, -⟩ := State.arrayAt?_spec harrAt
    have hown : s.vm.findClass R_law = some m.cls := findClass_of_methodNamed B.named
    have hts0 : ∀ c ∈ (Jvm.Cond.code x code maxLocals ret :: tables_1), c.before #[Value.ref b] s = true := atoms_spec (ws := Jvm.Cond.code x code maxLocals ret :: tables_1) B.pre
    have hts : ∀ w ∈ lw_tbl, w.before #[Value.ref b] s = true := k2_hts_sels lw_privs (fun w hw => hts0 w (List.mem_cons_of_mem _ hw)) lw_privs_ok
    have hml : c.maxLocals = 27 := B.maxLocals_eq (hts0 _ List.mem_cons_self)
    have X₀ : Stand p l e room_1 s m #[Value.ref b] below meth c s₁ [] 0 0 := Stand.of_body B
    have hh0 : s₁.heap = s.heap := by rw [B.state]; rfl
    have hsz : scr.slots.size = xs.length := by rw [← Array.length_toList, hlist, List.length_map]
    have hval : ∀ j : Nat, j < xs.length → scr.slots[j]? = some (.int (xs.getD j 0)) := fun j hj => by
      rw [← Array.getElem?_toList, hlist]
      simp [hj]
    have hbl : b < s.heap.size := (Array.getElem?_eq_some_iff.mp hcb).1
    have hX : va_X b xs.length (fun j => xs.getD j 0) s s.heap := ⟨scr, hcb, hof, hkn, hsz, hval⟩
    have K : W p l e room_1 s m #[Value.ref b] below meth c s₁.heap [] 0 0 (lw_Z below #[Value.ref b] s) (entryFrame m ([Value.ref b] : List Value).toArray 27) := by
      rw [hh0]
      exact whole_start l hflags hbd ⟨B.exec, B.bytes, B.returns, hml, hown, hts, hX, hbl, B.notSynchronized, hgv⟩
    obtain ⟨t, a1, o, b1, b2, b3⟩ := K s₁ rfl X₀
    exact ⟨t, o, a1, b1, b2, b3⟩
theorem lw_pre_spec {args : Array Value} {s : State} (h : (Jvm.Cond.and given_1 narrow_1).before args s = true) (hr : rest_1_c.before args s = true) : ∃ (b : Addr) (xs : List Int32), lw_P b xs args s := by
  have hs := flat_of_before _ h
  have hq := flat_of_before _ hr
  have hc : (Cond.count 1).before args s = true := hs _ (by decide +kernel)
  have harr : (Cond.arrayOf (.arg 0) .int).before args s = true := hs _ (by decide +kernel)
  have hle : (Cond.le (.length (.arg 0)) (.int 260)).before args s = true := hs _ (by decide +kernel)
  have hlen : (Cond.isInt (.length (.arg 0))).before args s = true := hq _ (by decide +kernel)
  have hall : (Cond.all (.arg 0) (.isInt (.elem (.arg 0) (.index 0)))).before args s = true := hq _ (by decide +kernel)
  obtain ⟨b, xs, hb, hx⟩ := State.ints_of_pre rfl harr hlen hall
  have hsm : xs.length < 2 ^ 31 := hx.choose_spec.2.2.2
  have hev : (Term.length (.arg 0)).eval args s none [] s = some (.int xs.length.toInt32) := hx.length_eval hb
  have hv := Cond.le_ints hev (show (Term.int 260).eval args s none [] s = some (.int 260) from rfl)
  have hd : xs.length.toInt32 ≤ 260 := by
    simpa [Cond.before, Cond.holds, hv] using hle
  have hN : xs.length ≤ 260 := (Int32.ofNat_le_ofNat hsm (by decide)).mp (show Int32.ofNat xs.length ≤ Int32.ofNat 260 from hd)
  exact ⟨b, xs, Cond.one_arg hc (show args[0]? = some (.ref b) from hb), hx, hN, h⟩
theorem lw_comes (l : Launch) (hflags : l.flags = flags0) : Comes l x (Jvm.Cond.code x code maxLocals ret :: tables_1) room_1 (fun tb e args s => Calls_1 tb e args s ∧ rest_1 tb e args s ∧ Pre_1 tb e args s)
    (fun _ _ args s o t => lw_Q args s o t) := by
  intro p e ha hc hk s m args below hf hfit hheap happ hpre
  obtain ⟨b, xs, hP⟩ := lw_pre_spec hpre.2.2 hpre.2.1
  obtain ⟨k, o, h1, h2, h3, hQ⟩ := lw_walk l hflags b xs p e ha hc hk s m args below hf ((Spec.applies_iff_loose hf).mp happ).1 hP trivial
  exact ⟨k, o, h1, h2, h3, hQ⟩
theorem lw_frame {s t : State} {o : Outcome} {args : Array Value} (h : State.butDraws s t lw_cs (fun t1 => Framed s o t1 [] 817018 6650127)) :
    State.butDraws s t [Jvm.Choice.named "NaN.bits"] (fun t1 => Framed s o t1 (fieldLocs frame_1_writes args s ++ arrayLocs frame_1_arrays args s ++ staticLocs frame_1_statics s) 817018 6650127) := h
theorem lw_limb (L : Cond) (hL : ∀ (args : Array Value) (s t : State), L.after args s (.returned (some (.int 1))) t = true) :
    ArmFor flags0 classFile x code maxLocals ret World_1 tables_1 room_1 Calls_1 rest_1 Pre_1
      (fun tb e a s o t => postC L tb e a s o t ∧ State.butDraws s t [Jvm.Choice.named "NaN.bits"] (fun t1 => Framed s o t1 (fieldLocs frame_1_writes a s ++ arrayLocs frame_1_arrays a s ++ staticLocs frame_1_statics s) 817018 6650127)) := by
  intro l hflags _ _ p e ha hc hk s m args below hf hfit hheap happ hpre
  obtain ⟨k, o, h1, h2, h3, rfl, hF⟩ := lw_comes l hflags p e ha hc hk s m args below hf hfit hheap happ hpre
  exact ⟨k, _, h1, h2, h3, hL args s _, lw_frame hF⟩
theorem i_vc : Claimed_1_1 ∧ Claimed_1_2 := ⟨lw_limb limb_1_1 (fun args s t => by simp [limb_1_1, Cond.after, Cond.holds, Cond.value]), lw_limb limb_1_2 (fun args s t => Cond.after_iff.mpr (by
  first | (rw [show limb_1_2 = Cond.eq .result (.int 1) from rfl, Cond.eq_ints (x := 1) (y := 1) rfl rfl]; simp; done) | (simp [limb_1_2, Cond.value, Term.eval]; done)))⟩
end
