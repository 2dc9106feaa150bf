/-- a row under way: j places are laid, from cell base on -/
def rr (j base : Nat) : Nat → Int32 := fun f => if f = 0 then nI j else nI base
section RRX
variable {ad : Nat → Nat} {c : Nat → ClassId} {j b N : Nat}
theorem qr_next {f : Nat → Nat} : (fun i => if i < j + 1 then some (f i) else none) = va_up (fun i => if i < j then some (f i) else none) j (some (f j)) := by
  funext i
  by_cases e : i = j
  · subst e; rw [va_up_self, if_pos (by omega)]
  · rw [va_up_ne _ _ e]
    by_cases q : i < j
    · rw [if_pos q, if_pos (by omega)]
    · rw [if_neg q, if_neg (by omega)]
theorem sh163 (h : ad 1163 = N) (hj : j < 2 ^ 31) (hb : b < 2 ^ 31) : sh c ad 163 (rr j b) = .inl (c 1, N, Qr (fun i => if i < j then some (ad (b + i)) else none)) := by
  rw [sh26 kd_163, show ad (1000 + 163) = N from h, show rr j b 0 = nI j from rfl, show rr j b 1 = nI b from rfl, nI_clamp hj, nI_clamp hb]
theorem sh162 (h : ad 1162 = N) (hj : j < 2 ^ 31) : sh c ad 162 (rr j b) = .inl (c 5, N, Qr (fun i => if i < j then some (ad (104 + 2 * i)) else none)) := by
  rw [sh25 kd_162, show ad (1000 + 162) = N from h, show rr j b 0 = nI j from rfl, nI_clamp hj]
end RRX
theorem q_X6_with : hdV yX6_with RX6 2 := ⟨rfl, by decide +kernel, by decide +kernel, by decide +kernel⟩
set_option maxRecDepth 100000 in
set_option maxHeartbeats 4000000 in
theorem m_X6_with (l : Launch) (g : Gt) (κ : Kp) (sz : Nat) {kr n n2 base : Nat} (hkr : kr ∈ g.1.2) (hsh : sh g.2.1 g.2.2 kr (κ kr) = .inl (g.2.1 1, n, Qr (fun i => if i < n then some (g.2.2 (base + i)) else none))) (hk : ∀ i, i ≤ n → base + i ∈ g.1.2 ∧ sh g.2.1 g.2.2 (base + i) (κ (base + i)) = .inl (g.2.1 0, n2, .inl (κ (base + i)))) (h163 : 163 ∉ g.1.2) (hd : ∀ j ∈ g.1.2, ∀ x, dep g.2.2 j (κ j) x → x ≠ 163 ∧ x ≠ 1000 + 163) (hn : n ≤ 6) (hbase : base < 1000) : Met l yX6_with (.code yX6_with cX6_with 4 (some (.array (.array .int))) :: uW) { frames := 0, cells := 1, slots := 7, locals := 0 } (PRE g κ sz [.ref (g.2.2 kr), .ref (g.2.2 (base + n))]) (va_Qr (fun u : GS => u.1.1 = g.1.2 ++ [163] ∧ AdX g.2.2 u.1.2 163 (n + 1) ∧ u.2 = va_up κ 163 (rr (n + 1) base)) (fun u a t => Wu g.1.1 g.2.1 (fr g sz) u t ∧ a = u.1.2 163) (fr g sz)) 1 7 (fr g sz) := by
  refine k_enter (by decide +kernel) (Nat.le_of_ble_eq_true rfl) ?_
  intro p e s m below meth c ls hM hr hl hw hsz
  subst hsz
  have hl : lv_has ls 4 [(0, .ref (g.2.2 kr)), (1, .ref (g.2.2 (base + n)))] := hl
  have h164 := hw.2.2.1.2.2.2.2
  refine lv_aload_n hM.x hM.b dX6_with_0 rfl (lv_at hl 0 rfl) ?_
  refine k_alenD (n := n) hM hw hkr 1 hsh rfl rfl dX6_with_1 ?_
  refine lv_iconst (v := nI 1) hM.x hM.b dX6_with_2 (by decide) ?_
  refine k_iaddN (a := n) (b := 1) hM dX6_with_3 ?_
  refine a_newA (N := n + 1) 163 (rr 0 base) hM hw h163 (by omega) hd (fun ad' h => by rw [sh163 h (by decide) (by omega)]; exact congrArg (fun z => Sum.inl (g.2.1 1, n + 1, Qr z)) nil_Qr) u_cl_X6_13 rfl (by omega) (Nat.le_of_ble_eq_true rfl) (by show 0 + (n + 1) ≤ 7; omega) dX6_with_4 (fun ad1 H hX hw => ?_)
  refine W.widen (k := 1) (n := 7) (Nat.le_of_ble_eq_true rfl) (by show 0 + (n + 1) ≤ 7; omega) ?_
  have e1 : ∀ k ∈ g.1.2, ad1 k = g.2.2 k := fun k hk => hX.1 k (fun z => h163 (z ▸ hk)) (by have := h164 k hk; omega)
  have hst := hX.st (cA := g.2.1) h163 h164 hd
  have m163 : 163 ∈ g.1.2 ++ [163] := List.mem_append_right _ (List.mem_singleton_self _)
  have mk : ∀ k ∈ g.1.2, k ∈ g.1.2 ++ [163] := fun k hk => List.mem_append_left _ hk
  have hne : ∀ k ∈ g.1.2, k ≠ 163 := fun k hk z => h163 (z ▸ hk)
  have hshr : ∀ r, sh g.2.1 ad1 kr (va_up κ 163 r kr) = .inl (g.2.1 1, n, Qr (fun i => if i < n then some (g.2.2 (base + i)) else none)) := fun r => by rw [va_up_ne _ _ (hne kr hkr), (hst kr hkr).2]; exact hsh
  have hshv : ∀ r i, i ≤ n → sh g.2.1 ad1 (base + i) (va_up κ 163 r (base + i)) = .inl (g.2.1 0, n2, .inl (va_up κ 163 r (base + i))) := fun r i hi => by rw [va_up_ne _ _ (hne _ (hk i hi).1), (hst _ (hk i hi).1).2]; exact (hk i hi).2
  have hl : lv_has ls 4 [(0, .ref (ad1 kr)), (1, .ref (ad1 (base + n)))] := by rw [e1 kr hkr, e1 _ (hk n (Nat.le_refl _)).1]; exact hl
  have hsl : ∀ j, j < 1000 → sh g.2.1 ad1 163 (va_up κ 163 (rr j base) 163) = .inl (g.2.1 1, n + 1, Qr (fun i => if i < j then some (ad1 (base + i)) else none)) := fun j hj => by rw [va_up_self]; exact sh163 hX.2 (by omega) (by omega)
  have hset : ∀ j, j < 1000 → sh g.2.1 ad1 163 (rr (j + 1) base) = .inl (g.2.1 1, n + 1, Qr (va_up (fun i => if i < j then some (ad1 (base + i)) else none) j (some (ad1 (base + j))))) := fun j hj => by
    rw [sh163 hX.2 (by omega) (by omega)]
    exact congrArg (fun z => Sum.inl (g.2.1 1, n + 1, Qr z)) (qr_next (f := fun i => ad1 (base + i)))
  refine lv_astore_n (lv' := [(2, .ref (ad1 163)), (0, .ref (ad1 kr)), (1, .ref (ad1 (base + n)))]) hM.x hM.b dX6_with_7 rfl hl (by decide) rfl (fun ls hl => ?_)
  refine lv_iconst (v := nI 0) hM.x hM.b dX6_with_8 (by decide) ?_
  refine lv_istore_n (lv' := [(3, .int (nI 0)), (2, .ref (ad1 163)), (0, .ref (ad1 kr)), (1, .ref (ad1 (base + n)))]) hM.x hM.b dX6_with_9 rfl hl (by decide) rfl (fun ls hl => ?_)
  have loop : ∀ (i j : Nat), j + i = n → ∀ (H : Heap) (locs : List Loc) (ls : Array Slot), lv_has ls 4 [(3, .int (nI j)), (2, .ref (ad1 163)), (0, .ref (ad1 kr)), (1, .ref (ad1 (base + n)))] → Wa (fr g s.heap.size) g.1.1 g.2.1 (g.1.2 ++ [163]) ad1 s (va_up κ 163 (rr j base)) H locs → W p l e { frames := 0, cells := 1, slots := 7, locals := 0 } s m ([.ref (g.2.2 kr), .ref (g.2.2 (base + n))] : List Value).toArray below meth c H locs 1 7 (MQ below (va_Qr (fun u : GS => u.1.1 = g.1.2 ++ [163] ∧ AdX g.2.2 u.1.2 163 (n + 1) ∧ u.2 = va_up κ 163 (rr (n + 1) base)) (fun u a t => Wu g.1.1 g.2.1 (fr g s.heap.size) u t ∧ a = u.1.2 163) (fr g s.heap.size)) ([.ref (g.2.2 kr), .ref (g.2.2 (base + n))] : List Value).toArray s 1 7 (fr g s.heap.size)) (F0 m 10 ls []) := by
    intro i
    induction i with
    | zero =>
      intro j hj H locs ls hl hw
      obtain rfl : j = n := by omega
      refine lv_iload_n hM.x hM.b dX6_with_10 rfl (lv_at hl 0 rfl) ?_
      refine lv_aload_n hM.x hM.b dX6_with_11 rfl (lv_at hl 2 rfl) ?_
      refine k_alenD (n := j) hM hw (mk _ hkr) 1 (hshr _) rfl rfl dX6_with_12 ?_
      refine lv_icmp_ge (tgt := 28) hM.x hM.b dX6_with_13 (by decide) (fun _ => ?_) (fun cz => absurd (nI_le (by omega) (by omega)) cz)
      refine lv_aload_n hM.x hM.b dX6_with_28 rfl (lv_at hl 1 rfl) ?_
      refine lv_aload_n hM.x hM.b dX6_with_29 rfl (lv_at hl 2 rfl) ?_
      refine k_alenD (n := j) hM hw (mk _ hkr) 1 (hshr _) rfl rfl dX6_with_30 ?_
      refine lv_aload_n hM.x hM.b dX6_with_31 rfl (lv_at hl 3 rfl) ?_
      refine a_astA (i := j) (n := j + 1) (kv := base + j) hM hw m163 (hsl j (by omega)) (mk _ (hk j (Nat.le_refl _)).1) (hshv _ j (Nat.le_refl _)) (by omega) (by omega) (hset j (by omega)) dX6_with_32 (fun H locs hw => ?_)
      rw [va_up_up] at hw
      refine lv_aload_n hM.x hM.b dX6_with_33 rfl (lv_at hl 1 rfl) ?_
      exact a_aret (u := ((g.1.2 ++ [163], ad1), va_up κ 163 (rr (j + 1) base))) hM hr (Or.inr ⟨_, rfl⟩) hw.2.1 (Nat.le_refl _) (Nat.le_refl _) ⟨rfl, hX, rfl⟩ (fun t ht => ⟨⟨by rw [ht]; exact hw.1, hw.2.2.1⟩, rfl⟩) dX6_with_34
    | succ i ih =>
      intro j hj H locs ls hl hw
      have hjn : j < n := by omega
      refine lv_iload_n hM.x hM.b dX6_with_10 rfl (lv_at hl 0 rfl) ?_
      refine lv_aload_n hM.x hM.b dX6_with_11 rfl (lv_at hl 2 rfl) ?_
      refine k_alenD (n := n) hM hw (mk _ hkr) 1 (hshr _) rfl rfl dX6_with_12 ?_
      refine lv_icmp_ge (tgt := 28) hM.x hM.b dX6_with_13 (by decide) (fun cz => absurd cz (nI_ge (by omega) (by omega))) (fun _ => ?_)
      refine lv_aload_n hM.x hM.b dX6_with_16 rfl (lv_at hl 1 rfl) ?_
      refine lv_iload_n hM.x hM.b dX6_with_17 rfl (lv_at hl 0 rfl) ?_
      refine lv_aload_n hM.x hM.b dX6_with_18 rfl (lv_at hl 2 rfl) ?_
      refine lv_iload_n hM.x hM.b dX6_with_19 rfl (lv_at hl 0 rfl) ?_
      refine k_aldaN (i := j) (n := n) (t := 1) (x := ad1 (base + j)) hM hw (mk _ hkr) (hshr _) rfl hjn (by omega) ((if_pos hjn).trans (congrArg some (e1 _ (hk j (by omega)).1).symm)) dX6_with_20 ?_
      refine a_astA (i := j) (n := n + 1) (kv := base + j) hM hw m163 (hsl j (by omega)) (mk _ (hk j (by omega)).1) (hshv _ j (by omega)) (by omega) (by omega) (hset j (by omega)) dX6_with_21 (fun H locs hw => ?_)
      rw [va_up_up] at hw
      refine lv_iinc (v := nI (j + 1)) (lv' := [(3, .int (nI (j + 1))), (2, .ref (ad1 163)), (0, .ref (ad1 kr)), (1, .ref (ad1 (base + n)))]) hM.x hM.b dX6_with_22 hl (k := 0) rfl (nI_up j) (by decide) rfl (fun ls hl => ?_)
      refine lv_goto (tgt := 10) hM.x hM.b dX6_with_25 (by decide) ?_
      exact ih (j + 1) (by omega) H locs ls hl hw
  exact loop n 0 (by omega) H _ ls hl hw
theorem va_P1 {D : va_G} {x : Nat × va_E} {H : Heap} (h : va_at D vwCl x H) : va_P D vwCl [x] H := by
  intro i q hq
  have hi := (List.getElem?_eq_some_iff.mp hq).1
  have h0 : i = 0 := by simp at hi; omega
  subst h0
  cases hq
  exact h
section NEWR
variable {p : Program} {l : Launch} {e : Env} {R : Room} {s : State} {m : MethodId} {args : Array Value} {below : List Frame} {meth : Method} {c : Code} {H : Heap} {locs : List Loc} {cells slots : Nat} {Q : State → Prop}
variable {cc : ByteArray} {pc nL k idx ic : Nat} {ls : Array Slot} {rest : List Value} {A : Nat → Prop} {D : va_G} {cA : Nat → ClassId} {L : List Nat} {ad : Nat → Nat} {κ : Kp} {own : String}
/-- new LRoast(): the object is cell k, its row cell k + 1 -/
theorem a_newR (k : Nat) (hM : Ma A D cA p s m args meth c cc nL RX6) (hw : Wa A D cA L ad s κ H locs) (hkd : kd k = 21) (hk : k ∉ L) (hk1 : k + 1 ∉ L) (h164 : k + 1 < 164) (hd : ∀ j ∈ L, ∀ x, dep ad j (κ j) x → x ≠ k ∧ x ≠ k + 1) (hls : ls.size = nL) (hcells : cells + 2 ≤ R.cells) (hslots : slots + 11 ≤ R.slots) (hRf : 2 ≤ R.frames) (hRl : 40 ≤ R.locals) (hsum : (rest.map fun v => v.category).sum ≤ 7)
    (hcl : Cond.classLink RX6 idx RX5 ∈ uW) (hlk : ic = 28) (d0 : decode cc pc = .ok (.new idx, 3)) (d3 : decode cc (pc + 3) = .ok (.dup, 1)) (d4 : decode cc (pc + 4) = .ok (.invokespecial ic, 3))
    (kk : ∀ (ad' : Nat → Nat) (H1 : Heap) (locs1 : List Loc), (∀ x, x ≠ k → x ≠ k + 1 → ad' x = ad x) → Wa A D cA (L ++ [k] ++ [k + 1]) ad' s (va_up (va_up κ k (fun _ => 0)) (k + 1) (fun _ => 0)) H1 locs1 → W p l e R s m args below meth c H1 locs1 (cells + 2) (slots + 11) Q (F0 m (pc + 7) ls (.ref (ad' k) :: rest))) : W p l e R s m args below meth c H locs cells slots Q (F0 m pc ls rest) := by
  subst hlk
  have hE := hM.2.1.2.2.2.2.2.2
  refine va_new (C := RX5) (T := TX5) (N := 7) (ci := 5) (fs := [.int 0, .int 0, .int 0, .int 0, .int 0, .int 0, .null]) hM.x hM.b hM.ts inW5 tyX5 tyX5_ok hM.ow (hM.ts _ hcl) (hM.ts _ u_ins_X5) (hM.ts _ u_ini_X5) hM.K hw.1 hw.dd hw.2.1 hw.2.2.2 rfl (fun j hj => by match j, hj with | 0, _ => rfl | 1, _ => rfl | 2, _ => rfl | 3, _ => rfl | 4, _ => rfl | 5, _ => rfl | 6, _ => rfl) (by omega) (by omega) d0 (fun q H1 hP hD hS => ?_)
  refine lv_dup hM.x hM.b d3 rfl ?_
  obtain ⟨p1, p2⟩ := app_at hP
  obtain ⟨dd1, dd2⟩ := app_D hD
  obtain ⟨g1, g2, g3, g4, g5⟩ := hw.2.2.1
  have hg := uW_good (ws := [.code yX5_init cX5_init 1 none]) (fun w hw => by
    rw [List.mem_singleton] at hw
    subst hw; exact u_co_X5_init)
  refine va_callv (va_runIN (As := []) (rest := .ref q :: rest) hM.1 (m_X5_init l D cA H1.size q) ⟨va_cnB 0 hM.ts hg rfl rfl rfl hE.2.2.1 (hM.ts _ u_ini_X5) ⟨by decide +kernel, by decide +kernel, by decide +kernel⟩ ⟨by show 1 + 1 ≤ _; omega, by show 8 + (1 + 11) + 20 ≤ _; omega⟩, rfl, hM.ts _ u_im_X5_init⟩ ⟨PR.blind, fun U hU hW => ⟨rfl, by rw [hU], by rw [hU]; exact va_P1 p2, hM.2.1.warm hW⟩⟩ rfl rfl hls rfl (lv_room (by rw [List.map_cons, List.sum_cons]; show 1 + _ ≤ 8; omega)) d4 ⟨by show cells + 1 + 1 ≤ _; omega, by show slots + 7 + 4 ≤ _; omega⟩) hS (fun x hx h => h.elim (fun z => z ▸ dd1) (fun z => by omega)) (fun x h => h.elim (fun z => z ▸ dd1) (fun z => hw.2.2.2 x (Nat.le_trans hS.1 z))) (fun u t H2 locs2 ht hvm hp hB hz1 hk2 hS2 => ?_)
  have hne : ∀ j ∈ L, ad j ≠ q := fun j hj => dd2 _ _ (wl_get hj)
  have hlt : ∀ j ∈ L, ad j < H1.size := fun j hj => (wl_at.mp p1 j hj).lt
  have hlk : ∀ j ∈ L, j ≠ k := fun j hj z => hk (z ▸ hj)
  have hlk1 : ∀ j ∈ L, j ≠ k + 1 := fun j hj z => hk1 (z ▸ hj)
  have p3 : va_P D vwCl (wl cA ad L κ) H2 := p1.kept (fun i x hx => hk2 x.1 ((p1 i x hx).lt) (fun z => z.elim (fun z => dd2 i x hx z) (fun z => by have := (p1 i x hx).lt; omega)))
  have hq1 : q < H1.size := p2.lt
  have au : ∀ x, x ≠ k → x ≠ k + 1 → va_up (va_up ad k q) (k + 1) u x = ad x := fun x h1 h2 => by rw [va_up_ne _ _ h2, va_up_ne _ _ h1]
  have ak : va_up (va_up ad k q) (k + 1) u k = q := by rw [va_up_ne _ _ (by omega), va_up_self]
  have ak1 : va_up (va_up ad k q) (k + 1) u (k + 1) = u := va_up_self _ _ _
  rw [ht] at hB
  have fin := kk (va_up (va_up ad k q) (k + 1) u) H2 locs2 au ⟨wl_at.mpr (fun j hj => ?_), hS2, ⟨?_, fun i hi j hj hij => ?_, fun j hj => ?_, fun j hj => List.mem_append_left _ (List.mem_append_left _ (g4 j hj)), fun j hj => ?_⟩, hw.2.2.2⟩
  · rw [ak] at fin
    exact fin
  · rcases List.mem_append.mp hj with h | h
    · rcases List.mem_append.mp h with h | h
      · rw [au j (hlk j h) (hlk1 j h), va_up_ne _ _ (hlk1 j h), va_up_ne _ _ (hlk j h), sh_congr (ad := ad) (fun x hx => au x (hd j h x hx).1 (hd j h x hx).2)]
        exact wl_at.mp p3 j h
      · rw [List.mem_singleton] at h
        subst h
        rw [ak, va_up_ne _ _ (by omega), va_up_self, sh21 hkd, ak1]
        exact hB 0 _ rfl
    · rw [List.mem_singleton] at h
      subst h
      rw [ak1, va_up_self, sh27 (kd21_27 hkd)]
      exact hB 1 _ rfl
  · rw [List.nodup_append]
    refine ⟨?_, List.nodup_cons.mpr ⟨List.not_mem_nil, List.nodup_nil⟩, fun a ha b hb => ?_⟩
    · rw [List.nodup_append]
      refine ⟨g1, List.nodup_cons.mpr ⟨List.not_mem_nil, List.nodup_nil⟩, fun a ha b hb => ?_⟩
      rw [List.mem_singleton] at hb
      rw [hb]; exact hlk a ha
    · rw [List.mem_singleton] at hb
      rcases List.mem_append.mp ha with h | h
      · rw [hb]; exact hlk1 a h
      · rw [List.mem_singleton] at h
        omega
  · have key : ∀ i, i ∈ L ++ [k] ++ [k + 1] → (i ∈ L ∧ va_up (va_up ad k q) (k + 1) u i = ad i) ∨ (i = k ∧ va_up (va_up ad k q) (k + 1) u i = q) ∨ (i = k + 1 ∧ va_up (va_up ad k q) (k + 1) u i = u) := fun i hi => by
      rcases List.mem_append.mp hi with h | h
      · rcases List.mem_append.mp h with h | h
        · exact Or.inl ⟨h, au i (hlk i h) (hlk1 i h)⟩
        · rw [List.mem_singleton] at h
          subst h
          exact Or.inr (Or.inl ⟨rfl, ak⟩)
      · rw [List.mem_singleton] at h
        subst h
        exact Or.inr (Or.inr ⟨rfl, ak1⟩)
    have hpu := hp.1
    have hpq := hp.2
    rcases key i hi with ⟨a1, a2⟩ | ⟨a1, a2⟩ | ⟨a1, a2⟩ <;> rcases key j hj with ⟨b1, b2⟩ | ⟨b1, b2⟩ | ⟨b1, b2⟩ <;> rw [a2, b2] at hij
    · exact g2 i a1 j b1 hij
    · exact absurd hij (hne i a1)
    · have := hlt i a1; omega
    · exact absurd hij.symm (hne j b1)
    · rw [a1, b1]
    · omega
    · have := hlt j b1; omega
    · omega
    · rw [a1, b1]
  · rcases List.mem_append.mp hj with h | h
    · rcases List.mem_append.mp h with h | h
      · rw [au j (hlk j h) (hlk1 j h)]; exact g3 j h
      · rw [List.mem_singleton] at h
        subst h
        rw [ak]; exact dd1
    · rw [List.mem_singleton] at h
      subst h
      rw [ak1]; exact hw.2.2.2 u (Nat.le_trans hS.1 hp.1)
  · rcases List.mem_append.mp hj with h | h
    · rcases List.mem_append.mp h with h | h
      · exact g5 j h
      · rw [List.mem_singleton] at h
        omega
    · rw [List.mem_singleton] at h
      omega
end NEWR
