/-- the addresses ad', which are ad, but for cell k, which is new and n long -/
def AdX (ad ad' : Nat → Nat) (k n : Nat) : Prop := (∀ x, x ≠ k → x ≠ 1000 + k → ad' x = ad x) ∧ ad' (1000 + k) = n
theorem AdX.st {ad ad' : Nat → Nat} {k n : Nat} {cA : Nat → ClassId} {L : List Nat} {κ : Kp} (h : AdX ad ad' k n) (hk : k ∉ L) (hL : ∀ j ∈ L, j < 164) (hd : ∀ j ∈ L, ∀ x, dep ad j (κ j) x → x ≠ k ∧ x ≠ 1000 + k) : ∀ j ∈ L, ad' j = ad j ∧ sh cA ad' j (κ j) = sh cA ad j (κ j) := by
  intro j hj
  have hjk : j ≠ k := fun z => hk (z ▸ hj)
  have h1 := hL j hj
  exact ⟨h.1 j hjk (by omega), sh_congr (fun x hx => h.1 x (hd j hj x hx).1 (hd j hj x hx).2)⟩
theorem AdX.mk {ad : Nat → Nat} {k q n : Nat} : AdX ad (adn ad k q n) k n := ⟨fun _ h1 h2 => adn_ne h1 h2, adn_len⟩
section MKR
variable {p : Program} {l : Launch} {e : Env} {R : Room} {s : State} {m : MethodId} {args : Array Value} {below : List Frame} {meth : Method} {c : Code} {H : Heap} {locs : List Loc} {cells slots : Nat} {Q : State → Prop}
variable {cc : ByteArray} {pc nL k idx : Nat} {ls : Array Slot} {rest : List Value} {A : Nat → Prop} {D : va_G} {cA : Nat → ClassId} {L : List Nat} {ad : Nat → Nat} {κ : Kp} {own : String}
theorem a_newI {v : Int32} {N : Nat} (k : Nat) (hM : Ma A D cA p s m args meth c cc nL own) (hw : Wa A D cA L ad s κ H locs) (hk : k ∉ L) (h164 : k < 164) (hd : ∀ j ∈ L, ∀ x, dep ad j (κ j) x → x ≠ k ∧ x ≠ 1000 + k) (hsh : ∀ ad' : Nat → Nat, ad' (1000 + k) = N → ∀ r, sh cA ad' k r = .inl (cA 0, N, .inl r)) (hv : v = nI N) (hN : N ≤ 1000) (hcells : cells + 1 ≤ R.cells) (hslots : slots + N ≤ R.slots) (hdg : decode cc pc = .ok (.newarray .int, 2))
    (kk : ∀ (ad' : Nat → Nat) (H1 : Heap), AdX ad ad' k N → Wa A D cA (L ++ [k]) ad' s (va_up κ k (fun _ => 0)) H1 locs → W p l e R s m args below meth c H1 locs (cells + 1) (slots + N) Q (F0 m (pc + 2) ls (.ref (ad' k) :: rest))) : W p l e R s m args below meth c H locs cells slots Q (F0 m pc ls (.int v :: rest)) := by
  subst hv
  refine va_newa (atype := .int) (ty := .int) (a0 := (N, .inl (fun _ => 0))) hM.x hM.b (hM.ts _ u_ac_int) rfl hM.K hw.1 hw.dd hw.2.1 hw.2.2.2 (fun cA => rfl) (nI0 (by omega)) (nI_clamp (by omega)) (by show N * 4 ≤ 536870912; omega) hcells hslots hdg (fun q cB H1 hK hP hD hS => ?_)
  have hcB : cB = cA 0 := Option.some.inj ((hK.2 7 (cB, .int) rfl).2.symm.trans (hM.K.2 0 (cA 0, .int) rfl).2)
  subst hcB
  have h1 := hw.add (ad' := adn ad k q N) hk h164 (fun _ => 0) hP hD hS adn_at (AdX.mk.st hk hw.2.2.1.2.2.2.2 hd) (hsh _ adn_len _).symm
  have h2 := kk (adn ad k q N) H1 AdX.mk h1
  rw [adn_at] at h2
  exact h2
theorem a_newZ {v : Int32} {N : Nat} (k : Nat) (hM : Ma A D cA p s m args meth c cc nL own) (hw : Wa A D cA L ad s κ H locs) (hk : k ∉ L) (h164 : k < 164) (hd : ∀ j ∈ L, ∀ x, dep ad j (κ j) x → x ≠ k ∧ x ≠ 1000 + k) (hsh : ∀ ad' : Nat → Nat, ad' (1000 + k) = N → ∀ r, sh cA ad' k r = .inl (cA 6, N, .inl r)) (hv : v = nI N) (hN : N ≤ 1000) (hcells : cells + 1 ≤ R.cells) (hslots : slots + N ≤ R.slots) (hdg : decode cc pc = .ok (.newarray .boolean, 2))
    (kk : ∀ (ad' : Nat → Nat) (H1 : Heap), AdX ad ad' k N → Wa A D cA (L ++ [k]) ad' s (va_up κ k (fun _ => 0)) H1 locs → W p l e R s m args below meth c H1 locs (cells + 1) (slots + N) Q (F0 m (pc + 2) ls (.ref (ad' k) :: rest))) : W p l e R s m args below meth c H locs cells slots Q (F0 m pc ls (.int v :: rest)) := by
  subst hv
  refine va_newa (atype := .boolean) (ty := .boolean) (a0 := (N, .inl (fun _ => 0))) hM.x hM.b (hM.ts _ u_ac_boolean) rfl hM.K hw.1 hw.dd hw.2.1 hw.2.2.2 (fun cA => rfl) (nI0 (by omega)) (nI_clamp (by omega)) (by show N * 1 ≤ 536870912; omega) hcells hslots hdg (fun q cB H1 hK hP hD hS => ?_)
  have hcB : cB = cA 6 := Option.some.inj ((hK.2 7 (cB, .boolean) rfl).2.symm.trans (hM.K.2 6 (cA 6, .boolean) rfl).2)
  subst hcB
  have h1 := hw.add (ad' := adn ad k q N) hk h164 (fun _ => 0) hP hD hS adn_at (AdX.mk.st hk hw.2.2.1.2.2.2.2 hd) (hsh _ adn_len _).symm
  have h2 := kk (adn ad k q N) H1 AdX.mk h1
  rw [adn_at] at h2
  exact h2
/-- a row of rows, its places null -/
theorem a_newA {v : Int32} {N : Nat} (k : Nat) (r : Nat → Int32) (hM : Ma A D cA p s m args meth c cc nL own) (hw : Wa A D cA L ad s κ H locs) (hk : k ∉ L) (h164 : k < 164) (hd : ∀ j ∈ L, ∀ x, dep ad j (κ j) x → x ≠ k ∧ x ≠ 1000 + k) (hsh : ∀ ad' : Nat → Nat, ad' (1000 + k) = N → sh cA ad' k r = .inl (cA 1, N, Qr (fun _ => none))) (hlk : Cond.classLink own idx (FieldType.array .int).toString ∈ uW) (hv : v = nI N) (hN : N ≤ 1000) (hcells : cells + 1 ≤ R.cells) (hslots : slots + N ≤ R.slots) (hdg : decode cc pc = .ok (.anewarray idx, 3))
    (kk : ∀ (ad' : Nat → Nat) (H1 : Heap), AdX ad ad' k N → Wa A D cA (L ++ [k]) ad' s (va_up κ k r) H1 locs → W p l e R s m args below meth c H1 locs (cells + 1) (slots + N) Q (F0 m (pc + 3) ls (.ref (ad' k) :: rest))) : W p l e R s m args below meth c H locs cells slots Q (F0 m pc ls (.int v :: rest)) := by
  subst hv
  refine va_newA2 (ty := .int) hM.x hM.b hM.ow (hM.ts _ hlk) hM.2.1.2.2.2.2.2.2.1 hM.K hw.1 hw.dd hw.2.1 hw.2.2.2 (nI0 (by omega)) (nI_clamp (by omega)) (by omega) hcells hslots hdg (fun q cB H1 hcB hP hD hS => ?_)
  have hcB : cB = cA 1 := Option.some.inj (hcB.symm.trans (hM.K.2 1 (cA 1, .array .int) rfl).2)
  subst hcB
  have h1 := hw.add (ad' := adn ad k q N) hk h164 r hP hD hS adn_at (AdX.mk.st hk hw.2.2.1.2.2.2.2 hd) (hsh _ adn_len).symm
  have h2 := kk (adn ad k q N) H1 AdX.mk h1
  rw [adn_at] at h2
  exact h2
/-- a row of roasts, its places null -/
theorem a_newQ {v : Int32} {N : Nat} (k : Nat) (r : Nat → Int32) (hM : Ma A D cA p s m args meth c cc nL own) (hw : Wa A D cA L ad s κ H locs) (hk : k ∉ L) (h164 : k < 164) (hd : ∀ j ∈ L, ∀ x, dep ad j (κ j) x → x ≠ k ∧ x ≠ 1000 + k) (hsh : ∀ ad' : Nat → Nat, ad' (1000 + k) = N → sh cA ad' k r = .inl (cA 5, N, Qr (fun _ => none))) (hlk : Cond.classLink own idx "KitchenSpitsLaw$Roast" ∈ uW) (hv : v = nI N) (hN : N ≤ 1000) (hcells : cells + 1 ≤ R.cells) (hslots : slots + N ≤ R.slots) (hdg : decode cc pc = .ok (.anewarray idx, 3))
    (kk : ∀ (ad' : Nat → Nat) (H1 : Heap), AdX ad ad' k N → Wa A D cA (L ++ [k]) ad' s (va_up κ k r) H1 locs → W p l e R s m args below meth c H1 locs (cells + 1) (slots + N) Q (F0 m (pc + 3) ls (.ref (ad' k) :: rest))) : W p l e R s m args below meth c H locs cells slots Q (F0 m pc ls (.int v :: rest)) := by
  subst hv
  refine va_newq (C := "KitchenSpitsLaw$Roast") hM.x hM.b hM.ow (hM.ts _ hlk) hM.2.1.2.2.2.2.2.2.2.1 hM.K hw.1 hw.dd hw.2.1 hw.2.2.2 (nI0 (by omega)) (nI_clamp (by omega)) (by omega) hcells hslots hdg (fun q cB H1 hK hP hD hS => ?_)
  have hcB : cB = cA 5 := by
    obtain ⟨-, -, -, -, -, f1⟩ := (hK.2 7 (cB, .object "KitchenSpitsLaw$Roast") rfl).2
    obtain ⟨-, -, -, -, -, f2⟩ := (hM.K.2 5 (cA 5, .object "KitchenSpitsLaw$Roast") rfl).2
    exact Option.some.inj (f1.symm.trans f2)
  subst hcB
  have h1 := hw.add (ad' := adn ad k q N) hk h164 r hP hD hS adn_at (AdX.mk.st hk hw.2.2.1.2.2.2.2 hd) (hsh _ adn_len).symm
  have h2 := kk (adn ad k q N) H1 AdX.mk h1
  rw [adn_at] at h2
  exact h2
/-- a row into a row of rows -/
theorem a_astA {i n n2 kv : Nat} {f : Nat → Option Nat} {r' : Nat → Int32} (hM : Ma A D cA p s m args meth c cc nL own) (hw : Wa A D cA L ad s κ H locs) (hk : k ∈ L) (hsh : sh cA ad k (κ k) = .inl (cA 1, n, Qr f)) (hkv : kv ∈ L) (hshv : sh cA ad kv (κ kv) = .inl (cA 0, n2, .inl (κ kv))) (hi : i < n) (hn : n ≤ 1000) (hset : sh cA ad k r' = .inl (cA 1, n, Qr (va_up f i (some (ad kv))))) (hdg : decode cc pc = .ok (.aastore, 1))
    (kk : ∀ (H1 : Heap) (locs1 : List Loc), Wa A D cA L ad s (va_up κ k r') H1 locs1 → W p l e R s m args below meth c H1 locs1 cells slots Q (F0 m (pc + 1) ls rest)) : W p l e R s m args below meth c H locs cells slots Q (F0 m pc ls (.ref (ad kv) :: .int (nI i) :: .ref (ad k) :: rest)) := by
  refine va_astA hM.x hM.b hM.2.1.2.2.2.2.2.2.1 hM.K hw.1 hw.dd hw.2.1 (L.idxOf k) 1 (L.idxOf kv) 0 (by rw [wl_get hk, hsh]) rfl (by rw [wl_get hkv, hshv]) rfl (vp_in_nI hi (by omega)) hdg (fun H1 locs1 hP hD hS => kk H1 locs1 ⟨?_, hS, hw.2.2⟩)
  rw [nI_clamp (by omega), ← hset, wl_set _ hw.2.2.1.1 hk] at hP
  exact hP
/-- a roast into a row of roasts -/
theorem a_astQ {i n kv : Nat} {f : Nat → Option Nat} {r' : Nat → Int32} (hM : Ma A D cA p s m args meth c cc nL own) (hw : Wa A D cA L ad s κ H locs) (hk : k ∈ L) (hsh : sh cA ad k (κ k) = .inl (cA 5, n, Qr f)) (hkv : kv ∈ L) (hv : kd kv = 21) (hi : i < n) (hn : n ≤ 1000) (hset : sh cA ad k r' = .inl (cA 5, n, Qr (va_up f i (some (ad kv))))) (hdg : decode cc pc = .ok (.aastore, 1))
    (kk : ∀ (H1 : Heap) (locs1 : List Loc), Wa A D cA L ad s (va_up κ k r') H1 locs1 → W p l e R s m args below meth c H1 locs1 cells slots Q (F0 m (pc + 1) ls rest)) : W p l e R s m args below meth c H locs cells slots Q (F0 m pc ls (.ref (ad kv) :: .int (nI i) :: .ref (ad k) :: rest)) := by
  refine va_astq (r := (RX5, TX5, 7)) hM.x hM.b hM.K hw.1 hw.dd hw.2.1 (L.idxOf k) 5 (L.idxOf kv) 5 (by rw [wl_get hk, hsh]) rfl (by rw [wl_get hkv, sh21 hv]) rfl (vp_in_nI hi (by omega)) hdg (fun H1 locs1 hP hD hS => kk H1 locs1 ⟨?_, hS, hw.2.2⟩)
  rw [nI_clamp (by omega), ← hset, wl_set _ hw.2.2.1.1 hk] at hP
  exact hP
end MKR
