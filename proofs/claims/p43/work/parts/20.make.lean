/-! THE LAW MAKES CELLS: a world with one cell more, with some cells less, with a row in another's place. -/
theorem wl_at {D : va_G} {c : Nat → ClassId} {ad : Nat → Nat} {L : List Nat} {κ : Kp} {H : Heap} : va_P D vwCl (wl c ad L κ) H ↔ ∀ k ∈ L, va_at D vwCl (ad k, sh c ad k (κ k)) H := by
  constructor
  · intro h k hk
    exact h (L.idxOf k) _ (wl_get hk)
  · intro h i q hq
    obtain ⟨k, h1, rfl⟩ := wl_lt hq
    exact h k (List.mem_of_getElem? h1)
theorem app_at {D : va_G} {ws : va_W} {x : Nat × va_E} {H : Heap} (h : va_P D vwCl (ws ++ [x]) H) : va_P D vwCl ws H ∧ va_at D vwCl x H := by
  refine ⟨fun i q hq => h i q ?_, h ws.length x ?_⟩
  · rw [List.getElem?_append_left (List.getElem?_eq_some_iff.mp hq).1]; exact hq
  · rw [List.getElem?_append_right (Nat.le_refl _), Nat.sub_self]; rfl
theorem app_D {A : Nat → Prop} {ws : va_W} {x : Nat × va_E} (h : va_D A (ws ++ [x])) : A x.1 ∧ ∀ (i : Nat) (q : Nat × va_E), ws[i]? = some q → q.1 ≠ x.1 := by
  have hx : (ws ++ [x])[ws.length]? = some x := by
    rw [List.getElem?_append_right (Nat.le_refl _), Nat.sub_self]; rfl
  refine ⟨h.2 _ _ hx, fun i q hq e => ?_⟩
  have hi := (List.getElem?_eq_some_iff.mp hq).1
  have := h.1 i ws.length q x (by rw [List.getElem?_append_left hi]; exact hq) hx e
  omega
/-- what a cell's content looks up among the addresses -/
def dep (ad : Nat → Nat) (k : Nat) (r : Nat → Int32) (x : Nat) : Prop := match kd k with
  | 1 => x = k + 1 ∨ x = k + 2 ∨ x = k + 3
  | 2 => x = k + 1
  | 4 => x = k + 1 ∨ x = k + 46
  | 7 => ∃ i, i < 3 ∧ x = k + 3 + i
  | 8 => ∃ i, i < 6 ∧ x = k + 5 + i
  | 9 => ∃ i, i < 16 ∧ x = k + 10 + 2 * i
  | 15 => x = k + 1 ∨ x = k + 2 ∨ x = k + 3
  | 16 => x = 1000 + k ∨ ∃ i, i < ad (1000 + k) ∧ x = k + 3 + i
  | 17 => x = 1000 + k ∨ ∃ i, i < ad (1000 + k) ∧ x = k + 5 + i
  | 18 => x = 1000 + k ∨ ∃ i, i < ad (1000 + k) ∧ x = k + 10 + 2 * i
  | 21 => x = k + 1
  | 22 => x = 1000 + k ∨ ∃ i, i < ad (1000 + k) ∧ x = k + 1 + i
  | 23 => x = 1000 + k
  | 24 => x = 1000 + k
  | 25 => x = 1000 + k ∨ ∃ i, i < (r 0).toNatClampNeg ∧ x = 104 + 2 * i
  | 26 => x = 1000 + k ∨ ∃ i, i < (r 0).toNatClampNeg ∧ x = (r 1).toNatClampNeg + i
  | _ => False
theorem qr_congr {n : Nat} {f g : Nat → Nat} (h : ∀ i, i < n → f i = g i) : (fun i => if i < n then some (f i) else none) = (fun i => if i < n then some (g i) else none) := by
  funext i
  by_cases c : i < n
  · rw [if_pos c, if_pos c, h i c]
  · rw [if_neg c, if_neg c]
theorem sh_congr {c : Nat → ClassId} {ad ad' : Nat → Nat} {k : Nat} {r : Nat → Int32} (h : ∀ x, dep ad k r x → ad' x = ad x) : sh c ad' k r = sh c ad k r := by
  unfold dep at h
  unfold sh
  generalize kd k = n at h ⊢
  match n, h with
  | 0, h => rfl
  | 1, h => rw [h _ (Or.inl rfl), h _ (Or.inr (Or.inl rfl)), h _ (Or.inr (Or.inr rfl))]; rfl
  | 2, h => rw [h _ rfl]; rfl
  | 3, h => rfl
  | 4, h => rw [h _ (Or.inl rfl), h _ (Or.inr rfl)]; rfl
  | 5, h => rfl
  | 6, h => rfl
  | 7, h => rw [qr_congr (fun i hi => h _ ⟨i, hi, rfl⟩)]; rfl
  | 8, h => rw [qr_congr (fun i hi => h _ ⟨i, hi, rfl⟩)]; rfl
  | 9, h => rw [qr_congr (fun i hi => h _ ⟨i, hi, rfl⟩)]; rfl
  | 10, h => rfl
  | 11, h => rfl
  | 12, h => rfl
  | 13, h => rfl
  | 14, h => rfl
  | 15, h => rw [h _ (Or.inl rfl), h _ (Or.inr (Or.inl rfl)), h _ (Or.inr (Or.inr rfl))]; rfl
  | 16, h => rw [h _ (Or.inl rfl), qr_congr (fun i hi => h _ (Or.inr ⟨i, hi, rfl⟩))]; rfl
  | 17, h => rw [h _ (Or.inl rfl), qr_congr (fun i hi => h _ (Or.inr ⟨i, hi, rfl⟩))]; rfl
  | 18, h => rw [h _ (Or.inl rfl), qr_congr (fun i hi => h _ (Or.inr ⟨i, hi, rfl⟩))]; rfl
  | 19, h => rfl
  | 20, h => rfl
  | 21, h => rw [h _ rfl]; rfl
  | 22, h => rw [h _ (Or.inl rfl), qr_congr (fun i hi => h _ (Or.inr ⟨i, hi, rfl⟩))]; rfl
  | 23, h => rw [h _ rfl]; rfl
  | 24, h => rw [h _ rfl]; rfl
  | 25, h => rw [h _ (Or.inl rfl), qr_congr (fun i hi => h _ (Or.inr ⟨i, hi, rfl⟩))]; rfl
  | 26, h => rw [h _ (Or.inl rfl), qr_congr (fun i hi => h _ (Or.inr ⟨i, hi, rfl⟩))]; rfl
  | 27, h => rfl
  | n + 28, h => rfl
/-- the class's cells look among themselves -/
theorem dep_class {ad : Nat → Nat} {k : Nat} {r : Nat → Int32} {x : Nat} (hk : k < 91) (h : dep ad k r x) : x < 91 := by
  have h1 : ∀ k, k < 91 → (kd k = 1 → k + 3 < 91) ∧ (kd k = 2 → k + 1 < 91) ∧ (kd k = 4 → k + 46 < 91) ∧ (kd k = 7 → k + 5 < 91) ∧ (kd k = 8 → k + 10 < 91) ∧ (kd k = 9 → k + 40 < 91) ∧ kd k < 15 := by decide +kernel
  obtain ⟨a1, a2, a4, a7, a8, a9, a15⟩ := h1 k hk
  unfold dep at h
  generalize kd k = n at h a1 a2 a4 a7 a8 a9 a15
  match n, h, a15 with
  | 0, h, _ => exact h.elim
  | 1, h, _ => have := a1 rfl; replace h : x = k + 1 ∨ x = k + 2 ∨ x = k + 3 := h; omega
  | 2, h, _ => have := a2 rfl; replace h : x = k + 1 := h; omega
  | 3, h, _ => exact h.elim
  | 4, h, _ => have := a4 rfl; replace h : x = k + 1 ∨ x = k + 46 := h; omega
  | 5, h, _ => exact h.elim
  | 6, h, _ => exact h.elim
  | 7, h, _ => have := a7 rfl; obtain ⟨i, hi, rfl⟩ := h; omega
  | 8, h, _ => have := a8 rfl; obtain ⟨i, hi, rfl⟩ := h; omega
  | 9, h, _ => have := a9 rfl; obtain ⟨i, hi, rfl⟩ := h; omega
  | 10, h, _ => exact h.elim
  | 11, h, _ => exact h.elim
  | 12, h, _ => exact h.elim
  | 13, h, _ => exact h.elim
  | 14, h, _ => exact h.elim
  | n + 15, h, q => omega
/-- the law's world: nf fires, ns spits, nr roasts, and the cells T besides -/
def Lm (L : List Nat) (ad : Nat → Nat) (nf ns nr : Nat) (T : List Nat) : Prop := (∀ k, k ∈ L ↔ (k < 95 ∨ (95 ≤ k ∧ k < 95 + nf) ∨ (98 ≤ k ∧ k < 98 + ns) ∨ (104 ≤ k ∧ k < 104 + 2 * nr) ∨ k ∈ T)) ∧ (ad 1092 = nf ∧ ad 1093 = ns ∧ ad 1094 = nr) ∧ (nf ≤ 3 ∧ ns ≤ 6 ∧ nr ≤ 16) ∧ (∀ k ∈ T, 136 ≤ k)
theorem kd_ge : ∀ k, k < 136 → (95 ≤ k → k < 98 → kd k = 19) ∧ (98 ≤ k → k < 104 → kd k = 20) ∧ (104 ≤ k → kd k = 21 ∧ k % 2 = 0 ∨ kd k = 27 ∧ k % 2 = 1) := by decide +kernel
theorem dep_lm {L : List Nat} {ad : Nat → Nat} {nf ns nr : Nat} {T : List Nat} {k x : Nat} {r : Nat → Int32} (hL : Lm L ad nf ns nr T) (hk : k ∈ L) (h : dep ad k r x) : x < 95 ∨ x = 1000 + k ∨ (95 ≤ x ∧ x < 95 + nf) ∨ (98 ≤ x ∧ x < 98 + ns) ∨ (104 ≤ x ∧ x < 104 + 2 * nr) ∨ (k ∈ T) := by
  obtain ⟨hm, ⟨e1, e2, e3⟩, ⟨b1, b2, b3⟩, hT⟩ := hL
  by_cases hkT : k ∈ T
  · exact Or.inr (Or.inr (Or.inr (Or.inr (Or.inr hkT))))
  by_cases hk9 : k < 91
  · have := dep_class hk9 h
    omega
  have hk1 := (hm k).mp hk
  have hk136 : k < 136 := by
    rcases hk1 with q | q | q | q | q
    · omega
    · omega
    · omega
    · omega
    · exact absurd q hkT
  obtain ⟨a19, a20, a21⟩ := kd_ge k hk136
  unfold dep at h
  rcases hk1 with q | q | q | q | q
  · have hk4 : k = 91 ∨ k = 92 ∨ k = 93 ∨ k = 94 := by omega
    rcases hk4 with rfl | rfl | rfl | rfl
    · rw [kd_91] at h; replace h : x = 91 + 1 ∨ x = 91 + 2 ∨ x = 91 + 3 := h; omega
    · rw [kd_92] at h
      rcases h with h | ⟨i, hi, rfl⟩
      · omega
      · rw [e1] at hi; omega
    · rw [kd_93] at h
      rcases h with h | ⟨i, hi, rfl⟩
      · omega
      · rw [e2] at hi; omega
    · rw [kd_94] at h
      rcases h with h | ⟨i, hi, rfl⟩
      · omega
      · rw [e3] at hi; omega
  · rw [a19 q.1 (by omega)] at h; exact h.elim
  · rw [a20 q.1 (by omega)] at h; exact h.elim
  · rcases a21 q.1 with ⟨z, z2⟩ | ⟨z, z2⟩
    · rw [z] at h; replace h : x = k + 1 := h; omega
    · rw [z] at h; exact h.elim
  · exact absurd q hkT
/-- a temporary row looks up its length alone, but for those of references -/
theorem dep_tmp {ad : Nat → Nat} {k x : Nat} {r : Nat → Int32} (hk : (153 ≤ k ∧ k < 162) ∨ (137 ≤ k ∧ k < 153)) (h : dep ad k r x) : x = 1000 + k := by
  have h1 : ∀ k, k < 164 → ((153 ≤ k ∧ k < 162) ∨ (137 ≤ k ∧ k < 153)) → kd k = 23 ∨ kd k = 24 ∨ kd k = 27 := by decide +kernel
  unfold dep at h
  rcases h1 k (by omega) hk with e | e | e
  · rw [e] at h; exact h
  · rw [e] at h; exact h
  · rw [e] at h; exact h.elim
section ADD
variable {s : State} {H H1 : Heap} {locs locs1 : List Loc} {A : Nat → Prop} {D : va_G} {cA : Nat → ClassId} {L : List Nat} {ad ad' : Nat → Nat} {κ : Kp} {k q : Nat} {e : va_E}
/-- one cell more -/
theorem Wa.add (hw : Wa A D cA L ad s κ H locs) (hk : k ∉ L) (h164 : k < 164) (r : Nat → Int32) (hP : va_P D vwCl (wl cA ad L κ ++ [(q, e)]) H1) (hD : va_D A (wl cA ad L κ ++ [(q, e)])) (hS : va_S A s.heap H1 locs1) (hq : ad' k = q) (hst : ∀ j ∈ L, ad' j = ad j ∧ sh cA ad' j (κ j) = sh cA ad j (κ j)) (he : e = sh cA ad' k r) : Wa A D cA (L ++ [k]) ad' s (va_up κ k r) H1 locs1 := by
  obtain ⟨p1, p2⟩ := app_at hP
  obtain ⟨d1, d2⟩ := app_D hD
  obtain ⟨g1, g2, g3, g4, g5⟩ := hw.2.2.1
  have hne : ∀ j ∈ L, ad j ≠ q := fun j hj => d2 _ _ (wl_get hj)
  have hjk : ∀ j ∈ L, j ≠ k := fun j hj z => hk (z ▸ hj)
  refine ⟨wl_at.mpr (fun j hj => ?_), hS, ⟨?_, ?_, ?_, ?_, ?_⟩, hw.2.2.2⟩
  · rcases List.mem_append.mp hj with h | h
    · rw [va_up_ne κ r (hjk j h), (hst j h).1, (hst j h).2]
      exact wl_at.mp p1 j h
    · rw [List.mem_singleton] at h
      subst h
      rw [va_up_self, hq, ← he]
      exact p2
  · rw [List.nodup_append]
    refine ⟨g1, List.nodup_cons.mpr ⟨List.not_mem_nil, List.nodup_nil⟩, fun a ha b hb => ?_⟩
    rw [List.mem_singleton] at hb
    subst hb
    exact hjk a ha
  · intro i hi j hj hij
    rcases List.mem_append.mp hi with h | h
    · rcases List.mem_append.mp hj with h2 | h2
      · rw [(hst i h).1, (hst j h2).1] at hij
        exact g2 i h j h2 hij
      · rw [List.mem_singleton] at h2
        subst h2
        rw [(hst i h).1, hq] at hij
        exact absurd hij (hne i h)
    · rw [List.mem_singleton] at h
      subst h
      rcases List.mem_append.mp hj with h2 | h2
      · rw [(hst j h2).1, hq] at hij
        exact absurd hij.symm (hne j h2)
      · rw [List.mem_singleton] at h2
        exact h2.symm
  · intro j hj
    rcases List.mem_append.mp hj with h | h
    · rw [(hst j h).1]; exact g3 j h
    · rw [List.mem_singleton] at h
      subst h
      rw [hq]; exact d1
  · exact fun j hj => List.mem_append_left _ (g4 j hj)
  · intro j hj
    rcases List.mem_append.mp hj with h | h
    · exact g5 j h
    · rw [List.mem_singleton] at h
      subst h
      exact h164
/-- some cells less -/
theorem Wa.drop (hw : Wa A D cA L ad s κ H locs) (f : Nat → Bool) (hf : ∀ k, k < 91 → f k = true) : Wa A D cA (L.filter f) ad s κ H locs := by
  obtain ⟨g1, g2, g3, g4, g5⟩ := hw.2.2.1
  refine ⟨wl_at.mpr (fun j hj => wl_at.mp hw.1 j (List.mem_filter.mp hj).1), hw.2.1, ⟨g1.filter f, fun i hi j hj => g2 i (List.mem_filter.mp hi).1 j (List.mem_filter.mp hj).1, fun j hj => g3 j (List.mem_filter.mp hj).1, fun j hj => List.mem_filter.mpr ⟨g4 j hj, hf j hj⟩, fun j hj => g5 j (List.mem_filter.mp hj).1⟩, hw.2.2.2⟩
/-- the same cells, known by other addresses that nobody looks up, and other numbers that no cell holds -/
theorem Wa.sames (hw : Wa A D cA L ad s κ H locs) {κ' : Kp} (hκ : ∀ k ∈ L, κ' k = κ k) : Wa A D cA L ad s κ' H locs :=
  ⟨wl_at.mpr (fun j hj => by rw [hκ j hj]; exact wl_at.mp hw.1 j hj), hw.2.1, hw.2.2⟩
end ADD
/-- the addresses, with cell k at q, of length n -/
def adn (ad : Nat → Nat) (k q n : Nat) : Nat → Nat := va_up (va_up ad k q) (1000 + k) n
section ADN
variable {ad : Nat → Nat} {k q n x : Nat}
theorem adn_at : adn ad k q n k = q := by unfold adn; rw [va_up_ne _ _ (by omega), va_up_self]
theorem adn_len : adn ad k q n (1000 + k) = n := va_up_self _ _ _
theorem adn_ne (h1 : x ≠ k) (h2 : x ≠ 1000 + k) : adn ad k q n x = ad x := by unfold adn; rw [va_up_ne _ _ h2, va_up_ne _ _ h1]
theorem adn_st {cA : Nat → ClassId} {L : List Nat} {κ : Kp} (hk : k ∉ L) (hL : ∀ j ∈ L, j < 164) (h164 : k < 164) (hd : ∀ j ∈ L, ∀ x, dep ad j (κ j) x → x ≠ k ∧ x ≠ 1000 + k) : ∀ j ∈ L, adn ad k q n j = ad j ∧ sh cA (adn ad k q n) j (κ j) = sh cA ad j (κ j) := by
  intro j hj
  have hjk : j ≠ k := fun z => hk (z ▸ hj)
  have h1 := hL j hj
  exact ⟨adn_ne hjk (by omega), sh_congr (fun x hx => adn_ne (hd j hj x hx).1 (hd j hj x hx).2)⟩
end ADN
