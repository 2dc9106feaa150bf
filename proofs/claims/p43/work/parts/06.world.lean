/-! THE WORLD: cells by number. 0: the class's object; 1..45, 46..90: its two kitchens; 91: the law's kitchen, 92..94 its rows, 95.. fires, 98.. spits, 104 + 2 * i a roast, behind it its sides; 136: the law's row of rows, 137.. its rows, 153..161: rows of numbers; 162, 163: rows being made. Which of them are there: L; where: ad (and ad (1000 + k): how long row k is); their numbers: Kp. -/
abbrev Kp : Type := Nat → Nat → Int32
abbrev Gt : Type := (va_G × List Nat) × (Nat → ClassId) × (Nat → Nat)
abbrev Qr (f : Nat → Option Nat) : (Nat → Int32) ⊕ (Nat → Int64) ⊕ (Nat → UInt32) ⊕ (Nat → UInt64) ⊕ (Nat → Option Nat) := .inr (.inr (.inr (.inr f)))
def up2 (κ : Kp) (k j : Nat) (v : Int32) : Kp := va_up κ k (va_up (κ k) j v)
theorem up2_at (κ : Kp) (k j : Nat) (v : Int32) (q i : Nat) : up2 κ k j v q i = if q = k ∧ i = j then v else κ q i := by
  unfold up2 va_up
  by_cases h1 : q = k
  · subst h1
    by_cases h2 : i = j
    · simp [h2]
    · simp [h2]
  · simp [h1]
theorem up2_self (κ : Kp) (k j : Nat) (v : Int32) : up2 κ k j v k j = v := by rw [up2_at]; simp
theorem up2_ne (κ : Kp) {k j : Nat} (v : Int32) {q i : Nat} (h : q ≠ k ∨ i ≠ j) : up2 κ k j v q i = κ q i := by
  rw [up2_at, if_neg]
  rintro ⟨a, b⟩
  rcases h with h | h
  · exact h a
  · exact h b
theorem up2_row {κ : Kp} {k j : Nat} {v : Int32} {q : Nat} (h : ¬ q = k) : up2 κ k j v q = κ q := by
  funext i
  exact up2_ne κ v (Or.inl h)
/-- the kind of a cell -/
def kdL : List Nat := [4] ++ [1, 7, 8, 9, 0, 0, 0, 3, 3, 3, 3, 3, 3, 2, 6, 2, 6, 2, 6, 2, 6, 2, 6, 2, 6, 2, 6, 2, 6, 2, 6, 2, 6, 2, 6, 2, 6, 2, 6, 2, 6, 2, 6, 2, 6] ++ [1, 7, 8, 9, 0, 0, 0, 3, 3, 3, 3, 3, 3, 2, 6, 2, 6, 2, 6, 2, 6, 2, 6, 2, 6, 2, 6, 2, 6, 2, 6, 2, 6, 2, 6, 2, 6, 2, 6, 2, 6, 2, 6, 2, 6] ++ [15, 16, 17, 18, 19, 19, 19, 20, 20, 20, 20, 20, 20, 21, 27, 21, 27, 21, 27, 21, 27, 21, 27, 21, 27, 21, 27, 21, 27, 21, 27, 21, 27, 21, 27, 21, 27, 21, 27, 21, 27, 21, 27, 21, 27, 22, 27, 27, 27, 27, 27, 27, 27, 27, 27, 27, 27, 27, 27, 27, 27, 27, 23, 23, 23, 24, 23, 23, 23, 23, 23, 25, 26]
def kd (k : Nat) : Nat := kdL.getD k 99
theorem kd_lt0 : ∀ k, k < 164 → kd k < 15 → k < 91 := by decide +kernel
theorem kd_out {k : Nat} (h : 164 ≤ k) : kd k = 99 := by
  unfold kd
  rw [List.getD_eq_getElem?_getD, List.getElem?_eq_none (by simpa [kdL] using h)]
  rfl
theorem kd_lt {k n : Nat} (h : kd k = n) (hn : n < 15) : k < 91 := by
  rcases Nat.lt_or_ge k 164 with q | q
  · exact kd_lt0 k q (by omega)
  · have := kd_out q
    omega
theorem kd_164 {k n : Nat} (h : kd k = n) (hn : n < 99) : k < 164 := by
  rcases Nat.lt_or_ge k 164 with q | q
  · exact q
  · have := kd_out q
    omega
/-- what a cell holds, by its kind -/
def sh (c : Nat → ClassId) (ad : Nat → Nat) (k : Nat) (r : Nat → Int32) : va_E := match kd k with
  | 0 => .inr (0, [.int (r 0), .int (r 1), .int (r 2)])
  | 1 => .inr (1, [.ref (ad (k + 1)), .ref (ad (k + 2)), .ref (ad (k + 3)), .int (r 3), .int (r 4), .int (r 5), .int (r 6), .int (r 7)])
  | 2 => .inr (2, [.ref (ad (k + 1)), .int (r 1), .int (r 2), .int (r 3), .int (r 4), .int (r 5)])
  | 3 => .inr (3, [.int (r 0), .int (r 1), .int (r 2), .int (r 3), .int (r 4), .int (r 5)])
  | 4 => .inr (4, [.ref (ad (k + 1)), .ref (ad (k + 46))])
  | 6 => .inl (c 0, 4, .inl r)
  | 7 => .inl (c 2, 3, Qr (fun i => if i < 3 then some (ad (k + 3 + i)) else none))
  | 8 => .inl (c 3, 6, Qr (fun i => if i < 6 then some (ad (k + 5 + i)) else none))
  | 9 => .inl (c 4, 16, Qr (fun i => if i < 16 then some (ad (k + 10 + 2 * i)) else none))
  | 15 => .inr (6, [.int (r 0), .int (r 1), .ref (ad (k + 1)), .ref (ad (k + 2)), .ref (ad (k + 3))])
  | 16 => .inl (c 1, ad (1000 + k), Qr (fun i => if i < ad (1000 + k) then some (ad (k + 3 + i)) else none))
  | 17 => .inl (c 1, ad (1000 + k), Qr (fun i => if i < ad (1000 + k) then some (ad (k + 5 + i)) else none))
  | 18 => .inl (c 5, ad (1000 + k), Qr (fun i => if i < ad (1000 + k) then some (ad (k + 10 + 2 * i)) else none))
  | 19 => .inl (c 0, 2, .inl r)
  | 20 => .inl (c 0, 6, .inl r)
  | 21 => .inr (5, [.int (r 0), .int (r 1), .int (r 2), .int (r 3), .int (r 4), .int (r 5), .ref (ad (k + 1))])
  | 22 => .inl (c 1, ad (1000 + k), Qr (fun i => if i < ad (1000 + k) then some (ad (k + 1 + i)) else none))
  | 23 => .inl (c 0, ad (1000 + k), .inl r)
  | 24 => .inl (c 6, ad (1000 + k), .inl r)
  | 25 => .inl (c 5, ad (1000 + k), Qr (fun i => if i < (r 0).toNatClampNeg then some (ad (104 + 2 * i)) else none))
  | 26 => .inl (c 1, ad (1000 + k), Qr (fun i => if i < (r 0).toNatClampNeg then some (ad ((r 1).toNatClampNeg + i)) else none))
  | 27 => .inl (c 0, 4, .inl r)
  | _ => .inl (c 0, 0, .inl r)
section SH
variable {c : Nat → ClassId} {ad : Nat → Nat} {k : Nat} {r : Nat → Int32}
theorem sh0 (h : kd k = 0) : sh c ad k r = .inr (0, [.int (r 0), .int (r 1), .int (r 2)]) := by unfold sh; rw [h]; rfl
theorem sh1 (h : kd k = 1) : sh c ad k r = .inr (1, [.ref (ad (k + 1)), .ref (ad (k + 2)), .ref (ad (k + 3)), .int (r 3), .int (r 4), .int (r 5), .int (r 6), .int (r 7)]) := by unfold sh; rw [h]; rfl
theorem sh2 (h : kd k = 2) : sh c ad k r = .inr (2, [.ref (ad (k + 1)), .int (r 1), .int (r 2), .int (r 3), .int (r 4), .int (r 5)]) := by unfold sh; rw [h]; rfl
theorem sh3 (h : kd k = 3) : sh c ad k r = .inr (3, [.int (r 0), .int (r 1), .int (r 2), .int (r 3), .int (r 4), .int (r 5)]) := by unfold sh; rw [h]; rfl
theorem sh4 (h : kd k = 4) : sh c ad k r = .inr (4, [.ref (ad (k + 1)), .ref (ad (k + 46))]) := by unfold sh; rw [h]; rfl
theorem sh6 (h : kd k = 6) : sh c ad k r = .inl (c 0, 4, .inl r) := by unfold sh; rw [h]; rfl
theorem sh7 (h : kd k = 7) : sh c ad k r = .inl (c 2, 3, Qr (fun i => if i < 3 then some (ad (k + 3 + i)) else none)) := by unfold sh; rw [h]; rfl
theorem sh8 (h : kd k = 8) : sh c ad k r = .inl (c 3, 6, Qr (fun i => if i < 6 then some (ad (k + 5 + i)) else none)) := by unfold sh; rw [h]; rfl
theorem sh9 (h : kd k = 9) : sh c ad k r = .inl (c 4, 16, Qr (fun i => if i < 16 then some (ad (k + 10 + 2 * i)) else none)) := by unfold sh; rw [h]; rfl
theorem sh15 (h : kd k = 15) : sh c ad k r = .inr (6, [.int (r 0), .int (r 1), .ref (ad (k + 1)), .ref (ad (k + 2)), .ref (ad (k + 3))]) := by unfold sh; rw [h]; rfl
theorem sh16 (h : kd k = 16) : sh c ad k r = .inl (c 1, ad (1000 + k), Qr (fun i => if i < ad (1000 + k) then some (ad (k + 3 + i)) else none)) := by unfold sh; rw [h]; rfl
theorem sh17 (h : kd k = 17) : sh c ad k r = .inl (c 1, ad (1000 + k), Qr (fun i => if i < ad (1000 + k) then some (ad (k + 5 + i)) else none)) := by unfold sh; rw [h]; rfl
theorem sh18 (h : kd k = 18) : sh c ad k r = .inl (c 5, ad (1000 + k), Qr (fun i => if i < ad (1000 + k) then some (ad (k + 10 + 2 * i)) else none)) := by unfold sh; rw [h]; rfl
theorem sh19 (h : kd k = 19) : sh c ad k r = .inl (c 0, 2, .inl r) := by unfold sh; rw [h]; rfl
theorem sh20 (h : kd k = 20) : sh c ad k r = .inl (c 0, 6, .inl r) := by unfold sh; rw [h]; rfl
theorem sh21 (h : kd k = 21) : sh c ad k r = .inr (5, [.int (r 0), .int (r 1), .int (r 2), .int (r 3), .int (r 4), .int (r 5), .ref (ad (k + 1))]) := by unfold sh; rw [h]; rfl
theorem sh22 (h : kd k = 22) : sh c ad k r = .inl (c 1, ad (1000 + k), Qr (fun i => if i < ad (1000 + k) then some (ad (k + 1 + i)) else none)) := by unfold sh; rw [h]; rfl
theorem sh23 (h : kd k = 23) : sh c ad k r = .inl (c 0, ad (1000 + k), .inl r) := by unfold sh; rw [h]; rfl
theorem sh24 (h : kd k = 24) : sh c ad k r = .inl (c 6, ad (1000 + k), .inl r) := by unfold sh; rw [h]; rfl
theorem sh25 (h : kd k = 25) : sh c ad k r = .inl (c 5, ad (1000 + k), Qr (fun i => if i < (r 0).toNatClampNeg then some (ad (104 + 2 * i)) else none)) := by unfold sh; rw [h]; rfl
theorem sh26 (h : kd k = 26) : sh c ad k r = .inl (c 1, ad (1000 + k), Qr (fun i => if i < (r 0).toNatClampNeg then some (ad ((r 1).toNatClampNeg + i)) else none)) := by unfold sh; rw [h]; rfl
theorem sh27 (h : kd k = 27) : sh c ad k r = .inl (c 0, 4, .inl r) := by unfold sh; rw [h]; rfl
end SH
/-- the kinds of a kitchen's parts -/
theorem kd_kit : ∀ k, k < 91 → kd k = 1 → kd (k + 1) = 7 ∧ kd (k + 2) = 8 ∧ kd (k + 3) = 9 ∧ (∀ i, i < 3 → kd (k + 4 + i) = 0) ∧ (∀ i, i < 6 → kd (k + 7 + i) = 3) ∧ (∀ i, i < 16 → kd (k + 13 + 2 * i) = 2) ∧ (k = 1 ∨ k = 46) := by decide +kernel
theorem kd_roast : ∀ k, k < 91 → kd k = 2 → kd (k + 1) = 6 := by decide +kernel
section KD
variable {k i : Nat}
theorem kd1_7 (h : kd k = 1) : kd (k + 1) = 7 := (kd_kit k (kd_lt h (by decide)) h).1
theorem kd1_8 (h : kd k = 1) : kd (k + 2) = 8 := (kd_kit k (kd_lt h (by decide)) h).2.1
theorem kd1_9 (h : kd k = 1) : kd (k + 3) = 9 := (kd_kit k (kd_lt h (by decide)) h).2.2.1
theorem kd1_0 (h : kd k = 1) (hi : i < 3) : kd (k + 4 + i) = 0 := (kd_kit k (kd_lt h (by decide)) h).2.2.2.1 i hi
theorem kd1_3 (h : kd k = 1) (hi : i < 6) : kd (k + 7 + i) = 3 := (kd_kit k (kd_lt h (by decide)) h).2.2.2.2.1 i hi
theorem kd1_2 (h : kd k = 1) (hi : i < 16) : kd (k + 13 + 2 * i) = 2 := (kd_kit k (kd_lt h (by decide)) h).2.2.2.2.2.1 i hi
theorem kd1_or (h : kd k = 1) : k = 1 ∨ k = 46 := (kd_kit k (kd_lt h (by decide)) h).2.2.2.2.2.2
theorem kd2_6 (h : kd k = 2) : kd (k + 1) = 6 := kd_roast k (kd_lt h (by decide)) h
end KD
theorem kd_0 : kd 0 = 4 := by decide
theorem kd_1 : kd 1 = 1 := by decide
theorem kd_46 : kd 46 = 1 := by decide
theorem kd_91 : kd 91 = 15 := by decide
theorem kd_92 : kd 92 = 16 := by decide
theorem kd_93 : kd 93 = 17 := by decide
theorem kd_94 : kd 94 = 18 := by decide
theorem kd_136 : kd 136 = 22 := by decide
theorem kd_156 : kd 156 = 24 := by decide
theorem kd_162 : kd 162 = 25 := by decide
theorem kd_163 : kd 163 = 26 := by decide
theorem kdF : ∀ i, i < 3 → kd (95 + i) = 19 := by decide +kernel
theorem kdS : ∀ i, i < 6 → kd (98 + i) = 20 := by decide +kernel
theorem kdR : ∀ i, i < 16 → kd (104 + 2 * i) = 21 ∧ kd (104 + 2 * i + 1) = 27 := by decide +kernel
theorem kdB : ∀ i, i < 16 → kd (137 + i) = 27 := by decide +kernel
theorem kd21_27 {k : Nat} (h : kd k = 21) : kd (k + 1) = 27 := by
  have h1 : ∀ k, k < 164 → kd k = 21 → kd (k + 1) = 27 := by decide +kernel
  exact h1 k (kd_164 h (by decide)) h
/-- the cells that are there, each where it is -/
def wl (c : Nat → ClassId) (ad : Nat → Nat) (L : List Nat) (κ : Kp) : va_W := L.map fun k => (ad k, sh c ad k (κ k))
theorem ix_ne {a k : Nat} {t : List Nat} (e : ¬ a = k) : (a :: t).idxOf k = t.idxOf k + 1 := by
  have h : (a == k) = false := by simp [e]
  rw [List.idxOf_cons, h]; rfl
theorem ix_get {L : List Nat} {k : Nat} (h : k ∈ L) : L[L.idxOf k]? = some k := by
  induction L with
  | nil => cases h
  | cons a t ih =>
    by_cases e : a = k
    · subst e
      rw [List.idxOf_cons_self]; rfl
    · have ht : k ∈ t := by
        rcases List.mem_cons.mp h with q | q
        · exact absurd q.symm e
        · exact q
      rw [ix_ne e]
      exact ih ht
section WL
variable {c : Nat → ClassId} {ad : Nat → Nat} {L : List Nat} {κ : Kp} {k : Nat}
theorem wl_get (h : k ∈ L) : (wl c ad L κ)[L.idxOf k]? = some (ad k, sh c ad k (κ k)) := by
  unfold wl
  rw [List.getElem?_map, ix_get h]; rfl
theorem wl_lt {i : Nat} {q : Nat × va_E} (h : (wl c ad L κ)[i]? = some q) : ∃ k, L[i]? = some k ∧ q = (ad k, sh c ad k (κ k)) := by
  unfold wl at h
  rw [List.getElem?_map, Option.map_eq_some_iff] at h
  obtain ⟨k, h1, h2⟩ := h
  exact ⟨k, h1, h2.symm⟩
theorem wl_set (r : Nat → Int32) (hn : L.Nodup) (hk : k ∈ L) : (wl c ad L κ).set (L.idxOf k) (ad k, sh c ad k r) = wl c ad L (va_up κ k r) := by
  induction L with
  | nil => cases hk
  | cons a t ih =>
    obtain ⟨hn1, hn2⟩ := List.nodup_cons.mp hn
    by_cases e : a = k
    · subst e
      rw [List.idxOf_cons_self]
      show (ad a, sh c ad a r) :: wl c ad t κ = (ad a, sh c ad a (va_up κ a r a)) :: wl c ad t (va_up κ a r)
      rw [va_up_self]
      congr 1
      apply List.map_congr_left
      intro q hq
      rw [va_up_ne κ r (fun z : q = a => hn1 (by rw [← z]; exact hq))]
    · have ht : k ∈ t := by
        rcases List.mem_cons.mp hk with q | q
        · exact absurd q.symm e
        · exact q
      rw [ix_ne e]
      show (ad a, sh c ad a (κ a)) :: (wl c ad t κ).set (t.idxOf k) (ad k, sh c ad k r) = (ad a, sh c ad a (va_up κ k r a)) :: wl c ad t (va_up κ k r)
      rw [ih hn2 ht, va_up_ne κ r e]
end WL
/-- the cells' addresses: apart, in A; the class's cells are there -/
def Gok (A : Nat → Prop) (L : List Nat) (ad : Nat → Nat) : Prop := L.Nodup ∧ (∀ i ∈ L, ∀ j ∈ L, ad i = ad j → i = j) ∧ (∀ k ∈ L, A (ad k)) ∧ (∀ k, k < 91 → k ∈ L) ∧ (∀ k ∈ L, k < 164)
theorem Gok.to {A B : Nat → Prop} {L : List Nat} {ad : Nat → Nat} (h : Gok A L ad) (hB : ∀ k ∈ L, B (ad k)) : Gok B L ad := ⟨h.1, h.2.1, hB, h.2.2.2⟩
theorem wl_D {A : Nat → Prop} {c : Nat → ClassId} {L : List Nat} {ad : Nat → Nat} (h : Gok A L ad) (κ : Kp) : va_D A (wl c ad L κ) := by
  refine ⟨fun i j p q h1 h2 e => ?_, fun k q h1 => ?_⟩
  · obtain ⟨a, a1, rfl⟩ := wl_lt h1
    obtain ⟨b, b1, rfl⟩ := wl_lt h2
    have hab : a = b := h.2.1 a (List.mem_of_getElem? a1) b (List.mem_of_getElem? b1) e
    subst hab
    obtain ⟨i1, i2⟩ := List.getElem?_eq_some_iff.mp a1
    obtain ⟨j1, j2⟩ := List.getElem?_eq_some_iff.mp b1
    rcases Nat.lt_trichotomy i j with q | q | q
    · exact absurd (i2.trans j2.symm) (List.pairwise_iff_getElem.mp h.1 i j i1 j1 q)
    · exact q
    · exact absurd (j2.trans i2.symm) (List.pairwise_iff_getElem.mp h.1 j i j1 i1 q)
  · obtain ⟨a, a1, rfl⟩ := wl_lt h1
    exact h.2.2.1 a (List.mem_of_getElem? a1)
def fr (g : Gt) (sz : Nat) : Nat → Prop := fun q => (∃ k, k ∈ g.1.2 ∧ q = g.2.2 k) ∨ sz ≤ q
def tyl (c : Nat → ClassId) : List (ClassId × FieldType) := [(c 0, .int), (c 1, .array .int), (c 2, .object "KitchenSpits$Fire"), (c 3, .object "KitchenSpits$Spit"), (c 4, .object "KitchenSpits$Roast"), (c 5, .object "KitchenSpitsLaw$Roast"), (c 6, .boolean)]
def nISE : String := "java/lang/IllegalStateException"
def nIAE : String := "java/lang/IllegalArgumentException"
def nIOE : String := "java/lang/IndexOutOfBoundsException"
/-- words of the tables that aren't good ones, but hold through calls all the same -/
def nwl : List Cond := [.castable nISE nISE, .castable nIAE nIAE, .castable nIOE nIOE, .declares ⟨"java/lang/RuntimeException", "<init>", "(Ljava/lang/String;)V"⟩, .declares ⟨"java/lang/Exception", "<init>", "(Ljava/lang/String;)V"⟩, .declares ⟨"java/lang/Throwable", "<init>", "(Ljava/lang/String;)V"⟩]
theorem nwl_warm {w : Cond} (h : w ∈ nwl) {s U : State} (hW : s.WarmedH U.vm) (hz : va_Nw w s) : va_Nw w U := by
  simp only [nwl, List.mem_cons, List.not_mem_nil, or_false] at h
  rcases h with rfl | rfl | rfl | rfl | rfl | rfl
  · exact va_Nw.warmC hW hz
  · exact va_Nw.warmC hW hz
  · exact va_Nw.warmC hW hz
  · exact va_Nw.warmD hW hz
  · exact va_Nw.warmD hW hz
  · exact va_Nw.warmD hW hz
theorem nwl_tab {w : Cond} (h : w ∈ nwl) : w.onTables = true := by
  simp only [nwl, List.mem_cons, List.not_mem_nil, or_false] at h
  rcases h with rfl | rfl | rfl | rfl | rfl | rfl <;> rfl
def strl : List (Nat × String) := [(25, "there are 3 fires"), (213, "there is no such fire"), (36, "logs is not 1 to 40"), (227, "feet is not 1 to 3"), (58, "there are 6 spits"), (218, "there is no such spit"), (69, "minutes is not 0 to 9"), (77, "minute is not 0 to 5000"), (229, "pounds is not 1 to 12"), (88, "the spit has a roast, or 16 roasts were hung already"), (225, "the spit has no roast"), (105, "the pan has less than 2 drippings"), (116, "minutes is not 1 to 200"), (223, "there is no such roast"), (157, "side is not 0 to 3")]
/-- what the law's own making of things stands on -/
def EnvL (U : State) : Prop := va_AOA .int U ∧ va_AO "KitchenSpitsLaw$Roast" U ∧ va_Nw (.methodLinkNest RX6 28 yX5_init "KitchenSpitsLaw") U ∧ va_Nw (.methodLinkNest RL 95 yX6_init "KitchenSpitsLaw") U
theorem EnvL.warm {s U : State} (hW : s.WarmedH U.vm) (h : EnvL s) : EnvL U := ⟨va_AOA.moved hW.alike h.1, va_AO.moved hW.alike h.2.1, va_Nw.warmM hW h.2.2.1, va_Nw.warmM hW h.2.2.2⟩
theorem EnvL.same {s U : State} (e : s.vm = U.vm) (h : EnvL s) : EnvL U := by
  have hal : s.vm.Alike U.vm := by rw [e]; exact Vm.Alike.refl _
  exact ⟨va_AOA.moved hal h.1, va_AO.moved hal h.2.1, va_Nw.same rfl e h.2.2.1, va_Nw.same rfl e h.2.2.2⟩
/-- what holds besides the cells: what a throw needs, and what the law needs -/
def Env0 (U : State) : Prop := (∀ w ∈ nwl, va_Nw w U) ∧ (∀ q ∈ strl, ∃ a, vk_R RX4 q.1 q.2 a U) ∧ True ∧ True ∧ True ∧ EnvL U
def Zs (A : Nat → Prop) (U : State) (H : Heap) : Prop := vx_Zq Bundle.tN "UNASSIGNED_STACK" Bundle.steD A U H ∧ vx_Zq Bundle.tN "SUPPRESSED_SENTINEL" Bundle.listD A U H
def Ec (D : va_G) (cA : Nat → ClassId) (U : State) : Prop := va_K D vwCl (tyl cA) U ∧ Env0 U
def Env1 (g : Gt) (U : State) : Prop := Ec g.1.1 g.2.1 U ∧ Gok (fr g U.heap.size) g.1.2 g.2.2 ∧ Zs (fr g U.heap.size) U U.heap
def Wp (g : Gt) (κ : Kp) (U : State) : Prop := va_P g.1.1 vwCl (wl g.2.1 g.2.2 g.1.2 κ) U.heap
def Wd (g : Gt) (κ : Kp) (U : State) : Prop := Wp g κ U ∧ Env1 g U
theorem Env0.warm {s U : State} (hW : s.WarmedH U.vm) (h : Env0 s) : Env0 U :=
  ⟨fun w hw => nwl_warm hw hW (h.1 w hw), fun q hq => by obtain ⟨a, ha⟩ := h.2.1 q hq; exact ⟨a, vk_R.warm hW ha⟩, trivial, trivial, trivial, h.2.2.2.2.2.warm hW⟩
theorem Env0.same {s U : State} (e : s.vm = U.vm) (h : Env0 s) : Env0 U :=
  ⟨fun w hw => va_Nw.same (nwl_tab hw) e (h.1 w hw), fun q hq => by obtain ⟨a, ha⟩ := h.2.1 q hq; exact ⟨a, vk_R.same e.symm ha⟩, trivial, trivial, trivial, h.2.2.2.2.2.same e⟩
theorem Ec.warm {D : va_G} {cA : Nat → ClassId} {s U : State} (hW : s.WarmedH U.vm) (h : Ec D cA s) : Ec D cA U := ⟨va_K.moved hW.alike h.1, h.2.warm hW⟩
theorem Wd.blind {g : Gt} {κ : Kp} {U : State} (a : Array Value) (f : JFrame) (mk : MethodId) (h : Wd g κ U) : Wd g κ (U.calling f mk a) := by
  obtain ⟨h1, ⟨hK, h0⟩, hi, hz⟩ := h
  have hal : U.vm.Alike (U.calling f mk a).vm := Vm.Alike.refl U.vm
  refine ⟨h1, ⟨va_K.moved hal hK, Env0.same (s := U) (U := U.calling f mk a) rfl h0⟩, hi, vx_Zq.moved hal hz.1, vx_Zq.moved hal hz.2⟩
/-- in a method: the cells now, and what has been written since its start -/
def Wa (A : Nat → Prop) (D : va_G) (cA : Nat → ClassId) (L : List Nat) (ad : Nat → Nat) (s : State) (κ : Kp) (H : Heap) (locs : List Loc) : Prop := va_P D vwCl (wl cA ad L κ) H ∧ va_S A s.heap H locs ∧ Gok A L ad ∧ ∀ q, s.heap.size ≤ q → A q
abbrev Ws (g : Gt) (s : State) (κ : Kp) (H : Heap) (locs : List Loc) : Prop := Wa (fr g s.heap.size) g.1.1 g.2.1 g.1.2 g.2.2 s κ H locs
def Ma (A : Nat → Prop) (D : va_G) (cA : Nat → ClassId) (p : Program) (s : State) (m : MethodId) (args : Array Value) (meth : Method) (c : Code) (cc : ByteArray) (nL : Nat) (own : String) : Prop :=
  CallFix p m c cc nL s args uW own ∧ Ec D cA s ∧ Zs A s s.heap ∧ meth.locks = false
abbrev Mc (g : Gt) (p : Program) (s : State) (m : MethodId) (args : Array Value) (meth : Method) (c : Code) (cc : ByteArray) (nL : Nat) (own : String) : Prop := Ma (fr g s.heap.size) g.1.1 g.2.1 p s m args meth c cc nL own
section WAM
variable {p : Program} {s U : State} {m : MethodId} {args : Array Value} {meth : Method} {c : Code} {H : Heap} {locs : List Loc}
variable {cc : ByteArray} {nL k n : Nat} {A : Nat → Prop} {D : va_G} {cA : Nat → ClassId} {L : List Nat} {ad : Nat → Nat} {κ : Kp} {own : String}
theorem Wa.dm (hw : Wa A D cA L ad s κ H locs) (h : kd k = n) (hn : n < 15) : k ∈ L := hw.2.2.1.2.2.2.1 k (kd_lt h hn)
theorem Wa.dd (hw : Wa A D cA L ad s κ H locs) : va_D A (wl cA ad L κ) := wl_D hw.2.2.1 κ
theorem fr_lt (hw : Wa A D cA L ad s κ H locs) : ∀ q, fr ((D, L), cA, ad) H.size q → A q := by
  intro q h
  rcases h with ⟨k, hk, rfl⟩ | h
  · exact hw.2.2.1.2.2.1 k hk
  · exact hw.2.2.2 q (Nat.le_trans hw.2.1.1 h)
theorem Wd.warm (hM : Ma A D cA p s m args meth c cc nL own) (hw : Wa A D cA L ad s κ H locs) (hU : U.heap = H) (hW : s.WarmedH U.vm) : Wd ((D, L), cA, ad) κ U := by
  have hA := fr_lt hw
  refine ⟨by show va_P _ _ _ U.heap; rw [hU]; exact hw.1, hM.2.1.warm hW, hw.2.2.1.to (fun k hk => Or.inl ⟨k, hk, rfl⟩), ?_, ?_⟩
  · rw [hU]
    exact (vx_Zq.moved hW.alike (hM.2.2.1.1.kept hw.2.1.2.1)).narrow hA
  · rw [hU]
    exact (vx_Zq.moved hW.alike (hM.2.2.1.2.kept hw.2.1.2.1)).narrow hA
theorem Ma.x (hM : Ma A D cA p s m args meth c cc nL own) : p.tables.exec = Jvm.exec := hM.1.1
theorem Ma.b (hM : Ma A D cA p s m args meth c cc nL own) : c.code = cc := hM.1.2.1
theorem Ma.ml (hM : Ma A D cA p s m args meth c cc nL own) : c.maxLocals = nL := hM.1.2.2.1
theorem Ma.ow (hM : Ma A D cA p s m args meth c cc nL own) : s.vm.findClass own = some m.cls := hM.1.2.2.2.1
theorem Ma.ts (hM : Ma A D cA p s m args meth c cc nL own) : ∀ w ∈ uW, w.before args s = true := hM.1.2.2.2.2
theorem Ma.K (hM : Ma A D cA p s m args meth c cc nL own) : va_K D vwCl (tyl cA) s := hM.2.1.1
end WAM
def PRE (g : Gt) (κ : Kp) (sz : Nat) (av : List Value) : Array Value → State → Prop := va_Pc av (fun U => U.heap.size = sz ∧ Wd g κ U)
theorem PRE.blind {g : Gt} {κ : Kp} {sz : Nat} {av : List Value} : FrameBlind (PRE g κ sz av) := fun a U f mk h => ⟨h.1, h.2.1, h.2.2.blind a f mk⟩
def bi (b : Bool) : Int32 := if b then 1 else 0
theorem bi_narrow (b : Bool) : narrow .boolean (.int (bi b)) = .int (bi b) := by cases b <;> rfl
