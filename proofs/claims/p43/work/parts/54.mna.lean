/-- the addresses with the law's rows of sides made -/
def adM (ad : Nat → Nat) (q n : Nat) (r : Nat → Nat) : Nat → Nat := fun x => if x = 136 then q else if 137 ≤ x ∧ x < 137 + n then r (x - 137) else if x = 1136 then n else ad x
def κM (κ : Kp) : Kp := fun x => if 137 ≤ x ∧ x < 153 then fun _ => 0 else κ x
def LM (L : List Nat) (n : Nat) : List Nat := L ++ [136] ++ (List.range n).map (fun i => 137 + i)
theorem LM_mem {L : List Nat} {n k : Nat} : k ∈ LM L n ↔ k ∈ L ∨ k = 136 ∨ (137 ≤ k ∧ k < 137 + n) := by
  unfold LM
  rw [List.mem_append, List.mem_append, List.mem_singleton, List.mem_map]
  constructor
  · rintro ((h | h) | ⟨i, hi, rfl⟩)
    · exact Or.inl h
    · exact Or.inr (Or.inl h)
    · rw [List.mem_range] at hi
      exact Or.inr (Or.inr ⟨by omega, by omega⟩)
  · rintro (h | h | ⟨h1, h2⟩)
    · exact Or.inl (Or.inl h)
    · exact Or.inl (Or.inr h)
    · exact Or.inr ⟨k - 137, List.mem_range.mpr (by omega), by omega⟩
section MNA
variable {p : Program} {l : Launch} {e : Env} {R : Room} {s : State} {m : MethodId} {args : Array Value} {below : List Frame} {meth : Method} {c : Code} {H : Heap} {locs : List Loc} {cells slots : Nat} {Q : State → Prop}
variable {cc : ByteArray} {pc nL idx n : Nat} {ls : Array Slot} {rest : List Value} {A : Nat → Prop} {D : va_G} {cA : Nat → ClassId} {L : List Nat} {ad : Nat → Nat} {κ : Kp} {own : String}
set_option maxRecDepth 100000 in
set_option maxHeartbeats 4000000 in
/-- new int[n][4] -/
theorem a_mna (hM : Ma A D cA p s m args meth c cc nL own) (hw : Wa A D cA L ad s κ H locs) (hlt : ∀ k ∈ L, k < 136) (hd : ∀ j ∈ L, ∀ x, dep ad j (κ j) x → x < 136 ∨ (1000 ≤ x ∧ x ≠ 1136)) (hn : n ≤ 16) (hlk : Cond.classLink own idx ("[" ++ (FieldType.array .int).toString) ∈ uW) (hcells : cells + 17 ≤ R.cells) (hslots : slots + 80 ≤ R.slots) (hdg : decode cc pc = .ok (.multianewarray idx 2, 4))
    (kk : ∀ (ad' : Nat → Nat) (H1 : Heap), (∀ x, x < 136 → ad' x = ad x) → (∀ x, 1000 ≤ x → x ≠ 1136 → ad' x = ad x) → ad' 1136 = n → Wa A D cA (LM L n) ad' s (κM κ) H1 locs → W p l e R s m args below meth c H1 locs (cells + 17) (slots + 80) Q (F0 m (pc + 4) ls (.ref (ad' 136) :: rest))) : W p l e R s m args below meth c H locs cells slots Q (F0 m pc ls (.int (nI 4) :: .int (nI n) :: rest)) := by
  have hE := hM.2.1.2.2.2.2.2.2
  obtain ⟨g1, g2, g3, g4, g5⟩ := hw.2.2.1
  have hP0 : va_P D vwCl (wl cA ad L κ ++ va_pl [] (fun _ => .inr (0, []))) H := by
    rw [show va_pl [] (fun _ => (.inr (0, []) : va_E)) = [] from rfl, List.append_nil]; exact hw.1
  have hD0 : va_D A (wl cA ad L κ ++ va_pl [] (fun _ => .inr (0, []))) := by
    rw [show va_pl [] (fun _ => (.inr (0, []) : va_E)) = [] from rfl, List.append_nil]; exact hw.dd
  refine va_mna (ty := .int) (N' := n) (K' := 4) (z := (4, .inl (fun _ => 0))) hM.x hM.b hM.ow (hM.ts _ hlk) hE.1 (hM.ts _ u_ac_int) (hM.K.2 0 (cA 0, .int) rfl).2 hM.K hP0 hD0 hw.2.1 hw.2.2.2 (nI0 (by omega)) (by decide) (nI_clamp (by omega)) rfl (by omega) (by decide) (by decide) rfl rfl (by omega) (by omega) (fun c => ?_) hdg (fun q r cB H1 hr hrL hK hP hD hS => ?_)
  · first | rfl | (rw [vp_cell_i]; rfl)
  have hcB : cB = cA 1 := Option.some.inj ((hK.2 7 (cB, .array .int) rfl).2.symm.trans (hM.K.2 1 (cA 1, .array .int) rfl).2)
  subst hcB
  have hlen : (wl cA ad L κ).length = L.length := by unfold wl; exact List.length_map ..
  have iX : ∀ j ∈ L, ((wl cA ad L κ ++ [(q, (.inl (cA 1, n, .inr (.inr (.inr (.inr (fun i => if i < n then some (r i) else none))))) : va_E))]) ++ va_pl ([] ++ (List.range n).map r) (vr_up (fun _ => .inr (0, [])) ((List.range n).map r) (.inl (cA 0, (4, .inl (fun _ => 0))))))[L.idxOf j]? = some (ad j, sh cA ad j (κ j)) ∧ L.idxOf j < L.length := fun j hj => by
    have h1 := wl_get (c := cA) (ad := ad) (κ := κ) hj
    have h2 := (List.getElem?_eq_some_iff.mp h1).1
    refine ⟨?_, by rw [← hlen]; exact h2⟩
    rw [List.getElem?_append_left (by rw [List.length_append]; omega), List.getElem?_append_left h2]
    exact h1
  have iQ : ((wl cA ad L κ ++ [(q, (.inl (cA 1, n, .inr (.inr (.inr (.inr (fun i => if i < n then some (r i) else none))))) : va_E))]) ++ va_pl ([] ++ (List.range n).map r) (vr_up (fun _ => .inr (0, [])) ((List.range n).map r) (.inl (cA 0, (4, .inl (fun _ => 0))))))[L.length]? = some (q, .inl (cA 1, n, .inr (.inr (.inr (.inr (fun i => if i < n then some (r i) else none)))))) := by
    rw [List.getElem?_append_left (by rw [List.length_append, hlen]; exact Nat.lt_succ_self _), List.getElem?_append_right (by rw [hlen]; exact Nat.le_refl _), hlen, Nat.sub_self]; rfl
  have iR : ∀ i, i < n → ((wl cA ad L κ ++ [(q, (.inl (cA 1, n, .inr (.inr (.inr (.inr (fun i => if i < n then some (r i) else none))))) : va_E))]) ++ va_pl ([] ++ (List.range n).map r) (vr_up (fun _ => .inr (0, [])) ((List.range n).map r) (.inl (cA 0, (4, .inl (fun _ => 0))))))[L.length + 1 + i]? = some (r i, .inl (cA 0, (4, .inl (fun _ => 0)))) := fun i hi => by
    rw [List.getElem?_append_right (by rw [List.length_append, hlen]; show L.length + 1 ≤ _; omega), List.length_append, hlen, show L.length + 1 + i - (L.length + [(q, (.inl (cA 1, n, .inr (.inr (.inr (.inr (fun i => if i < n then some (r i) else none))))) : va_E))].length) = i from by show L.length + 1 + i - (L.length + 1) = i; omega, List.nil_append]
    unfold va_pl
    rw [List.getElem?_map, List.getElem?_map, List.getElem?_range hi]
    show some (r i, vr_up (fun _ => (.inr (0, []) : va_E)) ((List.range n).map r) (.inl (cA 0, (4, .inl (fun _ => 0))) : va_E) (r i)) = _
    unfold vr_up
    rw [if_pos (List.mem_map.mpr ⟨i, List.mem_range.mpr hi, rfl⟩)]
  generalize ((wl cA ad L κ ++ [(q, (.inl (cA 1, n, .inr (.inr (.inr (.inr (fun i => if i < n then some (r i) else none))))) : va_E))]) ++ va_pl ([] ++ (List.range n).map r) (vr_up (fun _ => .inr (0, [])) ((List.range n).map r) (.inl (cA 0, (4, .inl (fun _ => 0)))))) = full at hP hD iX iQ iR
  have a0 : ∀ x, x < 136 → adM ad q n r x = ad x := fun x hx => by unfold adM; rw [if_neg (by omega), if_neg (by omega), if_neg (by omega)]
  have aB : ∀ x, 1000 ≤ x → x ≠ 1136 → adM ad q n r x = ad x := fun x hx h2 => by unfold adM; rw [if_neg (by omega), if_neg (by omega), if_neg h2]
  have a136 : adM ad q n r 136 = q := by unfold adM; rw [if_pos rfl]
  have aR : ∀ i, i < n → adM ad q n r (137 + i) = r i := fun i hi => by unfold adM; rw [if_neg (by omega), if_pos (by omega), show 137 + i - 137 = i by omega]
  have a11 : adM ad q n r 1136 = n := by unfold adM; rw [if_neg (by omega), if_neg (by omega), if_pos rfl]
  have hκ : ∀ j, j < 137 → κM κ j = κ j := fun j hj => by unfold κM; rw [if_neg (by omega)]
  have hκR : ∀ i, i < 16 → κM κ (137 + i) = fun _ => 0 := fun i hi => by unfold κM; rw [if_pos (by omega)]
  have val : ∀ k ∈ LM L n, (k ∈ L ∧ k < 136 ∧ adM ad q n r k = ad k ∧ full[L.idxOf k]? = some (ad k, sh cA ad k (κ k)) ∧ L.idxOf k < L.length) ∨ (k = 136 ∧ adM ad q n r k = q) ∨ (∃ i, i < n ∧ k = 137 + i ∧ adM ad q n r k = r i) := fun k hk => by
    rcases LM_mem.mp hk with h | h | ⟨h1, h2⟩
    · exact Or.inl ⟨h, hlt k h, a0 k (hlt k h), (iX k h).1, (iX k h).2⟩
    · subst h; exact Or.inr (Or.inl ⟨rfl, a136⟩)
    · exact Or.inr (Or.inr ⟨k - 137, by omega, by omega, by
        have := aR (k - 137) (by omega)
        rw [show 137 + (k - 137) = k by omega] at this; exact this⟩)
  have fin := kk (adM ad q n r) H1 a0 aB a11 ⟨wl_at.mpr (fun k hk => ?_), hS, ⟨?_, fun i hi j hj hij => ?_, fun k hk => ?_, fun k hk => LM_mem.mpr (Or.inl (g4 k hk)), fun k hk => ?_⟩, hw.2.2.2⟩
  · rw [a136] at fin
    exact W.widen (by omega) (by omega) fin
  · rcases val k hk with ⟨h, h2, h3, h4, h5⟩ | ⟨rfl, h2⟩ | ⟨i, hi, rfl, h2⟩
    · rw [h3, hκ k (by omega), sh_congr (ad := ad) (fun x hx => ?_)]
      · exact hP _ _ h4
      · rcases hd k h x hx with z | z
        · exact a0 x z
        · exact aB x z.1 z.2
    · rw [h2, sh22 kd_136, show adM ad q n r (1000 + 136) = n from a11]
      have := hP _ _ iQ
      rw [show (fun i => if i < n then some (adM ad q n r (136 + 1 + i)) else none) = (fun i => if i < n then some (r i) else none) from qr_congr (fun i hi => aR i hi)]
      exact this
    · rw [h2, hκR i (by omega), sh27 (kdB i (by omega))]
      exact hP _ _ (iR i hi)
  · unfold LM
    rw [List.nodup_append, List.nodup_append]
    refine ⟨⟨g1, List.nodup_cons.mpr ⟨List.not_mem_nil, List.nodup_nil⟩, fun a ha b hb => ?_⟩, ?_, fun a ha b hb => ?_⟩
    · rw [List.mem_singleton] at hb
      have := hlt a ha
      omega
    · rw [List.Nodup, List.pairwise_map]
      exact List.Pairwise.imp (fun h z => h (by omega)) List.nodup_range
    · obtain ⟨i, hi, rfl⟩ := List.mem_map.mp hb
      rcases List.mem_append.mp ha with h | h
      · have := hlt a h
        omega
      · rw [List.mem_singleton] at h
        omega
  · rcases val i hi with ⟨h, h2, h3, h4, h5⟩ | ⟨rfl, h2⟩ | ⟨i1, hi1, rfl, h2⟩ <;> rcases val j hj with ⟨u, u2, u3, u4, u5⟩ | ⟨rfl, u2⟩ | ⟨j1, hj1, rfl, u2⟩
    · rw [h3, u3] at hij; exact g2 i h j u hij
    · rw [h3, u2] at hij; have := hD.1 _ _ _ _ h4 iQ hij; omega
    · rw [h3, u2] at hij; have := hD.1 _ _ _ _ h4 (iR j1 hj1) hij; omega
    · rw [h2, u3] at hij; have := hD.1 _ _ _ _ iQ u4 hij; omega
    · rfl
    · rw [h2, u2] at hij; have := hD.1 _ _ _ _ iQ (iR j1 hj1) hij; omega
    · rw [h2, u3] at hij; have := hD.1 _ _ _ _ (iR i1 hi1) u4 hij; omega
    · rw [h2, u2] at hij; have := hD.1 _ _ _ _ (iR i1 hi1) iQ hij; omega
    · rw [h2, u2] at hij; have := hD.1 _ _ _ _ (iR i1 hi1) (iR j1 hj1) hij; omega
  · rcases val k hk with ⟨h, h2, h3, h4, h5⟩ | ⟨rfl, h2⟩ | ⟨i1, hi1, rfl, h2⟩
    · rw [h3]; exact g3 k h
    · rw [h2]; exact hD.2 _ _ iQ
    · rw [h2]; exact hD.2 _ _ (iR i1 hi1)
  · rcases LM_mem.mp hk with h | h | ⟨h1, h2⟩
    · exact g5 k h
    · omega
    · omega
end MNA
