/-- the law's invariant: the class's kitchen and the reference are one and the same, after at most t calls -/
def SS (t : Nat) (κ : Kp) : Prop := ∃ nf ns nr : Nat, (RX 1 κ κ ∧ Gs nf ns nr (κ 96) κ) ∧ Bs 1 nf ns nr κ κ ∧ (∀ f, f < 3 → κ (1 + 4 + f) 2 = 0) ∧ (κ 91 3 = nI nr ∧ κ 1 7 = κ 91 4) ∧ (0 ≤ (κ 91 4).toInt ∧ (κ 91 4).toInt ≤ 5000) ∧ (0 ≤ (κ 96 0).toInt ∧ (κ 96 0).toInt ≤ 200 * t) ∧ (∀ i, i < 6 → vp_in (κ 92 i) 3)
theorem SS_J {k nf ns nr : Nat} {κ : Kp} (h : RX k κ κ ∧ Gs nf ns nr (κ 96) κ) : J k nf ns nr κ κ κ κ := ⟨h.1, h.2, fun _ _ _ => rfl, FrK.rfl, fun _ _ _ _ => rfl⟩
theorem SS_mono {t : Nat} {κ : Kp} (h : SS t κ) : SS (t + 1) κ := by
  obtain ⟨nf, ns, nr, a, b, c, d, e, f, g⟩ := h
  exact ⟨nf, ns, nr, a, b, c, d, e, ⟨f.1, by omega⟩, g⟩
theorem SS_sp {t : Nat} {κ : Kp} (h : SS t κ) : κ 1 4 ≤ nI 6 := by
  obtain ⟨nf, ns, nr, a, b, -⟩ := h
  rw [b.1.2.1, nIle (by have := b.2.2.1.2.1; omega) (by decide)]
  exact b.2.2.1.2.1
theorem SS_MI {t : Nat} {κ : Kp} (h : SS t κ) : MI κ := by
  obtain ⟨nf, ns, nr, a, b, c, d, e, f, g⟩ := h
  obtain ⟨hnf, hns, hnr⟩ := b.2.2.1
  refine ⟨?_, ?_, ?_, g, fun i hi hs => ?_, fun i hi => ?_, fun i hi => ?_⟩
  · rw [b.2.1.1]; exact vp_in_nI (by omega) (by decide)
  · rw [b.2.1.2]; exact vp_in_nI (by omega) (by decide)
  · rw [d.1]; exact vp_in_nI (by omega) (by decide)
  · rw [b.2.1.2, nIle (by omega) (by omega)] at hs
    obtain ⟨w, w1, w2, w3⟩ := (a.2 (7 + 5 * i) (by omega)).2.2.1 i hi rfl (by omega)
    rw [w3]
    intro q
    have := (nIeq (a := w) (b := 0) (by omega) (by decide)).mp q
    omega
  · obtain ⟨x, x1, x2, x3⟩ := (a.2 (7 + 5 * i + 2) (by omega)).2.2.2.1 i hi rfl
    rw [x2]; exact vp_in_nI (by omega) (by decide)
  · exact ((a.2 (37 + 8 * i + 1) (by omega)).2.2.2.2 i hi 1 (by omega) rfl).2.1 rfl
/-- all that the invariant looks at -/
theorem SS_of {t : Nat} {κ κ' : Kp} (h : SS t κ) (h1 : ∀ q, q < 46 → κ' q = κ q) (h2 : κ' 92 = κ 92) (h3 : κ' 93 = κ 93) (h4 : κ' 96 = κ 96) (h5 : ∀ j, 0 < j → κ' 91 j = κ 91 j) : SS t κ' := by
  obtain ⟨nf, ns, nr, a, b, c, d, e, f, g⟩ := h
  obtain ⟨hnf, hns, hnr⟩ := b.2.2.1
  refine ⟨nf, ns, nr, ⟨fun x hx => ?_, fun x hx => ?_⟩, ⟨⟨?_, ?_, ?_⟩, ⟨?_, ?_⟩, b.2.2.1, fun i hi => ?_, fun i hi => ?_, fun i hi => ?_⟩, fun i hi => ?_, ⟨?_, ?_⟩, ?_, ?_, fun i hi => ?_⟩
  · have := oC_lt x hx
    rw [h1 (1 + oC x) (by omega), h4]; exact a.1 x hx
  · rw [h4]; exact a.2 x hx
  · rw [h1 1 (by decide)]; exact b.1.1
  · rw [h1 1 (by decide)]; exact b.1.2.1
  · rw [h1 1 (by decide)]; exact b.1.2.2
  · rw [h5 1 (by decide)]; exact b.2.1.1
  · rw [h5 2 (by decide)]; exact b.2.1.2
  · rw [h1 (1 + 7 + i) (by omega), h2]; exact b.2.2.2.1 i hi
  · rw [h2]; exact b.2.2.2.2.1 i hi
  · rw [h1 (1 + 13 + 2 * i) (by omega), h3]; exact b.2.2.2.2.2 i hi
  · rw [h1 (1 + 4 + i) (by omega)]; exact c i hi
  · rw [h5 3 (by decide)]; exact d.1
  · rw [h1 1 (by decide), h5 4 (by decide)]; exact d.2
  · rw [h5 4 (by decide)]; exact e
  · rw [h4]; exact f
  · rw [h2]; exact g i hi
/-- the thrown number is no part of it -/
theorem SS_th {t : Nat} {κ : Kp} {v : Int32} (h : SS t κ) : SS t (up2 κ 91 0 v) :=
  SS_of h (fun q hq => up2_row (by omega)) (up2_row (by decide)) (up2_row (by decide)) (up2_row (by decide)) (fun j hj => up2_ne κ v (Or.inr (by omega)))
theorem sim_op_minute : SimRd SS (fun κ => f_X4_minute κ ) (fun κ => f_X5_minute κ ) := by
  intro t κ ht hS
  refine ⟨SS_MI hS, fun r κ2 e => ?_⟩
  have e2 : (κ 96 0, up2 κ 91 0 0) = (r, κ2) := e
  cases e2
  obtain ⟨nf, ns, nr, a, -⟩ := id hS
  exact ⟨a.1 0 (by omega), SS_th (SS_mono hS)⟩
theorem sim_op_feast : SimRd SS (fun κ => f_X4_feast κ ) (fun κ => f_X5_feast κ ) := by
  intro t κ ht hS
  refine ⟨SS_MI hS, fun r κ2 e => ?_⟩
  have e2 : (κ 91 4, up2 κ 91 0 0) = (r, κ2) := e
  cases e2
  obtain ⟨nf, ns, nr, a, b, c, d, -⟩ := id hS
  exact ⟨d.2, SS_th (SS_mono hS)⟩
theorem sim_op_fires : SimRd SS (fun κ => f_X4_fires κ ) (fun κ => f_X5_fires κ ) := by
  intro t κ ht hS
  refine ⟨SS_MI hS, fun r κ2 e => ?_⟩
  have e2 : (κ 91 1, up2 κ 91 0 0) = (r, κ2) := e
  cases e2
  obtain ⟨nf, ns, nr, a, b, -⟩ := id hS
  exact ⟨b.1.1.trans b.2.1.1.symm, SS_th (SS_mono hS)⟩
theorem sim_op_spits : SimRd SS (fun κ => f_X4_spits κ ) (fun κ => f_X5_spits κ ) := by
  intro t κ ht hS
  refine ⟨SS_MI hS, fun r κ2 e => ?_⟩
  have e2 : (κ 91 2, up2 κ 91 0 0) = (r, κ2) := e
  cases e2
  obtain ⟨nf, ns, nr, a, b, -⟩ := id hS
  exact ⟨b.1.2.1.trans b.2.1.2.symm, SS_th (SS_mono hS)⟩
theorem sim_op_roasts : SimRd SS (fun κ => f_X4_roasts κ ) (fun κ => f_X5_roasts κ ) := by
  intro t κ ht hS
  refine ⟨SS_MI hS, fun r κ2 e => ?_⟩
  have e2 : (κ 91 3, up2 κ 91 0 0) = (r, κ2) := e
  cases e2
  obtain ⟨nf, ns, nr, a, b, c, d, -⟩ := id hS
  exact ⟨b.1.2.2.trans d.1.symm, SS_th (SS_mono hS)⟩
