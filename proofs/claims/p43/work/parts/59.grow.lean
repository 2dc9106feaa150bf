/-- the rows of a round are made one behind the other: m is the next -/
def SG (L : List Nat) (ad : Nat → Nat) (m : Nat) : Prop := 153 ≤ m ∧ ∀ j ∈ L, (j < 153 ∨ j < m) ∧ ∀ r x, dep ad j r x → x < 153 ∨ x = 1000 + j
theorem dep_len {ad ad' : Nat → Nat} {j x : Nat} {r : Nat → Int32} (e : ad' (1000 + j) = ad (1000 + j)) (h : dep ad' j r x) : dep ad j r x := by
  unfold dep at h ⊢
  rw [e] at h
  exact h
section SGX
variable {L T : List Nat} {ad ad' : Nat → Nat} {nf ns nr n m : Nat} {κ : Kp}
theorem SG.no (h : SG L ad m) : m ∉ L := fun q => by
  have := (h.2 m q).1
  have := h.1
  omega
theorem SG.dp (h : SG L ad m) (hm : m < 160) : ∀ j ∈ L, ∀ x, dep ad j (κ j) x → x ≠ m ∧ x ≠ 1000 + m := fun j hj x hx => by
  have h1 := h.1
  have h2 := (h.2 j hj).1
  rcases (h.2 j hj).2 _ x hx with z | z
  · exact ⟨by omega, by omega⟩
  · exact ⟨by omega, by omega⟩
theorem SG.add (h : SG L ad m) (hm : m < 160) (hX : AdX ad ad' m n) : SG (L ++ [m]) ad' (m + 1) := by
  have h1 := h.1
  refine ⟨by omega, fun j hj => ?_⟩
  rcases List.mem_append.mp hj with q | q
  · have h2 := (h.2 j q).1
    refine ⟨by omega, fun r x hx => (h.2 j q).2 r x (dep_len (hX.1 _ (by omega) (by omega)) hx)⟩
  · rw [List.mem_singleton] at q
    subst q
    exact ⟨by omega, fun r x hx => Or.inr (dep_tmp (Or.inl ⟨h1, by omega⟩) hx)⟩
theorem SG.start (h : Lm L ad nf ns nr []) (b3 : ∀ x, 1000 ≤ x → x ≠ 1136 → ad' x = ad x) (c3 : ad' 1136 = nr) : SG (LM L nr) ad' 153 := by
  have hb := h.2.2.1
  refine ⟨Nat.le_refl _, fun j hj => ?_⟩
  rcases LM_mem.mp hj with q | q | ⟨q1, q2⟩
  · have hj1 : j < 136 := by
      rcases (h.1 j).mp q with z | z | z | z | z
      · omega
      · omega
      · omega
      · omega
      · cases z
    refine ⟨Or.inl (by omega), fun r x hx => ?_⟩
    rcases dep_lm h q (dep_len (b3 _ (by omega) (by omega)) hx) with z | z | z | z | z | z
    · omega
    · omega
    · omega
    · omega
    · omega
    · cases z
  · subst q
    refine ⟨Or.inl (by omega), fun r x hx => ?_⟩
    unfold dep at hx
    rw [kd_136] at hx
    rcases hx with hx | ⟨i, hi, hx⟩
    · exact Or.inr hx
    · have hi : i < ad' 1136 := hi
      rw [c3] at hi
      omega
  · exact ⟨Or.inl (by omega), fun r x hx => Or.inr (dep_tmp (Or.inr ⟨q1, by omega⟩) hx)⟩
theorem Lm.mna (h : Lm L ad nf ns nr []) (b3 : ∀ x, 1000 ≤ x → x ≠ 1136 → ad' x = ad x) (hn : n ≤ 16) : Lm (LM L n) ad' nf ns nr ([136] ++ (List.range n).map (fun i => 137 + i)) := by
  obtain ⟨h1, ⟨e1, e2, e3⟩, h3, -⟩ := h
  refine ⟨fun k => ?_, ⟨by rw [b3 _ (by decide) (by decide)]; exact e1, by rw [b3 _ (by decide) (by decide)]; exact e2, by rw [b3 _ (by decide) (by decide)]; exact e3⟩, h3, fun k hk => ?_⟩
  · unfold LM
    rw [List.mem_append, List.mem_append, List.mem_append, h1 k]
    constructor
    · rintro (((z | z | z | z | z) | z) | z)
      · exact Or.inl z
      · exact Or.inr (Or.inl z)
      · exact Or.inr (Or.inr (Or.inl z))
      · exact Or.inr (Or.inr (Or.inr (Or.inl z)))
      · cases z
      · exact Or.inr (Or.inr (Or.inr (Or.inr (Or.inl z))))
      · exact Or.inr (Or.inr (Or.inr (Or.inr (Or.inr z))))
    · rintro (z | z | z | z | z | z)
      · exact Or.inl (Or.inl (Or.inl z))
      · exact Or.inl (Or.inl (Or.inr (Or.inl z)))
      · exact Or.inl (Or.inl (Or.inr (Or.inr (Or.inl z))))
      · exact Or.inl (Or.inl (Or.inr (Or.inr (Or.inr (Or.inl z)))))
      · exact Or.inl (Or.inr z)
      · exact Or.inr z
  · rcases List.mem_append.mp hk with z | z
    · rw [List.mem_singleton] at z; omega
    · obtain ⟨i, -, rfl⟩ := List.mem_map.mp z
      omega
theorem SG.td (h : SG L ad m) (hm : m ≤ 160) (hL : Lm L ad nf ns nr T) : TD T ad := fun j hj => by
  have h1 := (h.2 j (hL.tmp hj)).1
  refine ⟨by omega, fun r x hx => ?_⟩
  rcases (h.2 j (hL.tmp hj)).2 r x hx with z | z
  · exact Or.inl (by omega)
  · exact Or.inr z
theorem Lm.drop (h : Lm L ad nf ns nr T) : Lm (L.filter (fun x => decide (x < 136))) ad nf ns nr [] := by
  obtain ⟨h1, h2, h3, h4⟩ := h
  refine ⟨fun k => ?_, h2, h3, fun k hk => by cases hk⟩
  rw [List.mem_filter, h1 k, decide_eq_true_eq]
  constructor
  · rintro ⟨z | z | z | z | z, q⟩
    · exact Or.inl z
    · exact Or.inr (Or.inl z)
    · exact Or.inr (Or.inr (Or.inl z))
    · exact Or.inr (Or.inr (Or.inr (Or.inl z)))
    · have := h4 k z; omega
  · rintro (z | z | z | z | z)
    · exact ⟨Or.inl z, by omega⟩
    · exact ⟨Or.inr (Or.inl z), by omega⟩
    · exact ⟨Or.inr (Or.inr (Or.inl z)), by omega⟩
    · exact ⟨Or.inr (Or.inr (Or.inr (Or.inl z))), by omega⟩
    · cases z
theorem LoQ.new {μ : Kp} {k : Nat} {r : Nat → Int32} (h : LoQ κ μ) (hk : 136 ≤ k) : LoQ κ (va_up μ k r) := fun q hq => by rw [va_up_ne _ _ (by omega)]; exact h q hq
theorem LoQ.mna : LoQ κ (κM κ) := fun q hq => by unfold κM; rw [if_neg (by omega)]
end SGX
section KFI
variable {p : Program} {e : Env} {s : State} {m : MethodId} {args : Array Value} {below : List Frame} {meth : Method} {c : Code} {Q : State → Prop} {A : Nat → Prop} {D : va_G} {cA : Nat → ClassId} {L : List Nat} {ad : Nat → Nat} {κ : Kp} {H : Heap} {locs : List Loc} {ls : Array Slot} {cells slots n pc : Nat}
/-- how many fires there are -/
theorem k_fires (l : Launch) (hM : Ma A D cA p s m args meth c cL_law 27 RL) (hw : Wa A D cA L ad s κ H locs) (hls : ls.size = 27) (h3 : κ 1 3 = nI n) (hc : cells ≤ 817018) (hs : slots ≤ 6650127) (hdg : decode cL_law pc = .ok (.invokevirtual 114, 3)) (kk : ∀ (H : Heap) (locs : List Loc), Wa A D cA L ad s κ H locs → W p l e room_1 s m args below meth c H locs cells slots Q (F0 m (pc + 3) ls [.int (nI n)])) : W p l e room_1 s m args below meth c H locs cells slots Q (F0 m pc ls [.ref (ad 0)]) := by
  refine k_cip hw (k_runV [] [] hM hw (m_X4_fires l ((D, L), cA, ad) κ _) (hw.dm kd_0 (by decide)) (sh4 kd_0) rfl (k_gV u_ml_L_114 u_im_X4_fires u_se_X4_fires u_ini_X4 u_co_X4_fires) (q_X4_fires) rfl rfl rfl ⟨Nat.le_of_ble_eq_true rfl, Nat.le_of_ble_eq_true rfl⟩ hls rfl (Nat.le_of_ble_eq_true rfl) hdg ⟨hc, hs⟩) (fun H locs hw => ?_)
  rw [show f_X4_fires κ = nI n from h3]
  exact kk H locs hw
end KFI
theorem capk {k1 z : Nat} (h : k1 ≤ 700000) (hz : z ≤ 100000) : k1 + z ≤ 817018 := by omega
theorem caps {n1 y z : Nat} (h : n1 ≤ 5000000) (hz : z ≤ 16) (hy : y ≤ 10000) : n1 + y + z ≤ 6650127 := by omega
theorem AdX.low {ad ad' : Nat → Nat} {k n x : Nat} (h : AdX ad ad' k n) (hk : 136 ≤ k) (hx : x < 92) : ad' x = ad x := h.1 x (by omega) (by omega)
theorem seven {k : Nat} (h1 : 153 ≤ k) (h2 : k < 160) : k = 153 ∨ k = 154 ∨ k = 155 ∨ k = 156 ∨ k = 157 ∨ k = 158 ∨ k = 159 := by omega
