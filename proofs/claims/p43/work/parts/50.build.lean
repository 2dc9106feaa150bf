/-- where the law's kitchen is, as it is made -/
def adS (ad : Nat → Nat) (q u1 u2 u3 : Nat) : Nat → Nat := fun x => if x = 91 then q else if x = 92 then u1 else if x = 93 then u2 else if x = 94 then u3 else if 1092 ≤ x ∧ x < 1095 then 0 else ad x
def κS (κ : Kp) : Kp := va_up κ 91 (fun f => if f = 1 then 120 else 0)
section NEWS
variable {p : Program} {l : Launch} {e : Env} {R : Room} {s : State} {m : MethodId} {args : Array Value} {below : List Frame} {meth : Method} {c : Code} {H : Heap} {locs : List Loc} {cells slots : Nat} {Q : State → Prop}
variable {cc : ByteArray} {pc nL idx ic : Nat} {ls : Array Slot} {rest : List Value} {A : Nat → Prop} {D : va_G} {cA : Nat → ClassId} {L : List Nat} {ad : Nat → Nat} {κ : Kp} {own : String}
set_option maxRecDepth 100000 in
set_option maxHeartbeats 4000000 in
/-- new Sim() -/
theorem a_newS (hM : Ma A D cA p s m args meth c cc nL RL) (hw : Wa A D cA L ad s κ H locs) (hL0 : ∀ k, k ∈ L ↔ k < 91) (hls : ls.size = nL) (hcells : cells + 4 ≤ R.cells) (hslots : slots + 5 ≤ R.slots) (hRf : 2 ≤ R.frames) (hRl : 40 ≤ R.locals) (hsum : (rest.map fun v => v.category).sum ≤ 7)
    (hcl : Cond.classLink RL idx RX6 ∈ uW) (hlk : ic = 95) (d0 : decode cc pc = .ok (.new idx, 3)) (d3 : decode cc (pc + 3) = .ok (.dup, 1)) (d4 : decode cc (pc + 4) = .ok (.invokespecial ic, 3))
    (kk : ∀ (ad' : Nat → Nat) (H1 : Heap) (locs1 : List Loc), (∀ x, x < 91 → ad' x = ad x) → Lm (L ++ [91, 92, 93, 94]) ad' 0 0 0 [] → Wa A D cA (L ++ [91, 92, 93, 94]) ad' s (κS κ) H1 locs1 → W p l e R s m args below meth c H1 locs1 (cells + 4) (slots + 5) Q (F0 m (pc + 7) ls (.ref (ad' 91) :: rest))) : W p l e R s m args below meth c H locs cells slots Q (F0 m pc ls rest) := by
  subst hlk
  have hE := hM.2.1.2.2.2.2.2.2
  refine va_new (C := RX6) (T := TX6) (N := 5) (ci := 6) (fs := [.int 0, .int 0, .null, .null, .null]) hM.x hM.b hM.ts inW6 tyX6 tyX6_ok hM.ow (hM.ts _ hcl) (hM.ts _ u_ins_X6) (hM.ts _ u_ini_X6) hM.K hw.1 hw.dd hw.2.1 hw.2.2.2 rfl (fun j hj => by match j, hj with | 0, _ => rfl | 1, _ => rfl | 2, _ => rfl | 3, _ => rfl | 4, _ => rfl) (by omega) (by omega) d0 (fun q H1 hP hD hS => ?_)
  refine lv_dup hM.x hM.b d3 rfl ?_
  obtain ⟨p1, p2⟩ := app_at hP
  obtain ⟨dd1, dd2⟩ := app_D hD
  obtain ⟨g1, g2, g3, g4, g5⟩ := hw.2.2.1
  have hg := uW_good (ws := [.code yX6_init cX6_init 1 none]) (fun w hw => by
    rw [List.mem_singleton] at hw
    subst hw; exact u_co_X6_init)
  refine va_callv (va_runIN (As := []) (rest := .ref q :: rest) hM.1 (m_X6_init l D cA H1.size q) ⟨va_cnB 0 hM.ts hg rfl rfl rfl hE.2.2.2 (hM.ts _ u_ini_X6) ⟨by decide +kernel, by decide +kernel, by decide +kernel⟩ ⟨by show 1 + 1 ≤ _; omega, by show 8 + (1 + 11) + 20 ≤ _; omega⟩, rfl, hM.ts _ u_im_X6_init⟩ ⟨PR.blind, fun U hU hW => ⟨rfl, by rw [hU], by rw [hU]; exact va_P1 p2, hM.2.1.warm hW⟩⟩ rfl rfl hls rfl (lv_room (by rw [List.map_cons, List.sum_cons]; show 1 + _ ≤ 8; omega)) d4 ⟨by show cells + 1 + 3 ≤ _; omega, by show slots + 5 + 0 ≤ _; omega⟩) hS (fun x hx h => h.elim (fun z => z ▸ dd1) (fun z => by omega)) (fun x h => h.elim (fun z => z ▸ dd1) (fun z => hw.2.2.2 x (Nat.le_trans hS.1 z))) (fun u t H2 locs2 ht hvm hp hB hz1 hk2 hS2 => ?_)
  obtain ⟨u1, u2, u3⟩ := u
  have hp : va_D (frO q H1.size) (sim0 cA q u1 u2 u3) := hp
  have hB : va_P D vwCl (sim0 cA q u1 u2 u3) t.heap := hB
  have hne : ∀ j ∈ L, ad j ≠ q := fun j hj => dd2 _ _ (wl_get hj)
  have hlt : ∀ j ∈ L, ad j < H1.size := fun j hj => (wl_at.mp p1 j hj).lt
  have p3 : va_P D vwCl (wl cA ad L κ) H2 := p1.kept (fun i x hx => hk2 x.1 ((p1 i x hx).lt) (fun z => z.elim (fun z => dd2 i x hx z) (fun z => by have := (p1 i x hx).lt; omega)))
  have hq1 : q < H1.size := p2.lt
  rw [ht] at hB
  have n1 := two_new 1 (by decide) rfl rfl hp
  have n2 := two_new 2 (by decide) rfl rfl hp
  have n3 := two_new 3 (by decide) rfl rfl hp
  have n12 : u1 ≠ u2 := fun z => by have := hp.1 1 2 _ _ rfl rfl z; omega
  have n13 : u1 ≠ u3 := fun z => by have := hp.1 1 3 _ _ rfl rfl z; omega
  have n23 : u2 ≠ u3 := fun z => by have := hp.1 2 3 _ _ rfl rfl z; omega
  have au : ∀ x, x < 91 → adS ad q u1 u2 u3 x = ad x := fun x hx => by
    unfold adS
    rw [if_neg (by omega), if_neg (by omega), if_neg (by omega), if_neg (by omega), if_neg (by omega)]
  have a91 : adS ad q u1 u2 u3 91 = q := rfl
  have a92 : adS ad q u1 u2 u3 92 = u1 := rfl
  have a93 : adS ad q u1 u2 u3 93 = u2 := rfl
  have a94 : adS ad q u1 u2 u3 94 = u3 := rfl
  have l2 : adS ad q u1 u2 u3 1092 = 0 := rfl
  have l3 : adS ad q u1 u2 u3 1093 = 0 := rfl
  have l4 : adS ad q u1 u2 u3 1094 = 0 := rfl
  have hmem : ∀ k, k ∈ L ++ [91, 92, 93, 94] ↔ k < 95 := fun k => by
    rw [List.mem_append, hL0 k]
    simp only [List.mem_cons, List.not_mem_nil, or_false]
    omega
  have hcase : ∀ k, k ∈ L ++ [91, 92, 93, 94] → (k ∈ L ∧ k < 91) ∨ k = 91 ∨ k = 92 ∨ k = 93 ∨ k = 94 := fun k hk => by
    have h1 := (hmem k).mp hk
    rw [hL0 k]
    omega
  have hval : ∀ k, k ∈ L ++ [91, 92, 93, 94] → (k ∈ L ∧ k < 91 ∧ adS ad q u1 u2 u3 k = ad k) ∨ (k = 91 ∧ adS ad q u1 u2 u3 k = q) ∨ (k = 92 ∧ adS ad q u1 u2 u3 k = u1) ∨ (k = 93 ∧ adS ad q u1 u2 u3 k = u2) ∨ (k = 94 ∧ adS ad q u1 u2 u3 k = u3) := fun k hk => by
    rcases hcase k hk with ⟨h, h2⟩ | rfl | rfl | rfl | rfl
    · exact Or.inl ⟨h, h2, au k h2⟩
    · exact Or.inr (Or.inl ⟨rfl, rfl⟩)
    · exact Or.inr (Or.inr (Or.inl ⟨rfl, rfl⟩))
    · exact Or.inr (Or.inr (Or.inr (Or.inl ⟨rfl, rfl⟩)))
    · exact Or.inr (Or.inr (Or.inr (Or.inr ⟨rfl, rfl⟩)))
  refine kk (adS ad q u1 u2 u3) H2 locs2 au ⟨fun k => ?_, ⟨rfl, rfl, rfl⟩, ⟨by decide, by decide, by decide⟩, fun k hk => by cases hk⟩ ⟨wl_at.mpr (fun j hj => ?_), hS2, ⟨?_, fun i hi j hj hij => ?_, fun j hj => ?_, fun j hj => (hmem j).mpr (by omega), fun j hj => ?_⟩, hw.2.2.2⟩
  · rw [hmem k]
    constructor
    · exact Or.inl
    · rintro (z | z | z | z | z)
      · exact z
      · omega
      · omega
      · omega
      · cases z
  · rcases hcase j hj with ⟨h, h2⟩ | rfl | rfl | rfl | rfl
    · rw [au j h2, show κS κ j = κ j from va_up_ne _ _ (by omega), sh_congr (ad := ad) (fun x hx => au x (dep_class h2 hx))]
      exact wl_at.mp p3 j h
    · rw [sh15 kd_91, show κS κ 91 = (fun f => if f = 1 then 120 else 0) from va_up_self _ _ _]
      exact hB 0 _ rfl
    · rw [sh16 kd_92, show adS ad q u1 u2 u3 (1000 + 92) = 0 from rfl, nil_Qr]
      exact hB 1 _ rfl
    · rw [sh17 kd_93, show adS ad q u1 u2 u3 (1000 + 93) = 0 from rfl, nil_Qr]
      exact hB 2 _ rfl
    · rw [sh18 kd_94, show adS ad q u1 u2 u3 (1000 + 94) = 0 from rfl, nil_Qr]
      exact hB 3 _ rfl
  · rw [List.nodup_append]
    refine ⟨g1, by decide, fun a ha b hb => ?_⟩
    have h1 := (hL0 a).mp ha
    simp only [List.mem_cons, List.not_mem_nil, or_false] at hb
    omega
  · rcases hval i hi with ⟨a1, a3, a2⟩ | ⟨a1, a2⟩ | ⟨a1, a2⟩ | ⟨a1, a2⟩ | ⟨a1, a2⟩ <;> rcases hval j hj with ⟨b1, b3, b2⟩ | ⟨b1, b2⟩ | ⟨b1, b2⟩ | ⟨b1, b2⟩ | ⟨b1, b2⟩ <;> rw [a2, b2] at hij
    · exact g2 i a1 j b1 hij
    · exact absurd hij (hne i a1)
    all_goals first | omega | exact absurd hij.symm (hne j b1) | (have := hlt i a1; omega) | (have := hlt j b1; omega)
  · rcases hval j hj with ⟨a1, a3, a2⟩ | ⟨a1, a2⟩ | ⟨a1, a2⟩ | ⟨a1, a2⟩ | ⟨a1, a2⟩ <;> rw [a2]
    · exact g3 j a1
    · exact dd1
    · exact hw.2.2.2 _ (Nat.le_trans hS.1 n1.1)
    · exact hw.2.2.2 _ (Nat.le_trans hS.1 n2.1)
    · exact hw.2.2.2 _ (Nat.le_trans hS.1 n3.1)
  · have := (hmem j).mp hj
    omega
end NEWS
theorem RR.start {κ : Kp} (hI : Iv 0 0 0 κ) (h6 : κ 1 6 = 0) (h7 : κ 1 7 = 120) : RR 0 0 0 (κS κ) := by
  refine ⟨hI.of (fun q hq => va_up_ne _ _ (by omega)), ⟨?_, ?_⟩, fun i hi => absurd hi (Nat.not_lt_zero i), fun i hi => absurd hi (Nat.not_lt_zero i), fun i hi => absurd hi (Nat.not_lt_zero i)⟩
  · unfold κS
    rw [va_up_ne _ _ (by decide), va_up_self, h6]; rfl
  · unfold κS
    rw [va_up_ne _ _ (by decide), va_up_self, h7]; rfl
theorem q_L_build : hdV yL_build RL 2 := ⟨rfl, by decide +kernel, by decide +kernel, by decide +kernel⟩
def KS (ad0 : Nat → Nat) (u : GS) : Prop := (∃ nf ns nr, Lm u.1.1 u.1.2 nf ns nr [] ∧ RR nf ns nr u.2) ∧ ∀ k, k < 91 → u.1.2 k = ad0 k
set_option maxRecDepth 100000 in
set_option maxHeartbeats 4000000 in
theorem m_L_build (l : Launch) (g : Gt) (κ : Kp) (sz : Nat) {b Ls : Nat} {xs : Nat → Int32} (hlst : l.stackTraces = false) (hLs : Ls ≤ 260) (hb : b < sz) (hbA : ¬ fr g sz b) (hL0 : ∀ k, k ∈ g.1.2 ↔ k < 91) (hI : Iv 0 0 0 κ) (h6 : κ 1 6 = 0) (h7 : κ 1 7 = 120) : Met l yL_build (.code yL_build cL_build 5 (some (.object "KitchenSpitsLaw$Sim")) :: uW) { frames := 9, cells := 8800, slots := 41000, locals := 300 } (PREX g κ sz b Ls xs [.ref (g.2.2 0), .ref b]) (va_Qr (KS g.2.2) (fun u a t => Wu g.1.1 g.2.1 (fr g sz) u t ∧ a = u.1.2 91) (fr g sz)) 8800 41000 (fr g sz) := by
  refine k_enterX (by decide +kernel) (Nat.le_of_ble_eq_true rfl) ?_
  intro p e s m below meth c ls hM hr hl hw hsz hX
  subst hsz
  have hl : lv_has ls 5 [(0, .ref (g.2.2 0)), (1, .ref b)] := hl
  refine a_newS hM hw hL0 hl.1 (Nat.le_of_ble_eq_true rfl) (Nat.le_of_ble_eq_true rfl) (Nat.le_of_ble_eq_true rfl) (Nat.le_of_ble_eq_true rfl) (Nat.le_of_ble_eq_true rfl) u_cl_L_10 rfl dL_build_0 dL_build_3 dL_build_4 (fun ad1 H locs ha hL hw => ?_)
  have hR : RR 0 0 0 (κS κ) := RR.start hI h6 h7
  refine lv_astore_n (lv' := [(2, .ref (ad1 91)), (0, .ref (g.2.2 0)), (1, .ref b)]) hM.x hM.b dL_build_7 rfl hl (by decide) rfl (fun ls hl => ?_)
  refine lv_bipush (v := nI 24) hM.x hM.b dL_build_8 (by decide) ?_
  refine lv_aload_n hM.x hM.b dL_build_10 rfl (lv_at hl 2 rfl) ?_
  refine lv_iconst (v := nI 0) hM.x hM.b dL_build_11 (by decide) ?_
  generalize g.1.2 ++ [91, 92, 93, 94] = L1 at hL hw
  generalize κS κ = κ1 at hR hw
  refine k_ci hw (k_runSX [.ref b, .int (nI 0)] [.int (nI 24)] hM hw hX hb hbA (m_L_cell l ((g.1.1, L1), g.2.1, ad1) κ1 _ (k := 0) hLs (Nat.lt_of_lt_of_le hb hw.2.1.1) (fun z => hbA (fr_lt hw b z)) (by decide)) (k_gS u_ml_L_96 u_st_L_cell u_ini_L u_co_L_cell) q_L_cell rfl rfl rfl ⟨Nat.le_of_ble_eq_true rfl, Nat.le_of_ble_eq_true rfl⟩ hl.1 rfl (Nat.le_of_ble_eq_true rfl) dL_build_12 ⟨Nat.le_of_ble_eq_true rfl, Nat.le_of_ble_eq_true rfl⟩) (fun r κ2 H locs hp hw => ?_)
  have hp : κ2 = κ1 := hp
  rw [hp] at hw
  refine lv_bipush (v := nI 44) hM.x hM.b dL_build_15 (by decide) ?_
  obtain ⟨d, hd, ed⟩ := below_in r 44 (by decide) (by decide)
  refine k_cip hw (k_runS [.int r, .int (nI 44)] [.int (nI 24)] hM hw (m_L_below l ((g.1.1, L1), g.2.1, ad1) κ1 _ r (nI 44) (by decide)) (k_gS u_ml_L_15 u_st_L_below u_ini_L u_co_L_below) q_L_below rfl rfl rfl ⟨Nat.le_of_ble_eq_true rfl, Nat.le_of_ble_eq_true rfl⟩ hl.1 rfl (Nat.le_of_ble_eq_true rfl) dL_build_17 ⟨Nat.le_of_ble_eq_true rfl, Nat.le_of_ble_eq_true rfl⟩) (fun H locs hw => ?_)
  rw [ed]
  refine k_iaddN (a := 24) (b := d) hM dL_build_20 ?_
  refine lv_istore_n (lv' := [(3, .int (nI (24 + d))), (2, .ref (ad1 91)), (0, .ref (g.2.2 0)), (1, .ref b)]) hM.x hM.b dL_build_21 rfl hl (by decide) rfl (fun ls hl => ?_)
  refine lv_iconst (v := nI 0) hM.x hM.b dL_build_22 (by decide) ?_
  refine lv_istore (lv' := [(4, .int (nI 0)), (3, .int (nI (24 + d))), (2, .ref (ad1 91)), (0, .ref (g.2.2 0)), (1, .ref b)]) hM.x hM.b dL_build_23 hl (by decide) rfl (fun ls hl => ?_)
  have loop : ∀ (n j : Nat), j + n = 24 + d → ∀ (nf ns nr : Nat) (L2 : List Nat) (ad2 : Nat → Nat) (κ2 : Kp) (H : Heap) (locs : List Loc) (ls : Array Slot), Lm L2 ad2 nf ns nr [] → RR nf ns nr κ2 → (∀ k, k < 92 → ad2 k = ad1 k) → lv_has ls 5 [(4, .int (nI j)), (3, .int (nI (24 + d))), (2, .ref (ad1 91)), (0, .ref (g.2.2 0)), (1, .ref b)] → Wa (fr g s.heap.size) g.1.1 g.2.1 L2 ad2 s κ2 H locs → W p l e { frames := 9, cells := 8800, slots := 41000, locals := 300 } s m ([.ref (g.2.2 0), .ref b] : List Value).toArray below meth c H locs (4 + 130 * j) (5 + 600 * j) (MQ below (va_Qr (KS g.2.2) (fun u a t => Wu g.1.1 g.2.1 (fr g s.heap.size) u t ∧ a = u.1.2 91) (fr g s.heap.size)) ([.ref (g.2.2 0), .ref b] : List Value).toArray s 8800 41000 (fr g s.heap.size)) (F0 m 25 ls []) := by
    intro n
    induction n with
    | zero =>
      intro j hj nf ns nr L2 ad2 κ2 H locs ls hL hR hA hl hw
      obtain rfl : j = 24 + d := by omega
      refine lv_iload hM.x hM.b dL_build_25 (lv_at hl 0 rfl) ?_
      refine lv_iload_n hM.x hM.b dL_build_27 rfl (lv_at hl 1 rfl) ?_
      refine lv_icmp_ge (tgt := 71) hM.x hM.b dL_build_28 (by decide) (fun _ => ?_) (fun cz => absurd (nI_le (by omega) (by omega)) cz)
      refine lv_aload_n hM.x hM.b dL_build_71 rfl (lv_at hl 2 rfl) ?_
      rw [← hA 91 (by decide)]
      exact a_aret (u := ((L2, ad2), κ2)) hM hr (Or.inl ⟨_, rfl⟩) hw.2.1 (by omega) (by omega) ⟨⟨nf, ns, nr, hL, hR⟩, fun k hk => (hA k (by omega)).trans (ha k hk)⟩ (fun t ht => ⟨⟨by rw [ht]; exact hw.1, hw.2.2.1⟩, rfl⟩) dL_build_72
    | succ n ih =>
      intro j hj nf ns nr L2 ad2 κ2 H locs ls hL hR hA hl hw
      have hl : lv_has ls 5 [(4, .int (nI j)), (3, .int (nI (24 + d))), (2, .ref (ad2 91)), (0, .ref (ad2 0)), (1, .ref b)] := by rw [hA 91 (by decide), hA 0 (by decide), ha 0 (by decide)]; exact hl
      refine lv_iload hM.x hM.b dL_build_25 (lv_at hl 0 rfl) ?_
      refine lv_iload_n hM.x hM.b dL_build_27 rfl (lv_at hl 1 rfl) ?_
      refine lv_icmp_ge (tgt := 71) hM.x hM.b dL_build_28 (by decide) (fun cz => absurd cz (nI_ge (by omega) (by omega))) (fun _ => ?_)
      refine lv_aload_n hM.x hM.b dL_build_31 rfl (lv_at hl 3 rfl) ?_
      refine lv_aload_n hM.x hM.b dL_build_32 rfl (lv_at hl 2 rfl) ?_
      refine lv_aload_n hM.x hM.b dL_build_33 rfl (lv_at hl 4 rfl) ?_
      refine lv_iload hM.x hM.b dL_build_34 (lv_at hl 0 rfl) ?_
      refine lv_bipush (v := nI 16) hM.x hM.b dL_build_36 (by decide) ?_
      refine lv_irem hM.x hM.b dL_build_38 (by decide) ?_
      rw [nI_rem (by omega) (by decide)]
      refine k_ci hw (k_runSX [.ref b, .int (nI (j % 16))] [.ref (ad2 91), .ref (ad2 0)] hM hw hX hb hbA (m_L_cell l ((g.1.1, L2), g.2.1, ad2) κ2 _ (k := j % 16) hLs (Nat.lt_of_lt_of_le hb hw.2.1.1) (fun z => hbA (fr_lt hw b z)) (by omega)) (k_gS u_ml_L_96 u_st_L_cell u_ini_L u_co_L_cell) q_L_cell rfl rfl rfl ⟨Nat.le_of_ble_eq_true rfl, Nat.le_of_ble_eq_true rfl⟩ hl.1 rfl (Nat.le_of_ble_eq_true rfl) dL_build_39 ⟨by show 4 + 130 * j + 0 ≤ 8800; omega, by show 5 + 600 * j + 0 ≤ 41000; omega⟩) (fun r κ3 H locs hp hw => ?_)
      have hp : κ3 = κ2 := hp
      rw [hp] at hw
      refine lv_iload hM.x hM.b dL_build_42 (lv_at hl 0 rfl) ?_
      refine lv_bipush (v := nI 16) hM.x hM.b dL_build_44 (by decide) ?_
      refine lv_idiv hM.x hM.b dL_build_46 (by decide) ?_
      refine lv_iconst (v := 3) hM.x hM.b dL_build_47 (by decide) ?_
      refine lv_imul hM.x hM.b dL_build_48 ?_
      refine lv_ishr hM.x hM.b dL_build_49 ?_
      refine lv_sipush (v := 569) hM.x hM.b dL_build_50 (by decide) ?_
      refine lv_iload hM.x hM.b dL_build_53 (lv_at hl 0 rfl) ?_
      refine lv_imul hM.x hM.b dL_build_55 ?_
      refine lv_iadd hM.x hM.b dL_build_56 ?_
      generalize (r >>> (nI j / nI 16 * 3 &&& 31) + 569 * nI j : Int32) = x
      refine k_cw hw (k_runS [.ref (ad2 0), .ref (ad2 91), .int x] [] hM hw (m_L_act l ((g.1.1, L2), g.2.1, ad2) κ2 _ x hlst hL hR) (k_gS u_ml_L_100 u_st_L_act u_ini_L u_co_L_act) q_L_act rfl rfl rfl ⟨Nat.le_of_ble_eq_true rfl, Nat.le_of_ble_eq_true rfl⟩ hl.1 rfl (Nat.le_of_ble_eq_true rfl) dL_build_57 ⟨by show 4 + 130 * j + 0 + 130 ≤ 8800; omega, by show 5 + 600 * j + 0 + 600 ≤ 41000; omega⟩) (fun r2 L3 ad3 κ4 H locs hp hw => ?_)
      obtain ⟨rfl, ⟨nf3, ns3, nr3, hL3, hR3⟩, hA3⟩ := hp
      refine lv_if_ne (tgt := 65) hM.x hM.b dL_build_60 (by decide) (fun _ => ?_) (fun cz => absurd cz (by decide))
      refine lv_iinc (v := nI (j + 1)) (lv' := [(4, .int (nI (j + 1))), (3, .int (nI (24 + d))), (2, .ref (ad2 91)), (0, .ref (ad2 0)), (1, .ref b)]) hM.x hM.b dL_build_65 hl (k := 0) rfl (nI_up j) (by decide) rfl (fun ls hl => ?_)
      refine lv_goto (tgt := 25) hM.x hM.b dL_build_68 (by decide) ?_
      have hl : lv_has ls 5 [(4, .int (nI (j + 1))), (3, .int (nI (24 + d))), (2, .ref (ad1 91)), (0, .ref (g.2.2 0)), (1, .ref b)] := by rw [← hA 91 (by decide), ← ha 0 (by decide), ← hA 0 (by decide)]; exact hl
      exact W.eq rfl (ih (j + 1) (by omega) nf3 ns3 nr3 L3 ad3 κ4 H locs ls hL3 hR3 (fun k hk => (hA3 k hk).trans (hA k hk)) hl hw)
  refine loop (24 + d) 0 (by omega) 0 0 0 L1 ad1 κ1 H locs ls hL hR (fun _ _ => rfl) hl hw
