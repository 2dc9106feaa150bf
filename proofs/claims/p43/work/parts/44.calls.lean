/-! CALLS THAT CHANGE WHICH CELLS ARE THERE. -/
abbrev GS := (List Nat × (Nat → Nat)) × Kp
def Wu (D : va_G) (cA : Nat → ClassId) (A : Nat → Prop) (u : GS) (t : State) : Prop := va_P D vwCl (wl cA u.1.2 u.1.1 u.2) t.heap ∧ Gok A u.1.1 u.1.2
theorem Gok.mono {A B : Nat → Prop} {L : List Nat} {ad : Nat → Nat} (h : Gok A L ad) (hB : ∀ q, A q → B q) : Gok B L ad := h.to (fun k hk => hB _ (h.2.2.1 k hk))
section KCW
variable {p : Program} {l : Launch} {e : Env} {R : Room} {s : State} {m : MethodId} {args : Array Value} {below : List Frame} {meth : Method} {c : Code} {H : Heap} {locs : List Loc} {cells slots : Nat} {Q : State → Prop}
variable {cc bytes : ByteArray} {pc nL maxL mc ms n idx k : Nat} {ls : Array Slot} {rest st0 As : List Value} {A : Nat → Prop} {D : va_G} {cA : Nat → ClassId} {L : List Nat} {ad : Nat → Nat} {κ : Kp} {own C : String} {a : Array Value}
theorem k_cw {post : Int32 → GS → Prop} (hw : Wa A D cA L ad s κ H locs) (hr : va_Run p l e R s m args below meth c H locs cells slots mc ms (F0 m pc ls st0) rest (va_Qi post (Wu D cA (fr ((D, L), cA, ad) H.size)) (fr ((D, L), cA, ad) H.size) a) (fr ((D, L), cA, ad) H.size))
    (kk : ∀ (r : Int32) (L' : List Nat) (ad' : Nat → Nat) (κ' : Kp) (H1 : Heap) (locs1 : List Loc), post r ((L', ad'), κ') → Wa A D cA L' ad' s κ' H1 locs1 → W p l e R s m args below meth c H1 locs1 (cells + mc) (slots + ms) Q (F0 m (pc + 3) ls (.int r :: rest))) : W p l e R s m args below meth c H locs cells slots Q (F0 m pc ls st0) :=
  va_calli hr hw.2.1 (fun q _ h => fr_lt hw q h) (fr_lt hw) (fun r u t H1 locs1 ht hvm hp hB hz hk hS => kk r u.1.1 u.1.2 u.2 H1 locs1 hp ⟨by rw [← ht]; exact hB.1, hS, hB.2.mono (fr_lt hw), hw.2.2.2⟩)
theorem k_cwr {post : GS → Prop} {tr : GS → Nat} (hw : Wa A D cA L ad s κ H locs) (hr : va_Run p l e R s m args below meth c H locs cells slots mc ms (F0 m pc ls st0) rest (va_Qr post (fun u q t => Wu D cA (fr ((D, L), cA, ad) H.size) u t ∧ q = tr u) (fr ((D, L), cA, ad) H.size) a) (fr ((D, L), cA, ad) H.size))
    (kk : ∀ (L' : List Nat) (ad' : Nat → Nat) (κ' : Kp) (H1 : Heap) (locs1 : List Loc), post ((L', ad'), κ') → Wa A D cA L' ad' s κ' H1 locs1 → W p l e R s m args below meth c H1 locs1 (cells + mc) (slots + ms) Q (F0 m (pc + 3) ls (.ref (tr ((L', ad'), κ')) :: rest))) : W p l e R s m args below meth c H locs cells slots Q (F0 m pc ls st0) :=
  va_callr hr hw.2.1 (fun q _ h => fr_lt hw q h) (fr_lt hw) (fun u ra t H1 locs1 ht hvm hp hB hz hk hS => by
    obtain ⟨hB, rfl⟩ := hB
    exact kk u.1.1 u.1.2 u.2 H1 locs1 hp ⟨by rw [← ht]; exact hB.1, hS, hB.2.mono (fr_lt hw), hw.2.2.2⟩)
/-- a call of one of the class's methods whose answer is known -/
theorem k_xiK {f : (String × Kp) ⊕ (Int32 × Kp)} {xs : List String} {v : Int32} {κ2 : Kp} (he : f = .inr (v, κ2)) (hw : Wa A D cA L ad s κ H locs) (hr : vx_Run p l e R s m args below meth c H locs cells slots mc ms (F0 m pc ls st0) rest (va_Qi (fun r κ' => f = .inr (r, κ')) (Wp ((D, L), cA, ad)) (fr ((D, L), cA, ad) H.size) a) (xC ((D, L), cA, ad) H.size (fun E κx => f = .inl (E, κx) ∧ E ∈ xs)) (fr ((D, L), cA, ad) H.size))
    (kk : ∀ (H1 : Heap) (locs1 : List Loc), Wa A D cA L ad s κ2 H1 locs1 → W p l e R s m args below meth c H1 locs1 (cells + mc) (slots + ms) Q (F0 m (pc + 3) ls (.int v :: rest))) : W p l e R s m args below meth c H locs cells slots Q (F0 m pc ls st0) :=
  k_xi hw hr (fun E κ' ce q9 H1 locs1 hx _ _ _ _ => by rw [he] at hx; cases hx.1) (fun r κ' H1 locs1 hp hw1 => by
    rw [he] at hp
    obtain ⟨rfl, rfl⟩ := Prod.mk.inj (Sum.inr.inj hp)
    exact kk H1 locs1 hw1)
end KCW
-- below
def f_below (v n : Int32) : Int32 := (v &&& 2147483647) - (v &&& 2147483647) / n * n
theorem and31 (v : Int32) : ∃ k, k < 2 ^ 31 ∧ v &&& 2147483647 = nI k := by
  refine ⟨(v.toBitVec &&& 2147483647#32).toNat, ?_, ?_⟩
  · rw [BitVec.toNat_and]; exact Nat.lt_of_le_of_lt Nat.and_le_right (by decide)
  · apply Int32.toBitVec_inj.mp
    rw [Int32.toBitVec_and]
    show _ = (Int32.ofNat _).toBitVec
    rw [Int32.toBitVec_ofNat', BitVec.ofNat_toNat, BitVec.setWidth_eq]; rfl
theorem nI_div {k N : Nat} (hk : k < 2 ^ 31) (hN : N < 2 ^ 31) : nI k / nI N = nI (k / N) := by
  apply Int32.toInt_inj.mp
  have h1 : k / N ≤ k := Nat.div_le_self k N
  rw [Int32.toInt_div, nI_toInt hk, nI_toInt hN, nI_toInt (by omega), ← Int.ofNat_tdiv]
  generalize k / N = q at h1 ⊢
  exact Int.bmod_eq_of_le (by omega) (by omega)
theorem nI_rem {k N : Nat} (hk : k < 2 ^ 31) (hN : N < 2 ^ 31) : nI k - nI k / nI N * nI N = nI (k % N) := by
  rw [nI_div hk hN, nI_mul]
  have h : nI k = nI (k % N) + nI (k / N * N) := by rw [nI_add, Nat.mod_add_div']
  rw [h]
  exact Int32.add_sub_cancel _ _
theorem below_in (v : Int32) (N : Nat) (h0 : 0 < N) (hN : N < 2 ^ 31) : ∃ d, d < N ∧ f_below v (nI N) = nI d := by
  obtain ⟨k, hk, e⟩ := and31 v
  exact ⟨k % N, Nat.mod_lt _ h0, by unfold f_below; rw [e, nI_rem hk hN]⟩
theorem q_L_below : hdV yL_below RL 2 := ⟨rfl, by decide +kernel, by decide +kernel, by decide +kernel⟩
theorem q_L_cell : hdV yL_cell RL 2 := ⟨rfl, by decide +kernel, by decide +kernel, by decide +kernel⟩
set_option maxRecDepth 100000 in
theorem m_L_below (l : Launch) (g : Gt) (κ : Kp) (sz : Nat) (v n : Int32) (hn : ¬ n = 0) : Met l yL_below (.code yL_below cL_below 2 (some .int) :: uW) { frames := 0, cells := 0, slots := 0, locals := 0 } (PRE g κ sz [.int v, .int n]) (va_Qi (fun r κ' => r = f_below v n ∧ κ' = κ) (Wp g) (fr g sz)) 0 0 (fr g sz) := by
  refine k_enter (by decide +kernel) (Nat.le_of_ble_eq_true rfl) ?_
  intro p e s m below meth c ls hM hr hl hw hsz
  subst hsz
  have hl : lv_has ls 2 [(0, .int v), (1, .int n)] := hl
  refine lv_iload_n hM.x hM.b dL_below_0 rfl (lv_at hl 0 rfl) ?_
  refine lv_ldc hM.x hM.b hM.ow (hM.ts _ u_kc_L_7) dL_below_1 ?_
  refine lv_iand hM.x hM.b dL_below_3 ?_
  refine lv_iload_n hM.x hM.b dL_below_4 rfl (lv_at hl 1 rfl) ?_
  refine lv_irem hM.x hM.b dL_below_5 hn ?_
  exact k_iret hM hr hw (Nat.le_of_ble_eq_true rfl) (Nat.le_of_ble_eq_true rfl) ⟨rfl, rfl⟩ dL_below_6
/-- a start that knows the law's script -/
def PREX (g : Gt) (κ : Kp) (sz b Ls : Nat) (xs : Nat → Int32) (av : List Value) : Array Value → State → Prop := va_Pc av (fun U => (U.heap.size = sz ∧ Wd g κ U) ∧ va_X b Ls xs U U.heap)
theorem va_X.same {b Ls : Nat} {xs : Nat → Int32} {u U : State} {H : Heap} (e : u.vm = U.vm) (h : va_X b Ls xs u H) : va_X b Ls xs U H := h.moved (by rw [e]; exact Vm.Alike.refl _)
theorem PREX.blind {g : Gt} {κ : Kp} {sz b Ls : Nat} {xs : Nat → Int32} {av : List Value} : FrameBlind (PREX g κ sz b Ls xs av) := fun a U f mk h => ⟨h.1, ⟨h.2.1.1, h.2.1.2.blind a f mk⟩, va_X.same (u := U) (U := U.calling f mk a) rfl h.2.2⟩
section KX3
variable {p : Program} {l : Launch} {e : Env} {R : Room} {s : State} {m : MethodId} {args : Array Value} {below : List Frame} {meth : Method} {c : Code} {H : Heap} {locs : List Loc} {cells slots : Nat}
variable {cc bytes : ByteArray} {pc nL maxL mc ms n idx b Ls : Nat} {xs : Nat → Int32} {ls : Array Slot} {st0 : List Value} {A : Nat → Prop} {D : va_G} {cA : Nat → ClassId} {L : List Nat} {ad : Nat → Nat} {κ : Kp} {own C : String} {y : MethodName} {ret : Option FieldType} {rm : Room} {Qc : Array Value → State → Outcome → State → Prop}
theorem k_runSX (As rest : List Value) (hM : Ma A D cA p s m args meth c cc nL own) (hw : Wa A D cA L ad s κ H locs) (hX : va_X b Ls xs s s.heap) (hbl : b < s.heap.size) (hbA : ¬ A b) (ct : Met l y (.code y bytes maxL ret :: uW) rm (PREX ((D, L), cA, ad) κ H.size b Ls xs As) Qc mc ms (fr ((D, L), cA, ad) H.size))
    (hG : GoodIn uW (va_wsS own idx y (.code y bytes maxL ret :: uW))) (hd : hdV y C n) (hn : As.length = n) (hrc : rm.cells = mc) (hrs : rm.slots = ms) (hR : rmOk R rm maxL) (hls : ls.size = nL) (hst : st0 = As.reverse ++ rest) (hsum : (rest.map fun v => v.category).sum ≤ 8) (hdg : decode cc pc = .ok (.invokestatic idx, 3)) (hf : cells + mc ≤ R.cells ∧ slots + ms ≤ R.slots) :
    va_Run p l e R s m args below meth c H locs cells slots mc ms (F0 m pc ls st0) rest (Qc As.toArray) (fr ((D, L), cA, ad) H.size) :=
  va_runS (As := As) (rest := rest) hM.1 ct (va_cwS n hM.ts hG rfl hrc hrs hd.2 hR) ⟨PREX.blind, fun U hU hW => ⟨rfl, ⟨by rw [hU], Wd.warm hM hw hU hW⟩, by rw [hU]; exact (hX.kept (hw.2.1.2.1 b hbl hbA)).moved hW.alike⟩⟩ rfl hn hls hst (lv_room hsum) hdg hf
end KX3
section KX4
variable {l : Launch}
theorem k_enterX {y : MethodName} {rm : Room} {g : Gt} {κ : Kp} {sz b Ls : Nat} {xs : Nat → Int32} {av : List Value} {Qc : Array Value → State → Outcome → State → Prop} {mc ms maxL : Nat} {cc : ByteArray} {ret : Option FieldType} (hy : plainName y.cls = true) (hlen : (lg_sl av).length ≤ maxL)
    (body : ∀ (p : Program) (e : Env) (s : State) (m : MethodId) (below : List Frame) (meth : Method) (c : Code) (ls : Array Slot), Mc g p s m av.toArray meth c cc maxL y.cls → meth.sig.returnType = ret → lv_has ls maxL (lv_args 0 av) → Ws g s κ s.heap [] → s.heap.size = sz → va_X b Ls xs s s.heap →
      W p l e rm s m av.toArray below meth c s.heap [] 0 0 (MQ below Qc av.toArray s mc ms (fr g s.heap.size)) (F0 m 0 ls [])) : Met l y (Cond.code y cc maxL ret :: uW) rm (PREX g κ sz b Ls xs av) Qc mc ms (fr g sz) := by
  refine Met.ofW (cc := cc) (maxL := maxL) (ret := ret) hy rfl ?_
  intro p e s m args below meth c s₁ B hml hv
  obtain ⟨rfl, ⟨rfl, hP, hE⟩, hX⟩ := hv
  have hts := atoms_spec (ws := Cond.code y cc maxL ret :: uW) B.pre
  have hl := lv_entry av (n := maxL) hlen
  rw [lg_entry_eq]
  generalize (lg_sl av ++ List.replicate (maxL - (lg_sl av).length) Slot.unset).toArray = ls at hl ⊢
  exact body p e s m below meth c ls ⟨⟨B.exec, B.bytes, hml, findClass_of_methodNamed B.named, fun w h => hts w (List.mem_cons_of_mem _ h)⟩, hE.1, hE.2.2, B.notSynchronized⟩ B.returns hl ⟨hP, va_S.rf, hE.2.1, fun q hq => Or.inr hq⟩ rfl hX
end KX4
set_option maxRecDepth 100000 in
theorem m_L_cell (l : Launch) (g : Gt) (κ : Kp) (sz : Nat) {b Ls k : Nat} {xs : Nat → Int32} (hL : Ls ≤ 260) (hb : b < sz) (hbA : ¬ fr g sz b) (hk : k < 1000) : Met l yL_cell (.code yL_cell cL_cell 2 (some .int) :: uW) { frames := 0, cells := 0, slots := 0, locals := 0 } (PREX g κ sz b Ls xs [.ref b, .int (nI k)]) (va_Qi (fun _ κ' => κ' = κ) (Wp g) (fr g sz)) 0 0 (fr g sz) := by
  refine k_enterX (by decide +kernel) (Nat.le_of_ble_eq_true rfl) ?_
  intro p e s m below meth c ls hM hr hl hw hsz hX
  subst hsz
  have hl : lv_has ls 2 [(0, .ref b), (1, .int (nI k))] := hl
  refine lv_iload_n hM.x hM.b dL_cell_0 rfl (lv_at hl 1 rfl) ?_
  refine lv_aload_n hM.x hM.b dL_cell_1 rfl (lv_at hl 0 rfl) ?_
  refine va_slen hM.x hM.b hX hb hbA hw.2.1 dL_cell_2 ?_
  refine lv_icmp_ge (tgt := 12) hM.x hM.b dL_cell_3 (by decide) (fun cz => ?_) (fun cz => ?_)
  · refine lv_ldc hM.x hM.b hM.ow (hM.ts _ u_kc_L_8) dL_cell_12 ?_
    refine lv_iload_n hM.x hM.b dL_cell_14 rfl (lv_at hl 1 rfl) ?_
    refine lv_iconst (v := 3) hM.x hM.b dL_cell_15 (by decide) ?_
    refine lv_iadd hM.x hM.b dL_cell_16 ?_
    refine lv_imul hM.x hM.b dL_cell_17 ?_
    exact k_iret hM hr hw (Nat.le_of_ble_eq_true rfl) (Nat.le_of_ble_eq_true rfl) rfl dL_cell_18
  · refine lv_aload_n hM.x hM.b dL_cell_6 rfl (lv_at hl 0 rfl) ?_
    refine lv_iload_n hM.x hM.b dL_cell_7 rfl (lv_at hl 1 rfl) ?_
    have hkL : k < Ls := Nat.not_le.mp (fun q => cz ((nIle (a := Ls) (b := k) (by omega) (by omega)).mpr q))
    refine va_sld hM.x hM.b hX hb hbA hw.2.1 (vp_in_nI hkL (by omega)) dL_cell_8 ?_
    refine lv_goto (tgt := 18) hM.x hM.b dL_cell_9 (by decide) ?_
    exact k_iret hM hr hw (Nat.le_of_ble_eq_true rfl) (Nat.le_of_ble_eq_true rfl) rfl dL_cell_18
-- a row of the law's kitchen is another one from now on
def lab (ad : Nat → Nat) (w t n : Nat) : Nat → Nat := va_up (va_up ad w (ad t)) (1000 + w) n
section LAB
variable {ad : Nat → Nat} {w t n x k nf ns nr : Nat} {L T : List Nat} {cA : Nat → ClassId} {r : Nat → Int32}
theorem lab_at (hw : w < 95) : lab ad w t n w = ad t := by unfold lab; rw [va_up_ne _ _ (by omega), va_up_self]
theorem lab_len : lab ad w t n (1000 + w) = n := va_up_self _ _ _
theorem lab_ne (h1 : x ≠ w) (h2 : x ≠ 1000 + w) : lab ad w t n x = ad x := by unfold lab; rw [va_up_ne _ _ h2, va_up_ne _ _ h1]
theorem dep_lab (hL : ad 1092 ≤ 3 ∧ ad 1093 ≤ 6 ∧ ad 1094 ≤ 16) (hw : 92 ≤ w ∧ w < 95) (hk : k < 136) (h91 : k ≠ 91) (hkw : k ≠ w) (h : dep ad k r x) : x ≠ w ∧ x ≠ 1000 + w := by
  by_cases hk9 : k < 91
  · have := dep_class hk9 h
    omega
  obtain ⟨e1, e2, e3⟩ := hL
  obtain ⟨a19, a20, a21⟩ := kd_ge k hk
  unfold dep at h
  by_cases h95 : k < 95
  · have hk4 : k = 92 ∨ k = 93 ∨ k = 94 := by omega
    rcases hk4 with rfl | rfl | rfl
    · rw [kd_92] at h
      rcases h with h | ⟨i, hi, rfl⟩
      · omega
      · have : i < ad 1092 := hi; omega
    · rw [kd_93] at h
      rcases h with h | ⟨i, hi, rfl⟩
      · omega
      · have : i < ad 1093 := hi; omega
    · rw [kd_94] at h
      rcases h with h | ⟨i, hi, rfl⟩
      · omega
      · have : i < ad 1094 := hi; omega
  · by_cases h98 : k < 98
    · rw [a19 (by omega) h98] at h; exact h.elim
    · by_cases h104 : k < 104
      · rw [a20 (by omega) h104] at h; exact h.elim
      · rcases a21 (by omega) with ⟨z, z2⟩ | ⟨z, z2⟩
        · rw [z] at h; replace h : x = k + 1 := h; omega
        · rw [z] at h; exact h.elim
end LAB
section RLB
variable {p : Program} {l : Launch} {e : Env} {R : Room} {s : State} {m : MethodId} {args : Array Value} {below : List Frame} {meth : Method} {c : Code} {H : Heap} {locs : List Loc} {cells slots : Nat} {Q : State → Prop}
variable {cc : ByteArray} {pc nL idx w t n nf ns nr : Nat} {ls : Array Slot} {rest : List Value} {A : Nat → Prop} {D : va_G} {cA : Nat → ClassId} {L T : List Nat} {ad : Nat → Nat} {κ : Kp} {own : String}
theorem Wa.relab {H1 : Heap} {locs1 : List Loc} (hw : Wa A D cA L ad s κ H locs) (m91 : 91 ∈ L) (hL : ad 1092 ≤ 3 ∧ ad 1093 ≤ 6 ∧ ad 1094 ≤ 16) (hwr : 92 ≤ w ∧ w < 95) (ht : t ∈ L) (ht1 : 136 ≤ t) (hLt : ∀ k ∈ L, k ≠ t → k < 136) (hsht : sh cA (lab ad w t n) w (κ w) = sh cA ad t (κ t)) (hP : va_P D vwCl ((wl cA ad L κ).set (L.idxOf 91) (ad 91, sh cA (lab ad w t n) 91 (κ 91))) H1) (hS : va_S A s.heap H1 locs1) : Wa A D cA (L.filter (fun x => x != t)) (lab ad w t n) s κ H1 locs1 := by
  obtain ⟨g1, g2, g3, g4, g5⟩ := hw.2.2.1
  have hmem : ∀ k, k ∈ L.filter (fun x => x != t) → k ∈ L ∧ k ≠ t := fun k hk => by
    obtain ⟨h1, h2⟩ := List.mem_filter.mp hk
    exact ⟨h1, by simpa using h2⟩
  have had : ∀ k ∈ L, k ≠ t → k ≠ w → lab ad w t n k = ad k := fun k hk hkt hkw => lab_ne hkw (by have := g5 k hk; omega)
  have hat : ∀ k ∈ L, k ≠ 91 → va_at D vwCl (ad k, sh cA ad k (κ k)) H1 := fun k hk h91 => by
    have h1 : ((wl cA ad L κ).set (L.idxOf 91) (ad 91, sh cA (lab ad w t n) 91 (κ 91)))[L.idxOf k]? = some (ad k, sh cA ad k (κ k)) := by
      rw [List.getElem?_set_ne (fun z => h91 ?_)]
      · exact wl_get hk
      · have h2 := ix_get hk
        rw [← z, ix_get m91] at h2
        exact (Option.some.inj h2).symm
    exact hP _ _ h1
  have h91 : va_at D vwCl (ad 91, sh cA (lab ad w t n) 91 (κ 91)) H1 := by
    refine hP (L.idxOf 91) _ ?_
    rw [List.getElem?_set_self]
    have := (List.getElem?_eq_some_iff.mp (wl_get (c := cA) (ad := ad) (κ := κ) m91)).1
    exact this
  refine ⟨wl_at.mpr (fun k hk => ?_), hS, ⟨g1.filter _, fun i hi j hj hij => ?_, fun k hk => ?_, fun k hk => List.mem_filter.mpr ⟨g4 k hk, by simp; omega⟩, fun k hk => g5 k (hmem k hk).1⟩, hw.2.2.2⟩
  · obtain ⟨hk1, hkt⟩ := hmem k hk
    by_cases c91 : k = 91
    · subst c91
      rw [had 91 hk1 hkt (by omega)]; exact h91
    · by_cases cw : k = w
      · subst cw
        rw [lab_at hwr.2, hsht]
        exact hat t ht (by omega)
      · rw [had k hk1 hkt cw, sh_congr (ad := ad) (fun x hx => ?_)]
        · exact hat k hk1 c91
        · have := dep_lab hL hwr (hLt k hk1 hkt) c91 cw hx
          exact lab_ne this.1 this.2
  · obtain ⟨hi1, hit⟩ := hmem i hi
    obtain ⟨hj1, hjt⟩ := hmem j hj
    by_cases ci : i = w
    · by_cases cj : j = w
      · rw [ci, cj]
      · rw [ci, lab_at hwr.2, had j hj1 hjt cj] at hij
        exact absurd (g2 t ht j hj1 hij).symm hjt
    · by_cases cj : j = w
      · rw [cj, lab_at hwr.2, had i hi1 hit ci] at hij
        exact absurd (g2 i hi1 t ht hij) hit
      · rw [had i hi1 hit ci, had j hj1 hjt cj] at hij
        exact g2 i hi1 j hj1 hij
  · obtain ⟨hk1, hkt⟩ := hmem k hk
    by_cases cw : k = w
    · rw [cw, lab_at hwr.2]; exact g3 t ht
    · rw [had k hk1 hkt cw]; exact g3 k hk1
theorem k_relab (w t n : Nat) (hM : Ma A D cA p s m args meth c cc nL own) (hw : Wa A D cA L ad s κ H locs) (m91 : 91 ∈ L) (hL : ad 1092 ≤ 3 ∧ ad 1093 ≤ 6 ∧ ad 1094 ≤ 16) (hwr : 92 ≤ w ∧ w < 95) (ht : t ∈ L) (ht1 : 136 ≤ t) (hLt : ∀ k ∈ L, k ≠ t → k < 136) (hsht : sh cA (lab ad w t n) w (κ w) = sh cA ad t (κ t)) (hlink : Cond.fieldLink own idx (TX6 (w - 90)).1 (TX6 (w - 90)).2.1 (TX6 (w - 90)).2.2.1 ∈ uW) (hdg : decode cc pc = .ok (.putfield idx, 3))
    (kk : ∀ (H1 : Heap) (locs1 : List Loc), Wa A D cA (L.filter (fun x => x != t)) (lab ad w t n) s κ H1 locs1 → W p l e R s m args below meth c H1 locs1 cells slots Q (F0 m (pc + 3) ls rest)) : W p l e R s m args below meth c H locs cells slots Q (F0 m pc ls (.ref (ad t) :: .ref (ad 91) :: rest)) := by
  have hcase : w = 92 ∨ w = 93 ∨ w = 94 := by omega
  have h91 : sh cA (lab ad w t n) 91 (κ 91) = .inr (6, [.int (κ 91 0), .int (κ 91 1), .ref (ad 92), .ref (ad 93), .ref (ad 94)].set (w - 90) (.ref (ad t))) := by
    rw [sh15 kd_91]
    rcases hcase with rfl | rfl | rfl
    · rw [show 91 + 1 = 92 from rfl, lab_at (by decide), lab_ne (by decide) (by decide), lab_ne (by decide) (by decide)]; rfl
    · rw [show 91 + 2 = 93 from rfl, lab_at (by decide), lab_ne (by decide) (by decide), lab_ne (by decide) (by decide)]; rfl
    · rw [show 91 + 3 = 94 from rfl, lab_at (by decide), lab_ne (by decide) (by decide), lab_ne (by decide) (by decide)]; rfl
  rcases hcase with rfl | rfl | rfl
  · refine va_put (A := A) (C := RX6) (T := TX6) (N := 5) (ci := 6) (fs := [.int (κ 91 0), .int (κ 91 1), .ref (ad 92), .ref (ad 93), .ref (ad 94)]) hM.x hM.b hM.ts inW6 tyX6 tyX6_ok nmX6 hM.ow hM.K hw.1 hw.dd hw.2.1 (L.idxOf 91) (by rw [wl_get m91, sh15 kd_91]) rfl 2 (by decide) (hM.ts _ hlink) (fun _ h => h) rfl (tyX6_ok 2 (by decide)) rfl rfl (show 2 < 5 by decide) hdg (fun H1 locs1 hP hD hS => kk H1 locs1 (hw.relab m91 hL hwr ht ht1 hLt hsht ?_ hS))
    rw [h91]; exact hP
  · refine va_put (A := A) (C := RX6) (T := TX6) (N := 5) (ci := 6) (fs := [.int (κ 91 0), .int (κ 91 1), .ref (ad 92), .ref (ad 93), .ref (ad 94)]) hM.x hM.b hM.ts inW6 tyX6 tyX6_ok nmX6 hM.ow hM.K hw.1 hw.dd hw.2.1 (L.idxOf 91) (by rw [wl_get m91, sh15 kd_91]) rfl 3 (by decide) (hM.ts _ hlink) (fun _ h => h) rfl (tyX6_ok 3 (by decide)) rfl rfl (show 3 < 5 by decide) hdg (fun H1 locs1 hP hD hS => kk H1 locs1 (hw.relab m91 hL hwr ht ht1 hLt hsht ?_ hS))
    rw [h91]; exact hP
  · refine va_put (A := A) (C := RX6) (T := TX6) (N := 5) (ci := 6) (fs := [.int (κ 91 0), .int (κ 91 1), .ref (ad 92), .ref (ad 93), .ref (ad 94)]) hM.x hM.b hM.ts inW6 tyX6 tyX6_ok nmX6 hM.ow hM.K hw.1 hw.dd hw.2.1 (L.idxOf 91) (by rw [wl_get m91, sh15 kd_91]) rfl 4 (by decide) (hM.ts _ hlink) (fun _ h => h) rfl (tyX6_ok 4 (by decide)) rfl rfl (show 4 < 5 by decide) hdg (fun H1 locs1 hP hD hS => kk H1 locs1 (hw.relab m91 hL hwr ht ht1 hLt hsht ?_ hS))
    rw [h91]; exact hP
end RLB
