theorem uW_good {ws : List Cond} (h : ∀ w ∈ ws, w ∈ uW) : GoodIn uW (ws ++ uW) := by
  intro w hw
  have h1 : w ∈ uW := by
    rcases List.mem_append.mp hw with h2 | h2
    · exact h w h2
    · exact h2
  exact ⟨h1, good_of_word (List.mem_filter.mp h1).2⟩
theorem k_gV {own : String} {idx : Nat} {C : String} {y : MethodName} {w5 : Cond} (h1 : Cond.methodLink own idx y ∈ uW) (h2 : Cond.instanceMethod y ∈ uW) (h3 : Cond.selects C y y ∈ uW) (h4 : Cond.initialized C ∈ uW) (h5 : w5 ∈ uW) : GoodIn uW (wsV own idx C y (w5 :: uW)) := by
  have h := uW_good (ws := [.methodLink own idx y, .instanceMethod y, .selects C y y, .initialized C, w5]) (by
    intro w hw
    simp only [List.mem_cons, List.not_mem_nil, or_false] at hw
    rcases hw with rfl | rfl | rfl | rfl | rfl
    · exact h1
    · exact h2
    · exact h3
    · exact h4
    · exact h5)
  exact h
theorem k_gS {own : String} {idx : Nat} {y : MethodName} {w5 : Cond} (h1 : Cond.methodLink own idx y ∈ uW) (h2 : Cond.static y ∈ uW) (h4 : Cond.initialized y.cls ∈ uW) (h5 : w5 ∈ uW) : GoodIn uW (va_wsS own idx y (w5 :: uW)) := by
  have h := uW_good (ws := [.methodLink own idx y, .static y, .initialized y.cls, w5]) (by
    intro w hw
    simp only [List.mem_cons, List.not_mem_nil, or_false] at hw
    rcases hw with rfl | rfl | rfl | rfl
    · exact h1
    · exact h2
    · exact h4
    · exact h5)
  exact h
/-- the facts by which a method can be called -/
abbrev hdV (y : MethodName) (C : String) (n : Nat) : Prop := y.cls = C ∧ y.cls ≠ "java/lang/invoke/MethodHandle" ∧ y.cls ≠ "java/lang/invoke/VarHandle" ∧ (parseMethodDescriptor y.desc).map (fun d => d.parameters.length) = some n
abbrev rmOk (R rm : Room) (maxL : Nat) : Prop := rm.frames + 1 ≤ R.frames ∧ 8 + (maxL + 11) + rm.locals ≤ R.locals
/-- what a throw leaves behind -/
def xE (g : Gt) (XE : String → Kp → Prop) : String → Kp → State → Prop := fun E u t => XE E u ∧ Wp g u t
abbrev xC (g : Gt) (sz : Nat) (XE : String → Kp → Prop) : String → State → State → Prop := vx_X (fun _ : Kp => True) (xE g XE) (fr g sz)
section KC
variable {p : Program} {l : Launch} {e : Env} {R : Room} {s : State} {m : MethodId} {args : Array Value} {below : List Frame} {meth : Method} {c : Code} {H : Heap} {locs : List Loc} {cells slots : Nat} {Q : State → Prop}
variable {cc bytes : ByteArray} {pc nL maxL mc ms n idx k : Nat} {ls : Array Slot} {rest st0 As : List Value} {A : Nat → Prop} {D : va_G} {cA : Nat → ClassId} {L : List Nat} {ad : Nat → Nat} {κ : Kp} {own C : String} {y : MethodName} {ret : Option FieldType} {rm : Room} {Qc : Array Value → State → Outcome → State → Prop} {XC : String → State → State → Prop} {a : Array Value}
theorem k_runV {ci N : Nat} {T : u_T} {fs : List Value} (As rest : List Value) (hM : Ma A D cA p s m args meth c cc nL own) (hw : Wa A D cA L ad s κ H locs) (ct : Met l y (.code y bytes maxL ret :: uW) rm (PRE ((D, L), cA, ad) κ H.size (.ref (ad k) :: As)) Qc mc ms (fr ((D, L), cA, ad) H.size)) (hk : k ∈ L) (hsh : sh cA ad k (κ k) = .inr (ci, fs)) (hc : vwCl[ci]? = some (C, T, N))
    (hG : GoodIn uW (wsV own idx C y (.code y bytes maxL ret :: uW))) (hd : hdV y C n) (hn : As.length = n) (hrc : rm.cells = mc) (hrs : rm.slots = ms) (hR : rmOk R rm maxL) (hls : ls.size = nL) (hst : st0 = As.reverse ++ .ref (ad k) :: rest) (hsum : (rest.map fun v => v.category).sum ≤ 8) (hdg : decode cc pc = .ok (.invokevirtual idx, 3)) (hf : cells + mc ≤ R.cells ∧ slots + ms ≤ R.slots) :
    va_Run p l e R s m args below meth c H locs cells slots mc ms (F0 m pc ls st0) rest (Qc (Value.ref (ad k) :: As).toArray) (fr ((D, L), cA, ad) H.size) :=
  va_runV (As := As) (rest := rest) hM.1 ct (cwV n hM.ts hG rfl hrc hrs hd hR) ⟨PRE.blind, va_recv hM.K hw.1 hc (by rw [wl_get hk, hsh]), fun U hU hW => ⟨rfl, by rw [hU], Wd.warm hM hw hU hW⟩⟩ rfl hn hls hst (lv_room hsum) hdg hf
theorem k_runS (As rest : List Value) (hM : Ma A D cA p s m args meth c cc nL own) (hw : Wa A D cA L ad s κ H locs) (ct : Met l y (.code y bytes maxL ret :: uW) rm (PRE ((D, L), cA, ad) κ H.size As) Qc mc ms (fr ((D, L), cA, ad) H.size))
    (hG : GoodIn uW (va_wsS own idx y (.code y bytes maxL ret :: uW))) (hd : hdV y C n) (hn : As.length = n) (hrc : rm.cells = mc) (hrs : rm.slots = ms) (hR : rmOk R rm maxL) (hls : ls.size = nL) (hst : st0 = As.reverse ++ rest) (hsum : (rest.map fun v => v.category).sum ≤ 8) (hdg : decode cc pc = .ok (.invokestatic idx, 3)) (hf : cells + mc ≤ R.cells ∧ slots + ms ≤ R.slots) :
    va_Run p l e R s m args below meth c H locs cells slots mc ms (F0 m pc ls st0) rest (Qc As.toArray) (fr ((D, L), cA, ad) H.size) :=
  va_runS (As := As) (rest := rest) hM.1 ct (va_cwS n hM.ts hG rfl hrc hrs hd.2 hR) ⟨PRE.blind, fun U hU hW => ⟨rfl, by rw [hU], Wd.warm hM hw hU hW⟩⟩ rfl hn hls hst (lv_room hsum) hdg hf
theorem k_runXV {ci N : Nat} {T : u_T} {fs : List Value} (As rest : List Value) (hM : Ma A D cA p s m args meth c cc nL own) (hw : Wa A D cA L ad s κ H locs) (ct : vx_Met l y (.code y bytes maxL ret :: uW) rm (PRE ((D, L), cA, ad) κ H.size (.ref (ad k) :: As)) Qc XC mc ms (fr ((D, L), cA, ad) H.size)) (hk : k ∈ L) (hsh : sh cA ad k (κ k) = .inr (ci, fs)) (hc : vwCl[ci]? = some (C, T, N))
    (hG : GoodIn uW (wsV own idx C y (.code y bytes maxL ret :: uW))) (hd : hdV y C n) (hn : As.length = n) (hrc : rm.cells = mc) (hrs : rm.slots = ms) (hR : rmOk R rm maxL) (hls : ls.size = nL) (hst : st0 = As.reverse ++ .ref (ad k) :: rest) (hsum : (rest.map fun v => v.category).sum ≤ 8) (hdg : decode cc pc = .ok (.invokevirtual idx, 3)) (hf : cells + mc ≤ R.cells ∧ slots + ms ≤ R.slots) :
    vx_Run p l e R s m args below meth c H locs cells slots mc ms (F0 m pc ls st0) rest (Qc (Value.ref (ad k) :: As).toArray) XC (fr ((D, L), cA, ad) H.size) :=
  vx_runV (As := As) (rest := rest) hM.1 ct (cwV n hM.ts hG rfl hrc hrs hd hR) ⟨PRE.blind, va_recv hM.K hw.1 hc (by rw [wl_get hk, hsh]), fun U hU hW => ⟨rfl, by rw [hU], Wd.warm hM hw hU hW⟩⟩ rfl hn hls hst (lv_room hsum) hdg hf
theorem k_runXS (As rest : List Value) (hM : Ma A D cA p s m args meth c cc nL own) (hw : Wa A D cA L ad s κ H locs) (ct : vx_Met l y (.code y bytes maxL ret :: uW) rm (PRE ((D, L), cA, ad) κ H.size As) Qc XC mc ms (fr ((D, L), cA, ad) H.size))
    (hG : GoodIn uW (va_wsS own idx y (.code y bytes maxL ret :: uW))) (hd : hdV y C n) (hn : As.length = n) (hrc : rm.cells = mc) (hrs : rm.slots = ms) (hR : rmOk R rm maxL) (hls : ls.size = nL) (hst : st0 = As.reverse ++ rest) (hsum : (rest.map fun v => v.category).sum ≤ 8) (hdg : decode cc pc = .ok (.invokestatic idx, 3)) (hf : cells + mc ≤ R.cells ∧ slots + ms ≤ R.slots) :
    vx_Run p l e R s m args below meth c H locs cells slots mc ms (F0 m pc ls st0) rest (Qc As.toArray) XC (fr ((D, L), cA, ad) H.size) :=
  vx_runS (As := As) (rest := rest) hM.1 ct (va_cwS n hM.ts hG rfl hrc hrs hd.2 hR) ⟨PRE.blind, fun U hU hW => ⟨rfl, by rw [hU], Wd.warm hM hw hU hW⟩⟩ rfl hn hls hst (lv_room hsum) hdg hf
-- behind a call that returns
theorem k_ci {post : Int32 → Kp → Prop} (hw : Wa A D cA L ad s κ H locs) (hr : va_Run p l e R s m args below meth c H locs cells slots mc ms (F0 m pc ls st0) rest (va_Qi post (Wp ((D, L), cA, ad)) (fr ((D, L), cA, ad) H.size) a) (fr ((D, L), cA, ad) H.size))
    (kk : ∀ (r : Int32) (κ' : Kp) (H1 : Heap) (locs1 : List Loc), post r κ' → Wa A D cA L ad s κ' H1 locs1 → W p l e R s m args below meth c H1 locs1 (cells + mc) (slots + ms) Q (F0 m (pc + 3) ls (.int r :: rest))) : W p l e R s m args below meth c H locs cells slots Q (F0 m pc ls st0) :=
  va_calli hr hw.2.1 (fun q _ h => fr_lt hw q h) (fr_lt hw) (fun r u t H1 locs1 ht hvm hp hB hz hk hS => kk r u H1 locs1 hp ⟨by rw [← ht]; exact hB, hS, hw.2.2⟩)
theorem k_cl {post : Int64 → Kp → Prop} (hw : Wa A D cA L ad s κ H locs) (hr : va_Run p l e R s m args below meth c H locs cells slots mc ms (F0 m pc ls st0) rest (va_Ql post (Wp ((D, L), cA, ad)) (fr ((D, L), cA, ad) H.size) a) (fr ((D, L), cA, ad) H.size))
    (kk : ∀ (r : Int64) (κ' : Kp) (H1 : Heap) (locs1 : List Loc), post r κ' → Wa A D cA L ad s κ' H1 locs1 → W p l e R s m args below meth c H1 locs1 (cells + mc) (slots + ms) Q (F0 m (pc + 3) ls (.long r :: rest))) : W p l e R s m args below meth c H locs cells slots Q (F0 m pc ls st0) :=
  va_calll hr hw.2.1 (fun q _ h => fr_lt hw q h) (fr_lt hw) (fun r u t H1 locs1 ht hvm hp hB hz hk hS => kk r u H1 locs1 hp ⟨by rw [← ht]; exact hB, hS, hw.2.2⟩)
theorem k_cv {post : Kp → Prop} (hw : Wa A D cA L ad s κ H locs) (hr : va_Run p l e R s m args below meth c H locs cells slots mc ms (F0 m pc ls st0) rest (va_Qv post (Wp ((D, L), cA, ad)) (fr ((D, L), cA, ad) H.size) a) (fr ((D, L), cA, ad) H.size))
    (kk : ∀ (κ' : Kp) (H1 : Heap) (locs1 : List Loc), post κ' → Wa A D cA L ad s κ' H1 locs1 → W p l e R s m args below meth c H1 locs1 (cells + mc) (slots + ms) Q (F0 m (pc + 3) ls rest)) : W p l e R s m args below meth c H locs cells slots Q (F0 m pc ls st0) :=
  va_callv hr hw.2.1 (fun q _ h => fr_lt hw q h) (fr_lt hw) (fun u t H1 locs1 ht hvm hp hB hz hk hS => kk u H1 locs1 hp ⟨by rw [← ht]; exact hB, hS, hw.2.2⟩)
theorem k_ce {post : Option Nat → Kp → Prop} (hw : Wa A D cA L ad s κ H locs) (hr : va_Run p l e R s m args below meth c H locs cells slots mc ms (F0 m pc ls st0) rest (va_Qe ad post (Wp ((D, L), cA, ad)) (fr ((D, L), cA, ad) H.size) a) (fr ((D, L), cA, ad) H.size))
    (kk : ∀ (r : Option Nat) (κ' : Kp) (H1 : Heap) (locs1 : List Loc), post r κ' → Wa A D cA L ad s κ' H1 locs1 → W p l e R s m args below meth c H1 locs1 (cells + mc) (slots + ms) Q (F0 m (pc + 3) ls (va_re ad r :: rest))) : W p l e R s m args below meth c H locs cells slots Q (F0 m pc ls st0) :=
  va_calle hr hw.2.1 (fun q _ h => fr_lt hw q h) (fr_lt hw) (fun r u t H1 locs1 ht hvm hp hB hz hk hS => kk r u H1 locs1 hp ⟨by rw [← ht]; exact hB, hS, hw.2.2⟩)
-- .. that answers a number and leaves the cells as they are
theorem k_cip {v : Int32} (hw : Wa A D cA L ad s κ H locs) (hr : va_Run p l e R s m args below meth c H locs cells slots mc ms (F0 m pc ls st0) rest (va_Qi (fun r κ' => r = v ∧ κ' = κ) (Wp ((D, L), cA, ad)) (fr ((D, L), cA, ad) H.size) a) (fr ((D, L), cA, ad) H.size))
    (kk : ∀ (H1 : Heap) (locs1 : List Loc), Wa A D cA L ad s κ H1 locs1 → W p l e R s m args below meth c H1 locs1 (cells + mc) (slots + ms) Q (F0 m (pc + 3) ls (.int v :: rest))) : W p l e R s m args below meth c H locs cells slots Q (F0 m pc ls st0) :=
  k_ci hw hr (fun r κ' H1 locs1 hp hw1 => by obtain ⟨rfl, rfl⟩ := hp; exact kk H1 locs1 hw1)
theorem k_clp {v : Int64} (hw : Wa A D cA L ad s κ H locs) (hr : va_Run p l e R s m args below meth c H locs cells slots mc ms (F0 m pc ls st0) rest (va_Ql (fun r κ' => r = v ∧ κ' = κ) (Wp ((D, L), cA, ad)) (fr ((D, L), cA, ad) H.size) a) (fr ((D, L), cA, ad) H.size))
    (kk : ∀ (H1 : Heap) (locs1 : List Loc), Wa A D cA L ad s κ H1 locs1 → W p l e R s m args below meth c H1 locs1 (cells + mc) (slots + ms) Q (F0 m (pc + 3) ls (.long v :: rest))) : W p l e R s m args below meth c H locs cells slots Q (F0 m pc ls st0) :=
  k_cl hw hr (fun r κ' H1 locs1 hp hw1 => by obtain ⟨rfl, rfl⟩ := hp; exact kk H1 locs1 hw1)
theorem k_cep {v : Option Nat} (hw : Wa A D cA L ad s κ H locs) (hr : va_Run p l e R s m args below meth c H locs cells slots mc ms (F0 m pc ls st0) rest (va_Qe ad (fun r κ' => r = v ∧ κ' = κ) (Wp ((D, L), cA, ad)) (fr ((D, L), cA, ad) H.size) a) (fr ((D, L), cA, ad) H.size))
    (kk : ∀ (H1 : Heap) (locs1 : List Loc), Wa A D cA L ad s κ H1 locs1 → W p l e R s m args below meth c H1 locs1 (cells + mc) (slots + ms) Q (F0 m (pc + 3) ls (va_re ad v :: rest))) : W p l e R s m args below meth c H locs cells slots Q (F0 m pc ls st0) :=
  k_ce hw hr (fun r κ' H1 locs1 hp hw1 => by obtain ⟨rfl, rfl⟩ := hp; exact kk H1 locs1 hw1)
theorem k_cvp {κ2 : Kp} (hw : Wa A D cA L ad s κ H locs) (hr : va_Run p l e R s m args below meth c H locs cells slots mc ms (F0 m pc ls st0) rest (va_Qv (fun κ' => κ' = κ2) (Wp ((D, L), cA, ad)) (fr ((D, L), cA, ad) H.size) a) (fr ((D, L), cA, ad) H.size))
    (kk : ∀ (κ' : Kp) (H1 : Heap) (locs1 : List Loc), κ2 = κ' → Wa A D cA L ad s κ' H1 locs1 → W p l e R s m args below meth c H1 locs1 (cells + mc) (slots + ms) Q (F0 m (pc + 3) ls rest)) : W p l e R s m args below meth c H locs cells slots Q (F0 m pc ls st0) :=
  k_cv hw hr (fun κ' H1 locs1 hp hw1 => kk κ' H1 locs1 hp.symm hw1)
-- behind a call that may throw
theorem k_xi {post : Int32 → Kp → Prop} {XE : String → Kp → Prop} (hw : Wa A D cA L ad s κ H locs) (hr : vx_Run p l e R s m args below meth c H locs cells slots mc ms (F0 m pc ls st0) rest (va_Qi post (Wp ((D, L), cA, ad)) (fr ((D, L), cA, ad) H.size) a) (xC ((D, L), cA, ad) H.size XE) (fr ((D, L), cA, ad) H.size))
    (kx : ∀ (E : String) (κ' : Kp) (ce : Cell) (q9 : Addr) (H1 : Heap) (locs1 : List Loc), XE E κ' → Wa A D cA L ad s κ' H1 locs1 → H1[q9]? = some ce → ce.vm = .none → s.vm.findClass E = some ce.cls → vx_W p l e R s m args below meth c H1 locs1 (cells + mc) (slots + ms) Q (F0 m pc ls rest) q9)
    (kk : ∀ (r : Int32) (κ' : Kp) (H1 : Heap) (locs1 : List Loc), post r κ' → Wa A D cA L ad s κ' H1 locs1 → W p l e R s m args below meth c H1 locs1 (cells + mc) (slots + ms) Q (F0 m (pc + 3) ls (.int r :: rest))) : W p l e R s m args below meth c H locs cells slots Q (F0 m pc ls st0) :=
  vx_calli hr hw.2.1 (fun q _ h => fr_lt hw q h) (fr_lt hw) (fun q _ h => fr_lt hw q h) (fun E ce q u t H1 locs1 ht hvm hp hB hz hk hS h1 h2 h3 => kx E u ce q H1 locs1 hB.1 ⟨by rw [← ht]; exact hB.2, hS, hw.2.2⟩ h1 h2 h3) (fun r u t H1 locs1 ht hvm hp hB hz hk hS => kk r u H1 locs1 hp ⟨by rw [← ht]; exact hB, hS, hw.2.2⟩)
theorem k_xv {post : Kp → Prop} {XE : String → Kp → Prop} (hw : Wa A D cA L ad s κ H locs) (hr : vx_Run p l e R s m args below meth c H locs cells slots mc ms (F0 m pc ls st0) rest (va_Qv post (Wp ((D, L), cA, ad)) (fr ((D, L), cA, ad) H.size) a) (xC ((D, L), cA, ad) H.size XE) (fr ((D, L), cA, ad) H.size))
    (kx : ∀ (E : String) (κ' : Kp) (ce : Cell) (q9 : Addr) (H1 : Heap) (locs1 : List Loc), XE E κ' → Wa A D cA L ad s κ' H1 locs1 → H1[q9]? = some ce → ce.vm = .none → s.vm.findClass E = some ce.cls → vx_W p l e R s m args below meth c H1 locs1 (cells + mc) (slots + ms) Q (F0 m pc ls rest) q9)
    (kk : ∀ (κ' : Kp) (H1 : Heap) (locs1 : List Loc), post κ' → Wa A D cA L ad s κ' H1 locs1 → W p l e R s m args below meth c H1 locs1 (cells + mc) (slots + ms) Q (F0 m (pc + 3) ls rest)) : W p l e R s m args below meth c H locs cells slots Q (F0 m pc ls st0) :=
  vx_callv hr hw.2.1 (fun q _ h => fr_lt hw q h) (fr_lt hw) (fun q _ h => fr_lt hw q h) (fun E ce q u t H1 locs1 ht hvm hp hB hz hk hS h1 h2 h3 => kx E u ce q H1 locs1 hB.1 ⟨by rw [← ht]; exact hB.2, hS, hw.2.2⟩ h1 h2 h3) (fun u t H1 locs1 ht hvm hp hB hz hk hS => kk u H1 locs1 hp ⟨by rw [← ht]; exact hB, hS, hw.2.2⟩)
theorem k_xe {post : Option Nat → Kp → Prop} {XE : String → Kp → Prop} (hw : Wa A D cA L ad s κ H locs) (hr : vx_Run p l e R s m args below meth c H locs cells slots mc ms (F0 m pc ls st0) rest (va_Qe ad post (Wp ((D, L), cA, ad)) (fr ((D, L), cA, ad) H.size) a) (xC ((D, L), cA, ad) H.size XE) (fr ((D, L), cA, ad) H.size))
    (kx : ∀ (E : String) (κ' : Kp) (ce : Cell) (q9 : Addr) (H1 : Heap) (locs1 : List Loc), XE E κ' → Wa A D cA L ad s κ' H1 locs1 → H1[q9]? = some ce → ce.vm = .none → s.vm.findClass E = some ce.cls → vx_W p l e R s m args below meth c H1 locs1 (cells + mc) (slots + ms) Q (F0 m pc ls rest) q9)
    (kk : ∀ (r : Option Nat) (κ' : Kp) (H1 : Heap) (locs1 : List Loc), post r κ' → Wa A D cA L ad s κ' H1 locs1 → W p l e R s m args below meth c H1 locs1 (cells + mc) (slots + ms) Q (F0 m (pc + 3) ls (va_re ad r :: rest))) : W p l e R s m args below meth c H locs cells slots Q (F0 m pc ls st0) := by
  intro T hT X
  rcases hr T hT X with ⟨v, st₀, t, T', L, h0, X', hL, e1, e2, ⟨⟨r, u, hv, hp, hb⟩, hF⟩, st⟩ | ⟨q, st₀, t, T', L, E, ce, h0, X', hL, e1, e2, ⟨u, hp, hb, hF⟩, hce, hcv, hcl, st⟩
  · cases hv
    obtain ⟨k1, k2, k3⟩ := vx_keep h0 e1 hw.2.1 (fun q _ h => fr_lt hw q h) (fr_lt hw) hL hF
    obtain ⟨t2, a1, b1⟩ := kk r u T'.heap (locs ++ L) hp ⟨by rw [e1]; exact hb, k3, hw.2.2⟩ T' rfl X'
    exact ⟨t2, st t2 a1, b1⟩
  · obtain ⟨k1, k2, k3⟩ := vx_keep h0 e1 hw.2.1 (fun q _ h => fr_lt hw q h) (fr_lt hw) hL hF
    obtain ⟨t2, a1, b1⟩ := kx E u ce q T'.heap (locs ++ L) hb.1 ⟨by rw [e1]; exact hb.2, k3, hw.2.2⟩ (by rw [e1]; exact hce) hcv hcl T' rfl X'
    exact ⟨t2, st.trans a1, b1⟩
end KC
section KCO
variable {p : Program} {l : Launch} {e : Env} {R : Room} {s : State} {m : MethodId} {args : Array Value} {below : List Frame} {meth : Method} {c : Code} {H : Heap} {locs : List Loc} {cells slots : Nat}
variable {cc : ByteArray} {pc nL mc ms : Nat} {ls : Array Slot} {rest : List Value} {g : Gt} {κ : Kp} {own : String} {Qc : Array Value → State → Outcome → State → Prop}
/-- not caught: on to the caller -/
theorem k_xout {XE : String → Kp → Prop} {E : String} {ce : Cell} {q9 : Addr} (hM : Mc g p s m args meth c cc nL own) (hno : ∀ x ∈ c.exceptionTable.toList, False) (hw : Ws g s κ H locs) (h1 : H[q9]? = some ce) (h2 : ce.vm = .none) (h3 : s.vm.findClass E = some ce.cls) (hx : XE E κ) (hc : cells ≤ mc) (hs : slots ≤ ms) :
    vx_W p l e R s m args below meth c H locs cells slots (vx_MQ below Qc (xC g s.heap.size XE) args s mc ms (fr g s.heap.size)) (F0 m pc ls rest) q9 :=
  vx_out (fun x h => (hno x h).elim) hM.2.2.2 h1 h2 h3 (fun t ht hvm => ⟨κ, trivial, ⟨hx, by show va_P _ _ _ t.heap; rw [ht]; exact hw.1⟩, hw.2.1.F ht⟩) hw.2.1.2.2 hc hs
end KCO
section KX2
variable {l : Launch}
/-- the entry of a method that may throw -/
theorem k_xenter {y : MethodName} {rm : Room} {g : Gt} {κ : Kp} {sz : Nat} {av : List Value} {Qc : Array Value → State → Outcome → State → Prop} {XC : String → State → State → Prop} {mc ms maxL : Nat} {cc : ByteArray} {ret : Option FieldType} (hy : plainName y.cls = true) (hlen : (lg_sl av).length ≤ maxL)
    (body : ∀ (p : Program) (e : Env) (s : State) (m : MethodId) (below : List Frame) (meth : Method) (c : Code) (ls : Array Slot), Mc g p s m av.toArray meth c cc maxL y.cls → (∀ x ∈ c.exceptionTable.toList, False) → meth.sig.returnType = ret → lv_has ls maxL (lv_args 0 av) → Ws g s κ s.heap [] → s.heap.size = sz →
      W p l e rm s m av.toArray below meth c s.heap [] 0 0 (vx_MQ below Qc XC av.toArray s mc ms (fr g s.heap.size)) (F0 m 0 ls [])) : vx_Met l y (Cond.code y cc maxL ret :: uW) rm (PRE g κ sz av) Qc XC mc ms (fr g sz) := by
  refine vx_ofW (cc := cc) (maxL := maxL) (ret := ret) hy rfl ?_
  intro p e s m args below meth c s₁ B hml hno hv
  obtain ⟨rfl, rfl, hP, hE⟩ := hv
  have hts := atoms_spec (ws := Cond.code y cc maxL ret :: uW) B.pre
  have hl := lv_entry av (n := maxL) hlen
  rw [lg_entry_eq]
  generalize (lg_sl av ++ List.replicate (maxL - (lg_sl av).length) Slot.unset).toArray = ls at hl ⊢
  exact body p e s m below meth c ls ⟨⟨B.exec, B.bytes, hml, findClass_of_methodNamed B.named, fun w h => hts w (List.mem_cons_of_mem _ h)⟩, hE.1, hE.2.2, B.notSynchronized⟩ hno B.returns hl ⟨hP, va_S.rf, hE.2.1, fun q hq => Or.inr hq⟩ rfl
end KX2
abbrev xnames : List String := ["java/lang/RuntimeException", "java/lang/Exception"]
section KT
variable {p : Program} {l : Launch} {e : Env} {R : Room} {s : State} {m : MethodId} {args : Array Value} {below : List Frame} {meth : Method} {c : Code} {H : Heap} {locs : List Loc} {cells slots mc ms : Nat}
variable {cc : ByteArray} {pc nL : Nat} {ls : Array Slot} {rest : List Value} {g : Gt} {κ : Kp} {Qc : Array Value → State → Outcome → State → Prop} {XE : String → Kp → Prop}
/-- throw new cls("text") -/
theorem k_throw {cls text : String} {ik is ic : Nat} (hl : l.stackTraces = false) (hM : Mc g p s m args meth c cc nL RX4) (hno : ∀ x ∈ c.exceptionTable.toList, False) (hw : Ws g s κ H locs) (hcls : Bundle.fit cls = true) (hk : Cond.classLink RX4 ik cls ∈ uW) (hini : Cond.initialized cls ∈ uW) (hstr : (is, text) ∈ strl)
    (hat : ∀ w ∈ (vx_atS RX4 ic cls xnames).filter goodWord, w ∈ uW) (hbad : ∀ w ∈ (vx_atS RX4 ic cls xnames).filter (fun w => !goodWord w), w ∈ nwl) (hgood : ∀ w ∈ Cond.classLink RX4 ik cls :: Cond.initialized cls :: vx_atS RX4 ic cls xnames, vx_ot w = true)
    (hls : ls.size = nL) (d0 : decode cc pc = .ok (.new ik, 3)) (d3 : decode cc (pc + 3) = .ok (.dup, 1)) (d4 : decode cc (pc + 4) = .ok (.ldc is, 2)) (d6 : decode cc (pc + 6) = .ok (.invokespecial ic, 3)) (d9 : decode cc (pc + 9) = .ok (.athrow, 1))
    (hRf : 5 < R.frames) (hRl : (rest.map fun v => v.category).sum + 82 ≤ R.locals) (hRc : cells + 1 ≤ R.cells) (hRs : slots + 6 ≤ R.slots) (hx : XE cls κ) (hc : cells + 1 ≤ mc) (hs : slots + 6 ≤ ms) :
    W p l e R s m args below meth c H locs cells slots (vx_MQ below Qc (xC g s.heap.size XE) args s mc ms (fr g s.heap.size)) (F0 m pc ls rest) := by
  obtain ⟨hK, h0⟩ := hM.2.1
  have hz := hM.2.2.1
  obtain ⟨sa, hsa⟩ := h0.2.1 _ hstr
  refine vx_throwS (names := xnames) (text := text) (A := fr g s.heap.size) hM.x hM.b hl hM.ow hcls (by decide +kernel) (hM.ts _ hk) (hM.ts _ hini) hsa ?_ hgood hz.1 hz.2 hw.2.1 (by rw [hM.ml]; exact hls) d0 d3 d4 d6 d9 (fun x h => (hno x h).elim) hRf hRl hRc hRs hM.2.2.2 (fun t hvm h1 h2 => ⟨κ, trivial, ⟨hx, ?_⟩, ?_⟩) hw.2.1.2.2 hc hs
  · refine vx_hat (B := nwl) (fun w hw => hM.ts _ (hat w hw)) hbad (fun w hw => va_Nw.use (nwl_tab hw) (h0.1 w hw))
  · exact hw.1.kept (fun k q hq => h2 q.1 ((hw.1 k q hq).lt))
  · exact ⟨Nat.le_trans hw.2.1.1 h1, fun q hq hn => by rw [h2 q (Nat.lt_of_lt_of_le hq hw.2.1.1)]; exact hw.2.1.2.1 q hq hn⟩
end KT
theorem xISE1 : ∀ w ∈ (vx_atS RX4 27 nISE xnames).filter goodWord, w ∈ uW := fun w h => List.mem_filter.mpr ⟨(by decide +kernel : ∀ w ∈ (vx_atS RX4 27 nISE xnames).filter goodWord, w ∈ lw_tbl) w h, (List.mem_filter.mp h).2⟩
theorem xISE2 : ∀ w ∈ (vx_atS RX4 27 nISE xnames).filter (fun w => !goodWord w), w ∈ nwl := by decide +kernel
theorem xISE3 : ∀ w ∈ Cond.classLink RX4 23 nISE :: Cond.initialized nISE :: vx_atS RX4 27 nISE xnames, vx_ot w = true := by decide +kernel
theorem xIAE1 : ∀ w ∈ (vx_atS RX4 38 nIAE xnames).filter goodWord, w ∈ uW := fun w h => List.mem_filter.mpr ⟨(by decide +kernel : ∀ w ∈ (vx_atS RX4 38 nIAE xnames).filter goodWord, w ∈ lw_tbl) w h, (List.mem_filter.mp h).2⟩
theorem xIAE2 : ∀ w ∈ (vx_atS RX4 38 nIAE xnames).filter (fun w => !goodWord w), w ∈ nwl := by decide +kernel
theorem xIAE3 : ∀ w ∈ Cond.classLink RX4 34 nIAE :: Cond.initialized nIAE :: vx_atS RX4 38 nIAE xnames, vx_ot w = true := by decide +kernel
theorem xIOE1 : ∀ w ∈ (vx_atS RX4 159 nIOE xnames).filter goodWord, w ∈ uW := fun w h => List.mem_filter.mpr ⟨(by decide +kernel : ∀ w ∈ (vx_atS RX4 159 nIOE xnames).filter goodWord, w ∈ lw_tbl) w h, (List.mem_filter.mp h).2⟩
theorem xIOE2 : ∀ w ∈ (vx_atS RX4 159 nIOE xnames).filter (fun w => !goodWord w), w ∈ nwl := by decide +kernel
theorem xIOE3 : ∀ w ∈ Cond.classLink RX4 155 nIOE :: Cond.initialized nIOE :: vx_atS RX4 159 nIOE xnames, vx_ot w = true := by decide +kernel
section KX
variable {l : Launch}
/-- a method's entry -/
theorem k_enter {y : MethodName} {rm : Room} {g : Gt} {κ : Kp} {sz : Nat} {av : List Value} {Qc : Array Value → State → Outcome → State → Prop} {mc ms maxL : Nat} {cc : ByteArray} {ret : Option FieldType} (hy : plainName y.cls = true) (hlen : (lg_sl av).length ≤ maxL)
    (body : ∀ (p : Program) (e : Env) (s : State) (m : MethodId) (below : List Frame) (meth : Method) (c : Code) (ls : Array Slot), Mc g p s m av.toArray meth c cc maxL y.cls → meth.sig.returnType = ret → lv_has ls maxL (lv_args 0 av) → Ws g s κ s.heap [] → s.heap.size = sz →
      W p l e rm s m av.toArray below meth c s.heap [] 0 0 (MQ below Qc av.toArray s mc ms (fr g s.heap.size)) (F0 m 0 ls [])) : Met l y (Cond.code y cc maxL ret :: uW) rm (PRE g κ sz av) Qc mc ms (fr g sz) := by
  refine Met.ofW (cc := cc) (maxL := maxL) (ret := ret) hy rfl ?_
  intro p e s m args below meth c s₁ B hml hv
  obtain ⟨rfl, rfl, hP, hE⟩ := hv
  have hts := atoms_spec (ws := Cond.code y cc maxL ret :: uW) B.pre
  have hl := lv_entry av (n := maxL) hlen
  rw [lg_entry_eq]
  generalize (lg_sl av ++ List.replicate (maxL - (lg_sl av).length) Slot.unset).toArray = ls at hl ⊢
  exact body p e s m below meth c ls ⟨⟨B.exec, B.bytes, hml, findClass_of_methodNamed B.named, fun w h => hts w (List.mem_cons_of_mem _ h)⟩, hE.1, hE.2.2, B.notSynchronized⟩ B.returns hl ⟨hP, va_S.rf, hE.2.1, fun q hq => Or.inr hq⟩ rfl
end KX
section KE
variable {p : Program} {l : Launch} {e : Env} {R : Room} {s : State} {m : MethodId} {args : Array Value} {below : List Frame} {meth : Method} {c : Code} {H : Heap} {locs : List Loc} {cells slots mc ms : Nat}
variable {cc : ByteArray} {pc nL : Nat} {ls : Array Slot} {g : Gt} {κ : Kp} {own : String}
theorem k_iret {v : Int32} {post : Int32 → Kp → Prop} (hM : Mc g p s m args meth c cc nL own) (hr : meth.sig.returnType = some .int) (hw : Ws g s κ H locs) (hc : cells ≤ mc) (hs : slots ≤ ms) (hp : post v κ) (hdg : decode cc pc = .ok (.ireturn, 1)) :
    W p l e R s m args below meth c H locs cells slots (MQ below (va_Qi post (Wp g) (fr g s.heap.size)) args s mc ms (fr g s.heap.size)) (F0 m pc ls [.int v]) :=
  W.widen hc hs (W.iret hM.x hM.b hr (fun t ht hW => ⟨⟨v, κ, rfl, hp, by show va_P _ _ _ t.heap; rw [ht]; exact hw.1⟩, hw.2.1.F ht⟩) hw.2.1.2.2 hdg hM.2.2.2)
theorem k_zret {b : Bool} {post : Int32 → Kp → Prop} (hM : Mc g p s m args meth c cc nL own) (hr : meth.sig.returnType = some .boolean) (hw : Ws g s κ H locs) (hc : cells ≤ mc) (hs : slots ≤ ms) (hp : post (bi b) κ) (hdg : decode cc pc = .ok (.ireturn, 1)) :
    W p l e R s m args below meth c H locs cells slots (MQ below (va_Qi post (Wp g) (fr g s.heap.size)) args s mc ms (fr g s.heap.size)) (F0 m pc ls [.int (bi b)]) :=
  W.widen hc hs (W.zret hM.x hM.b hr (bi_narrow b) (fun t ht hW => ⟨⟨bi b, κ, rfl, hp, by show va_P _ _ _ t.heap; rw [ht]; exact hw.1⟩, hw.2.1.F ht⟩) hw.2.1.2.2 hdg hM.2.2.2)
theorem k_vret {post : Kp → Prop} (hM : Mc g p s m args meth c cc nL own) (hr : meth.sig.returnType = none) (hw : Ws g s κ H locs) (hc : cells ≤ mc) (hs : slots ≤ ms) (hp : post κ) (hdg : decode cc pc = .ok (.return_, 1)) :
    W p l e R s m args below meth c H locs cells slots (MQ below (va_Qv post (Wp g) (fr g s.heap.size)) args s mc ms (fr g s.heap.size)) (F0 m pc ls []) :=
  W.widen hc hs (W.vret hM.x hM.b hr (fun t ht hW => ⟨⟨κ, rfl, hp, by show va_P _ _ _ t.heap; rw [ht]; exact hw.1⟩, hw.2.1.F ht⟩) hw.2.1.2.2 hdg hM.2.2.2)
theorem k_lret {v : Int64} {post : Int64 → Kp → Prop} (hM : Mc g p s m args meth c cc nL own) (hr : meth.sig.returnType = some .long) (hw : Ws g s κ H locs) (hc : cells ≤ mc) (hs : slots ≤ ms) (hp : post v κ) (hdg : decode cc pc = .ok (.lreturn, 1)) :
    W p l e R s m args below meth c H locs cells slots (MQ below (va_Ql post (Wp g) (fr g s.heap.size)) args s mc ms (fr g s.heap.size)) (F0 m pc ls [.long v]) :=
  W.widen hc hs (W.lret hM.x hM.b hr (fun t ht hW => ⟨⟨v, κ, rfl, hp, by show va_P _ _ _ t.heap; rw [ht]; exact hw.1⟩, hw.2.1.F ht⟩) hw.2.1.2.2 hdg hM.2.2.2)
/-- an answer that is one of the cells, or null -/
theorem k_eret {v : Option Nat} {rt : String} {post : Option Nat → Kp → Prop} (hM : Mc g p s m args meth c cc nL own) (hr : meth.sig.returnType = some (.object rt)) (hw : Ws g s κ H locs) (hc : cells ≤ mc) (hs : slots ≤ ms) (hp : post v κ) (hdg : decode cc pc = .ok (.areturn, 1)) :
    W p l e R s m args below meth c H locs cells slots (MQ below (va_Qe g.2.2 post (Wp g) (fr g s.heap.size)) args s mc ms (fr g s.heap.size)) (F0 m pc ls [va_re g.2.2 v]) :=
  W.widen hc hs (W.aret hM.x hM.b hr (Or.inl ⟨_, rfl⟩) (va_re_or _ _) (fun t ht hW => ⟨⟨v, κ, rfl, hp, by show va_P _ _ _ t.heap; rw [ht]; exact hw.1⟩, hw.2.1.F ht⟩) hw.2.1.2.2 hdg hM.2.2.2)
end KE
