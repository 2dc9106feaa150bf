/-- what is asked of a call of the class, caught, and the same call of the reference -/
def SimOp (S : Nat → Kp → Prop) (fL fX : Kp → Int32 × Kp) : Prop := ∀ (t : Nat) (κ : Kp), t < 512 → S t κ → ∀ k κ1, fL κ = (k, κ1) → MI κ1 ∧ ∀ r κ2, fX κ1 = (r, κ2) → f_X5_thrown κ2 = k ∧ (k = 0 → κ2 98 0 = r) ∧ S (t + 1) κ2
/-- .. that answers yes or no -/
def SimOz (S : Nat → Kp → Prop) (fL fX : Kp → Int32 × Kp) : Prop := SimOp S fL fX ∧ ∀ κ r κ2, fX κ = (r, κ2) → r = 0 ∨ r = 1
/-- of a read that never throws -/
def SimRd (S : Nat → Kp → Prop) (f : Kp → Int32) (fX : Kp → Int32 × Kp) : Prop := ∀ (t : Nat) (κ : Kp), t < 512 → S t κ → MI κ ∧ ∀ r κ2, fX κ = (r, κ2) → f κ = r ∧ S (t + 1) κ2
/-- of the look at the feast -/
def SimFe (S : Nat → Kp → Prop) (fX4 fX : Kp → Int32 × Kp) : Prop := ∀ (t : Nat) (κ : Kp), t < 512 → S t κ → ∀ k κ1, fX4 κ = (k, κ1) → (MI κ1 ∧ (0 ≤ (κ1 96 0).toInt ∧ (κ1 96 0).toInt < 2 ^ 29) ∧ (0 ≤ (κ1 91 4).toInt ∧ (κ1 91 4).toInt < 2 ^ 29)) ∧ ∀ r κ2, fX κ1 = (r, κ2) → k = r ∧ S (t + 1) κ2
def SimLg (S : Nat → Kp → Prop) (f : Kp → Int64) (fX : Kp → Int64 × Kp) : Prop := ∀ (t : Nat) (κ : Kp), t < 512 → S t κ → MI κ ∧ ∀ r κ2, fX κ = (r, κ2) → f κ = r ∧ S (t + 1) κ2
def SimDb (S : Nat → Kp → Prop) (f : Kp → UInt64) (fX : Kp → UInt64 × Kp) : Prop := ∀ (t : Nat) (κ : Kp), t < 512 → S t κ → MI κ ∧ ∀ r κ2, fX κ = (r, κ2) → f κ = r ∧ S (t + 1) κ2
theorem lgc {x y : Int64} (h : x = y) : lg_cmp x y = 0 := by
  subst h
  unfold lg_cmp
  rw [if_neg (by simp only [gt_iff_lt, Int64.lt_iff_toInt_lt]; omega), if_pos rfl]
theorem lgc32 {x y : Int32} (h : x = y) : lg_cmp x.toInt64 y.toInt64 = 0 := lgc (by rw [h])
theorem lgc_1 {x r : Int32} (h : x = r) (h1 : ¬ r = 0) (h2 : r = 0 ∨ r = 1) : lg_cmp x.toInt64 1 = 0 := by
  rcases h2 with h2 | h2
  · exact absurd h2 h1
  · subst h2; subst h; exact lgc (by decide)
theorem lgc_0 {x r : Int32} (h : x = r) (h1 : r = 0) : lg_cmp x.toInt64 0 = 0 := by
  subst h1; subst h; exact lgc (by decide)
section KLO
variable {p : Program} {l : Launch} {e : Env} {R : Room} {s : State} {m : MethodId} {args : Array Value} {below : List Frame} {meth : Method} {c : Code} {H : Heap} {locs : List Loc} {cells slots mc ms : Nat} {Q : State → Prop}
variable {cc bytes : ByteArray} {pc nL maxL n idx k : Nat} {ls : Array Slot} {rest st0 : List Value} {g : Gt} {κ : Kp} {own C : String} {y : MethodName} {ret : Option FieldType} {rm : Room} {Qc : Array Value → State → Outcome → State → Prop} {d : Drawn} {a : Array Value}
theorem k_sld {b L i : Nat} {xs : Nat → Int32} (hM : Mc g p (s.setDrawn d) m args meth c cc nL own) (hX : va_X b L xs s s.heap) (hbl : b < s.heap.size) (hbA : ¬ fr g s.heap.size b) (hw : Ws g (s.setDrawn d) κ H locs) (hi : i < L) (hL : L ≤ 1536) (hdg : decode cc pc = .ok (.iaload, 1))
    (kk : W p l e R (s.setDrawn d) m args below meth c H locs cells slots Q (F0 m (pc + 1) ls (.int (xs i) :: rest))) : W p l e R (s.setDrawn d) m args below meth c H locs cells slots Q (F0 m pc ls (.int (nI i) :: .ref b :: rest)) := by
  have hX2 : va_X b L xs (s.setDrawn d) s.heap := hX.moved (Vm.Alike.refl s.vm)
  exact va_sld hM.x hM.b hX2 hbl hbA hw.2 (vp_in_nI hi (by omega)) hdg (by rw [nI_clamp (by omega)]; exact kk)
theorem k_runVD {ci N : Nat} {T : u_T} {fs : List Value} (As rest : List Value) (hM : Mc g p s m args meth c cc nL own) (hw : Ws g s κ H locs) (ct : MetD lw_cs l y (.code y bytes maxL ret :: uW) rm (PRE g κ H.size (.ref (g.2.2 k) :: As)) Qc mc ms (fr g H.size)) (hk : k < 99) (hsh : sh g.2.1 g.2.2 k (κ k) = .inr (ci, fs)) (hc : vwCl[ci]? = some (C, T, N))
    (hG : GoodIn uW (wsV own idx C y (.code y bytes maxL ret :: uW))) (hd : hdV y C n) (hn : As.length = n) (hrc : rm.cells = mc) (hrs : rm.slots = ms) (hR : rmOk R rm maxL) (hls : ls.size = nL) (hst : st0 = As.reverse ++ .ref (g.2.2 k) :: rest) (hsum : (rest.map fun v => v.category).sum ≤ 8) (hdg : decode cc pc = .ok (.invokevirtual idx, 3)) (hf : cells + mc ≤ R.cells ∧ slots + ms ≤ R.slots) :
    va_RunD lw_cs p l e R s m args below meth c H locs cells slots mc ms (F0 m pc ls st0) rest (Qc (Value.ref (g.2.2 k) :: As).toArray) (fr g H.size) :=
  va_runV_D (As := As) (rest := rest) hM.1 ct (cwV n hM.ts hG rfl hrc hrs hd hR) ⟨PRE.blind, va_recv hM.K hw.1 hc (by rw [wl_get g κ hk, hsh]), fun U hU hW => ⟨rfl, by rw [hU], Wd.warm hM.2.1 hw hU hW⟩⟩ rfl hn hls hst (lv_room hsum) hdg hf
theorem k_cd {post : UInt64 → Kp → Prop} {d0 : Drawn} (hd0 : s.drawn.sameBut d0 lw_cs) (hw : Ws g (s.setDrawn d0) κ H locs) (hr : va_RunD lw_cs p l e R (s.setDrawn d0) m args below meth c H locs cells slots mc ms (F0 m pc ls st0) rest (va_Qd post (Wp g) (fr g H.size) a) (fr g H.size))
    (kk : ∀ (r : UInt64) (κ' : Kp) (H1 : Heap) (locs1 : List Loc) (d1 : Drawn), s.drawn.sameBut d1 lw_cs → post r κ' → Ws g (s.setDrawn d1) κ' H1 locs1 → W p l e R (s.setDrawn d1) m args below meth c H1 locs1 (cells + mc) (slots + ms) Q (F0 m (pc + 3) ls (.double r :: rest))) : W p l e R (s.setDrawn d0) m args below meth c H locs cells slots Q (F0 m pc ls st0) :=
  va_calldD hd0 hr hw.2 (fun q _ h => fr_lt hw q h) (fr_lt hw) (fun r u t H1 locs1 ht hvm hp hB hz hk hS d1 hd1 => kk r u H1 locs1 d1 hd1 hp ⟨by rw [← ht]; exact hB, hS⟩)
end KLO
/-- the law's locals -/
abbrev lwL (g : Gt) (b t : Nat) : List (Nat × Value) := [(4, .int (nI (3 * t))), (3, .ref (g.2.2 98)), (2, .ref (g.2.2 91)), (1, .ref (g.2.2 0)), (0, .ref b)]
theorem nan_dec {x : UInt64} (h : isNaN64 x = true) : FP.Core.decode FP.Core.b64 x.toNat = .nan := by
  rw [isNaN64_iff] at h
  have e : x.toNat &&& 0x7fffffffffffffff = x.toNat % 2 ^ 63 := Nat.and_two_pow_sub_one_eq_mod x.toNat 63
  rw [e] at h
  have hE : FP.Core.fieldE FP.Core.b64 x.toNat = FP.Core.b64.exps - 1 := by
    show x.toNat / 2 ^ 52 % 2 ^ 11 = 2 ^ 11 - 1
    omega
  have hT : ¬ FP.Core.fieldT FP.Core.b64 x.toNat = 0 := by
    show ¬ x.toNat % 2 ^ 52 = 0
    omega
  unfold FP.Core.decode
  rw [if_pos hE, if_neg hT]
theorem nan_cmp {x : UInt64} (h : isNaN64 x = true) : ¬ Op.cmpValue (FP.dcmp x x) CmpOp.l = 0 := by
  have e : FP.dcmp x x = none := by
    show FP.Core.order (FP.Core.decode FP.Core.b64 x.toNat) (FP.Core.decode FP.Core.b64 x.toNat) = none
    rw [nan_dec h]; rfl
  rw [e]
  decide
theorem alike_or {x y v : UInt64} (h1 : alike64 x v = true) (h2 : alike64 y v = true) : x = y ∨ (isNaN64 x = true ∧ isNaN64 y = true) := by
  unfold alike64 at h1 h2
  simp only [Bool.or_eq_true, decide_eq_true_eq, Bool.and_eq_true] at h1 h2
  rcases h1 with h1 | h1
  · rcases h2 with h2 | h2
    · exact Or.inl (h1.trans h2.symm)
    · exact Or.inr ⟨by rw [h1]; exact h2.2, h2.1⟩
  · rcases h2 with h2 | h2
    · exact Or.inr ⟨h1.1, by rw [h2]; exact h1.2⟩
    · exact Or.inr ⟨h1.1, h2.1⟩
