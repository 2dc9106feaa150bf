theorem u_kd_X6_145 : (Jvm.Cond.constantDouble RX6 145 4616189618054758400) ∈ uW := uW_of 484 (by decide +kernel) rfl
theorem n64_of {x : UInt64} (h : FP.Core.dIsNaN x = false) : vf_n64 x := by
  unfold vf_n64
  have h2 : ¬ 9218868437227405312 < x.toNat % 2 ^ 63 := fun q => by
    have := (FP.Core.isNaN_bits x).mpr q
    rw [h] at this
    cases this
  rw [UInt64.le_iff_toNat_le, UInt64.toNat_and]
  have h3 : (0x7fffffffffffffff : UInt64).toNat = 2 ^ 63 - 1 := by decide
  have h4 : (0x7ff0000000000000 : UInt64).toNat = 9218868437227405312 := by decide
  rw [h3, h4, Nat.and_two_pow_sub_one_eq_mod]
  omega
theorem mean_n64 {S N : Int32} (h : ¬ N = 0) : FP.Core.dIsNaN (FP.ddiv (FP.i2d S) (FP.i2d N)) = false :=
  FP.Core.ddiv_out ((FP.Core.notNaN_iff _).mpr (FP.Core.i2d_fin S).ne_nan) (FP.Core.i2d_fin N) (fun q => absurd ((FP.Core.zero_bits2 _).mp q) (FP.Core.i2d_ne_zero h))
theorem mul4 : ∀ n : Nat, n < 17 → FP.dmul 4616189618054758400 (FP.i2d (nI n)) = FP.i2d (nI n * 4) ∧ FP.dmul 4616189618054758400 (FP.i2d (nI n)) &&& 0x7fffffffffffffff ≤ 0x7ff0000000000000 := by decide +kernel
theorem alike_n {r v : UInt64} (h : alike64 r v = true) (hv : FP.Core.dIsNaN v = false) : r = v := by
  unfold alike64 at h
  simp only [Bool.or_eq_true, decide_eq_true_eq, Bool.and_eq_true] at h
  rcases h with h | ⟨-, h⟩
  · first | exact h | exact beq_iff_eq.mp h
  · rw [isNaN64_iff] at h
    have e : v.toNat &&& 0x7fffffffffffffff = v.toNat % 2 ^ 63 := Nat.and_two_pow_sub_one_eq_mod v.toNat 63
    rw [e] at h
    have := (FP.Core.isNaN_bits v).mpr (by omega)
    rw [hv] at this
    cases this
theorem cmp_self {v : UInt64} (hv : FP.Core.dIsNaN v = false) : Op.cmpValue (FP.dcmp v v) CmpOp.l = 0 := by
  rw [show FP.dcmp v v = some .eq from FP.Core.dcmp_self ((FP.Core.notNaN_iff v).mp hv)]; rfl
section KDD
variable {p : Program} {l : Launch} {e : Env} {R : Room} {s : State} {m : MethodId} {args : Array Value} {below : List Frame} {meth : Method} {c : Code} {H : Heap} {locs : List Loc} {cells slots mc ms : Nat} {Q : State → Prop}
variable {cc bytes : ByteArray} {pc nL maxL n idx k : Nat} {ls : Array Slot} {rest st0 : List Value} {A : Nat → Prop} {D : va_G} {cA : Nat → ClassId} {L : List Nat} {ad : Nat → Nat} {κ : Kp} {own C : String} {y : MethodName} {ret : Option FieldType} {rm : Room} {Qc : Array Value → State → Outcome → State → Prop} {d : Drawn} {a : Array Value}
theorem k_runVD {ci N : Nat} {T : u_T} {fs : List Value} (As rest : List Value) (hM : Ma A D cA p s m args meth c cc nL own) (hw : Wa A D cA L ad s κ H locs) (ct : MetD lw_cs l y (.code y bytes maxL ret :: uW) rm (PRE ((D, L), cA, ad) κ H.size (.ref (ad k) :: As)) Qc mc ms (fr ((D, L), cA, ad) H.size)) (hk : k ∈ L) (hsh : sh cA ad k (κ k) = .inr (ci, fs)) (hc : vwCl[ci]? = some (C, T, N))
    (hG : GoodIn uW (wsV own idx C y (.code y bytes maxL ret :: uW))) (hd : hdV y C n) (hn : As.length = n) (hrc : rm.cells = mc) (hrs : rm.slots = ms) (hR : rmOk R rm maxL) (hls : ls.size = nL) (hst : st0 = As.reverse ++ .ref (ad k) :: rest) (hsum : (rest.map fun v => v.category).sum ≤ 8) (hdg : decode cc pc = .ok (.invokevirtual idx, 3)) (hf : cells + mc ≤ R.cells ∧ slots + ms ≤ R.slots) :
    va_RunD lw_cs p l e R s m args below meth c H locs cells slots mc ms (F0 m pc ls st0) rest (Qc (Value.ref (ad k) :: As).toArray) (fr ((D, L), cA, ad) H.size) :=
  va_runV_D (As := As) (rest := rest) hM.1 ct (cwV n hM.ts hG rfl hrc hrs hd hR) ⟨PRE.blind, va_recv hM.K hw.1 hc (by rw [wl_get hk, hsh]), fun U hU hW => ⟨rfl, by rw [hU], Wd.warm hM hw hU hW⟩⟩ rfl hn hls hst (lv_room hsum) hdg hf
theorem k_cd {post : UInt64 → Kp → Prop} {d0 : Drawn} (hd0 : s.drawn.sameBut d0 lw_cs) (hw : Wa A D cA L ad (s.setDrawn d0) κ H locs) (hr : va_RunD lw_cs p l e R (s.setDrawn d0) m args below meth c H locs cells slots mc ms (F0 m pc ls st0) rest (va_Qd post (Wp ((D, L), cA, ad)) (fr ((D, L), cA, ad) H.size) a) (fr ((D, L), cA, ad) H.size))
    (kk : ∀ (r : UInt64) (κ' : Kp) (H1 : Heap) (locs1 : List Loc) (d1 : Drawn), s.drawn.sameBut d1 lw_cs → post r κ' → Wa A D cA L ad (s.setDrawn d1) κ' H1 locs1 → W p l e R (s.setDrawn d1) m args below meth c H1 locs1 (cells + mc) (slots + ms) Q (F0 m (pc + 3) ls (.double r :: rest))) : W p l e R (s.setDrawn d0) m args below meth c H locs cells slots Q (F0 m pc ls st0) :=
  va_calldD hd0 hr hw.2.1 (fun q _ h => fr_lt hw q h) (fr_lt hw) (fun r u t H1 locs1 ht hvm hp hB hz hk hS d1 hd1 => kk r u H1 locs1 d1 hd1 hp ⟨by rw [← ht]; exact hB, hS, hw.2.2⟩)
theorem k_ciD {post : Int32 → Kp → Prop} {d0 : Drawn} (hd0 : s.drawn.sameBut d0 lw_cs) (hw : Wa A D cA L ad (s.setDrawn d0) κ H locs) (hr : va_RunD lw_cs p l e R (s.setDrawn d0) m args below meth c H locs cells slots mc ms (F0 m pc ls st0) rest (va_Qi post (Wp ((D, L), cA, ad)) (fr ((D, L), cA, ad) H.size) a) (fr ((D, L), cA, ad) H.size))
    (kk : ∀ (r : Int32) (κ' : Kp) (H1 : Heap) (locs1 : List Loc) (d1 : Drawn), s.drawn.sameBut d1 lw_cs → post r κ' → Wa A D cA L ad (s.setDrawn d1) κ' H1 locs1 → W p l e R (s.setDrawn d1) m args below meth c H1 locs1 (cells + mc) (slots + ms) Q (F0 m (pc + 3) ls (.int r :: rest))) : W p l e R (s.setDrawn d0) m args below meth c H locs cells slots Q (F0 m pc ls st0) :=
  va_calliD hd0 hr hw.2.1 (fun q _ h => fr_lt hw q h) (fr_lt hw) (fun r u t H1 locs1 ht hvm hp hB hz hk hS d1 hd1 => kk r u H1 locs1 d1 hd1 hp ⟨by rw [← ht]; exact hB, hS, hw.2.2⟩)
end KDD
-- what both tell of a roast
section TELL
variable {nf ns nr j : Nat} {κ : Kp}
theorem done_eq (h : RR nf ns nr κ) (hj : j < nr) : f_X2_done κ (14 + 2 * j) = f_X5_isDone κ (104 + 2 * j) := by
  obtain ⟨e1, e2⟩ := h.2.2.2.2 j hj
  have e0 : κ (14 + 2 * j) 1 = κ (104 + 2 * j) 0 := e1 0 (by decide)
  have lp : ∀ n w, w + n = 4 → lp_X2_done κ (14 + 2 * j) n w = lp_X5_isDone κ (104 + 2 * j) n w := by
    intro n
    induction n with
    | zero => intro w _; rfl
    | succ n ih =>
      intro w hw
      rw [lp_X2_done, lp_X5_isDone, ih (w + 1) (by omega), e0, show κ (14 + 2 * j + 1) w = κ (104 + 2 * j + 1) w by rw [show 14 + 2 * j + 1 = 15 + 2 * j by omega]; exact e2 w (by omega)]
  unfold f_X2_done f_X5_isDone
  rw [lp 4 0 rfl]
  cases lp_X5_isDone κ (104 + 2 * j) 4 0 <;> rfl
theorem burnt_eq (h : RR nf ns nr κ) (hj : j < nr) : f_X2_burnt κ (14 + 2 * j) = f_X5_isBurnt κ (104 + 2 * j) := by
  obtain ⟨e1, e2⟩ := h.2.2.2.2 j hj
  have e0 : κ (14 + 2 * j) 1 = κ (104 + 2 * j) 0 := e1 0 (by decide)
  have lp : ∀ n w, w + n = 4 → lp_X2_burnt κ (14 + 2 * j) n w = lp_X5_isBurnt κ (104 + 2 * j) n w := by
    intro n
    induction n with
    | zero => intro w _; rfl
    | succ n ih =>
      intro w hw
      rw [lp_X2_burnt, lp_X5_isBurnt, ih (w + 1) (by omega), e0, show κ (14 + 2 * j + 1) w = κ (104 + 2 * j + 1) w by rw [show 14 + 2 * j + 1 = 15 + 2 * j by omega]; exact e2 w (by omega)]
  unfold f_X2_burnt f_X5_isBurnt
  rw [lp 4 0 rfl]
  cases lp_X5_isBurnt κ (104 + 2 * j) 4 0 <;> rfl
theorem glow_tell (h : RR nf ns nr κ) (hj : j < ns) : gl κ j = f_X6_glow κ (nI j) := by
  have hb := h.b
  obtain ⟨e0, e1, -⟩ := h.2.2.2.1 j hj
  obtain ⟨f, hf, ef⟩ := vp_in_of (h.1.2.2.1.fire hj hb.2.1 (by have := h.1.1.2.2.2; omega)) (by omega)
  have e2 := (h.2.2.1 f hf).2
  unfold gl f_X6_glow
  rw [nI_clamp (by omega), ← e0, ← e1, ef, nI_clamp (by omega), e2]
/-- how brown the first j roasts are, all in all -/
def sumP (κ : Kp) : Nat → Int32
  | 0 => 0
  | j + 1 => lp_X1_sumBrown_38 κ 1 j 4 0 (sumP κ j)
theorem sumP_eq (h : RR nf ns nr κ) : f_X1_sumBrown κ 1 = sumP κ nr := by
  have hb := h.b
  have c5 := h.1.2.1.2.2
  have lp : ∀ n j, j + n = 16 → j ≤ nr → lp_X1_sumBrown κ 1 n j (sumP κ j) = sumP κ nr := by
    intro n
    induction n with
    | zero =>
      intro j hj hjn
      rw [lp_X1_sumBrown, show j = nr by omega]
    | succ n ih =>
      intro j hj hjn
      rw [lp_X1_sumBrown, c5]
      by_cases q : j = nr
      · rw [if_pos ((nIle (by omega) (by omega)).mpr (by omega)), q]
      · rw [if_neg (fun z => by have := (nIle (a := nr) (b := j) (by omega) (by omega)).mp z; omega)]
        exact ih (j + 1) (by omega) (by omega)
  unfold f_X1_sumBrown
  exact lp 16 0 rfl (by omega)
end TELL
