/-! X10_entry: it answers, or throws -/
theorem ek_26 : Cond.fieldLink RX10 26 "GuardRolls" "book" "LGuardRolls$Book;" ∈ bW := List.mem_filter.mpr ⟨by decide +kernel, by decide +kernel⟩
theorem ek_246 : Cond.fieldLink RX10 246 "GuardRolls$Book" "entries" "I" ∈ bW := List.mem_filter.mpr ⟨by decide +kernel, by decide +kernel⟩
theorem ek_188 : Cond.fieldLink RX10 188 "GuardRolls$Book" "entry" "[LGuardRolls$Entry;" ∈ bW := List.mem_filter.mpr ⟨by decide +kernel, by decide +kernel⟩
theorem ek_256 : Cond.fieldLink RX10 256 "GuardRolls$Entry" "sort" "I" ∈ bW := List.mem_filter.mpr ⟨by decide +kernel, by decide +kernel⟩
theorem ek_192 : Cond.fieldLink RX10 192 "GuardRolls$Entry" "ward" "I" ∈ bW := List.mem_filter.mpr ⟨by decide +kernel, by decide +kernel⟩
theorem ek_196 : Cond.fieldLink RX10 196 "GuardRolls$Entry" "day" "I" ∈ bW := List.mem_filter.mpr ⟨by decide +kernel, by decide +kernel⟩
theorem ek_259 : Cond.fieldLink RX10 259 "GuardRolls$Entry" "amount" "I" ∈ bW := List.mem_filter.mpr ⟨by decide +kernel, by decide +kernel⟩
theorem ek_262 : Cond.fieldLink RX10 262 "GuardRolls$Entry" "kind" "I" ∈ bW := List.mem_filter.mpr ⟨by decide +kernel, by decide +kernel⟩
theorem ek_265 : Cond.fieldLink RX10 265 "GuardRolls$Entry" "voucher" "I" ∈ bW := List.mem_filter.mpr ⟨by decide +kernel, by decide +kernel⟩
def JE (x : xC) (Q : State → Prop) (pc : Nat) (L : List (Nat × Value)) (st : List Value) : Prop := ∀ ls : Array Slot, lv_has ls (x_n x) L →
  W (x_p x) (x_l x) (x_e x) (x_R x) (x_s x) (x_m x) (x_a x) (x_be x) (x_me x) (x_c x) (x_s x).heap [] 0 0 Q (F0 (x_m x) pc ls st)
section ERULES
variable {x : xC} {own : String} {cc : ByteArray} {n : Nat} {rm : Room} {M : xM} {pc : Nat} {L : List (Nat × Value)} {st : List Value} {Q : State → Prop}
theorem e_iload_n (C : Ct x own cc n rm) {i : Fin 4} {a : Nat} {v : Int32} (q : Nat) (d : decode cc pc = .ok (.iload_n i, 1)) (hi : (i : Nat) = a) (hq : L[q]? = some (a, .int v)) (k : JE x Q (pc + 1) L (.int v :: st)) : JE x Q pc L st := fun ls h => lv_iload_n C.1 C.2.1 d hi (lv_at h q hq) (k ls h)
theorem e_aload_n (C : Ct x own cc n rm) {i : Fin 4} {a v : Nat} (q : Nat) (d : decode cc pc = .ok (.aload_n i, 1)) (hi : (i : Nat) = a) (hq : L[q]? = some (a, .ref v)) (k : JE x Q (pc + 1) L (.ref v :: st)) : JE x Q pc L st := fun ls h => lv_aload_n C.1 C.2.1 d hi (lv_at h q hq) (k ls h)
theorem e_astore_n (C : Ct x own cc n rm) {i : Fin 4} {a v : Nat} (L' : List (Nat × Value)) (d : decode cc pc = .ok (.astore_n i, 1)) (hi : (i : Nat) = a) (hn : a < n) (hl : (a, Value.ref v) :: L.filter (fun q => !(q.1 == a) && !(q.1 + 1 == a && q.2.category == 2)) = L') (k : JE x Q (pc + 1) L' st) : JE x Q pc L (.ref v :: st) := fun ls h => lv_astore_n C.1 C.2.1 d hi h (by rw [C.2.2.2.2.2.2.2.1]; exact hn) hl (fun ls' h' => k ls' h')
theorem e_icmp_lt (C : Ct x own cc n rm) {a b : Int32} {off : Int} (tgt : Nat) (d : decode cc pc = .ok (.if_icmp .lt off, 3)) (ht : (pc : Int) + off = (tgt : Int)) (kt : a < b → JE x Q tgt L st) (kf : ¬ a < b → JE x Q (pc + 3) L st) : JE x Q pc L (.int b :: .int a :: st) := fun ls h => lv_icmp_lt C.1 C.2.1 d ht (fun q => kt q ls h) (fun q => kf q ls h)
theorem e_if_lt (C : Ct x own cc n rm) {a : Int32} {off : Int} (tgt : Nat) (d : decode cc pc = .ok (.ifCond .lt off, 3)) (ht : (pc : Int) + off = (tgt : Int)) (kt : a < 0 → JE x Q tgt L st) (kf : ¬ a < 0 → JE x Q (pc + 3) L st) : JE x Q pc L (.int a :: st) := fun ls h => lv_if_lt C.1 C.2.1 d ht (fun q => kt q ls h) (fun q => kf q ls h)
theorem e_get (C : Ct x own cc n rm) (hP : va_P (x_D x) vwCl (x_W x M) (x_s x).heap) {k0 ci idx : Nat} {fs : List Value} {Cn ref : String} {T : u_T} {N : Nat} (hk : k0 < x_K x) (hs : x_sh x k0 (M k0) = .inr (ci, fs)) (hc : vwCl[ci]? = some (Cn, T, N)) (hin : ∀ w ∈ u_ws Cn T N, w ∈ bW) (j : Nat) (hj : j < N) (hl : Cond.fieldLink own idx ref (T j).2.1 (T j).2.2.1 ∈ bW) (hr : (T j).1 = ref) {v : Value} (hv : fs[j]? = some v) (d : decode cc pc = .ok (.getfield idx, 3)) (k : JE x Q (pc + 3) L (v :: st)) : JE x Q pc L (.ref (x_ad x k0) :: st) := fun ls h =>
  va_get C.1 C.2.1 C.2.2.2.2.1 hin C.2.2.2.1 C.2.2.2.2.2.1 hP k0 ((xW_get hk).trans (by rw [hs])) hc j hj (C.2.2.2.2.1 _ hl) (fun _ q => hr ▸ q) hv d (k ls h)
theorem e_aldq (C : Ct x own cc n rm) (hP : va_P (x_D x) vwCl (x_W x M) (x_s x).heap) {k0 n0 : Nat} {cA : ClassId} {E : String} {g : Nat → Option Nat} (hk : k0 < x_K x) (hs : ∀ f, x_sh x k0 f = .inl (cA, n0, .inr (.inr (.inr (.inr g))))) (t0 : Nat) (ht : (x_t x)[t0]? = some (cA, .object E)) {i : Int32} (hin : vp_in i n0) {y : Nat} (hy : g i.toNatClampNeg = some y) (d : decode cc pc = .ok (.aaload, 1)) (k : JE x Q (pc + 1) L (.ref y :: st)) : JE x Q pc L (.int i :: .ref (x_ad x k0) :: st) := fun ls h =>
  va_aldq C.1 C.2.1 C.2.2.2.2.2.1 hP k0 t0 ((xW_get hk).trans (by rw [hs])) ht hin d (by rw [hy]; exact k ls h)
theorem e_tin (C : Ct x own cc n rm) {dflt lo hi : Int} {offs : Array Int} {len : Nat} {a w : Int32} (e : a = w) {off : Int} (tgt : Nat) (d : decode cc pc = .ok (.tableswitch dflt lo hi offs, len)) (h1 : ¬ w.toInt < lo) (h2 : ¬ hi < w.toInt) (ho : offs[(w.toInt - lo).toNat]? = some off) (ht : (pc : Int) + off = (tgt : Int)) (k : JE x Q tgt L st) : JE x Q pc L (.int a :: st) := fun ls h => by
  subst e
  exact lv_tableIn C.1 C.2.1 d h1 h2 ho ht (k ls h)
theorem e_tout (C : Ct x own cc n rm) {dflt lo hi : Int} {offs : Array Int} {len : Nat} {a : Int32} (tgt : Nat) (d : decode cc pc = .ok (.tableswitch dflt lo hi offs, len)) (h1 : a.toInt < lo ∨ hi < a.toInt) (ht : (pc : Int) + dflt = (tgt : Int)) (k : JE x Q tgt L st) : JE x Q pc L (.int a :: st) := fun ls h => lv_tableOut C.1 C.2.1 d h1 ht (k ls h)
end ERULES
/-- the answer, or none where it throws -/
def f_X10_entry (M : xM) (x1 x2 : Int32) : Option (Option Int32) :=
  if x1 < 0 then some none else if x1 < M 17 5 then gd x1 40 (if x2.toInt < 0 ∨ 5 < x2.toInt then some none else some (some (M (45 + x1.toNatClampNeg) x2.toInt.toNat))) else some none
abbrev rmE : Room := { frames := 6, cells := 1, slots := 6, locals := 100 }
abbrev eN (sz : Nat) : Nat → Prop := fun q => sz ≤ q
def eQ (r : Option Int32) (sz : Nat) : Array Value → State → Outcome → State → Prop := fun _ st o t => ∃ v, r = some v ∧ o = .returned (some (.int v)) ∧ va_F (eN sz) st t
def eX (r : Option Int32) (sz : Nat) : String → State → State → Prop := fun E st t => r = none ∧ E = tqN ∧ va_F (eN sz) st t
def ePre (D : va_G) (ad : Nat → Nat) (sb : Nat × Nat) (sz : Nat) (M : xM) (U : State) : Prop := xPre D (tyC D.1) ad (shC ad D.1) 177 sz M U ∧ EX sb (eN sz) U U.heap
section EBODY
variable {x : xC} {M : xM} {sb : Nat × Nat} {x1 x2 : Int32}
theorem e_throw1 (C : CtC x RX10 cX10_entry 4 rmE) (hl : (x_l x).stackTraces = false) (hX : EX sb (eN (x_s x).heap.size) (x_s x) (x_s x).heap) (ht : ∀ y ∈ (x_c x).exceptionTable.toList, False) {L : List (Nat × Value)} :
    JE x (vx_MQ (x_be x) (eQ none (x_s x).heap.size) (eX none (x_s x).heap.size) (x_a x) (x_s x) 1 6 (eN (x_s x).heap.size)) 15 L [] := by
  intro ls h
  have hR : x_R x = rmE := C.1.2.2.2.2.2.2.2.2
  exact tq_throw (n := 2) C.1.1 C.1.2.1 hl C.1.2.2.2.1 C.1.2.2.2.2.1 hX hX.2.1.1 va_S.rf (h.1.trans (C.1.2.2.2.2.2.2.2.1.trans C.1.2.2.1.symm)) dX10_entry_15 dX10_entry_18 (Or.inl ⟨dX10_entry_19, rfl⟩) dX10_entry_21 dX10_entry_24
    (fun y hy => (ht y hy).elim) (by rw [hR]; decide) (by rw [hR]; decide) (by rw [hR]; decide) (by rw [hR]; decide) C.1.2.2.2.2.2.2.1
    (fun t _ h1 h2 => ⟨rfl, rfl, h1, fun q hq _ => h2 q hq⟩) (fun _ hz => nomatch hz) (Nat.le_refl _) (Nat.le_refl _)
theorem e_throw2 (C : CtC x RX10 cX10_entry 4 rmE) (hl : (x_l x).stackTraces = false) (hX : EX sb (eN (x_s x).heap.size) (x_s x) (x_s x).heap) (ht : ∀ y ∈ (x_c x).exceptionTable.toList, False) {L : List (Nat × Value)} :
    JE x (vx_MQ (x_be x) (eQ none (x_s x).heap.size) (eX none (x_s x).heap.size) (x_a x) (x_s x) 1 6 (eN (x_s x).heap.size)) 106 L [] := by
  intro ls h
  have hR : x_R x = rmE := C.1.2.2.2.2.2.2.2.2
  exact tq_throw (n := 3) C.1.1 C.1.2.1 hl C.1.2.2.2.1 C.1.2.2.2.2.1 hX hX.2.1.2 va_S.rf (h.1.trans (C.1.2.2.2.2.2.2.2.1.trans C.1.2.2.1.symm)) dX10_entry_106 dX10_entry_109 (Or.inr ⟨dX10_entry_110, rfl⟩) dX10_entry_113 dX10_entry_116
    (fun y hy => (ht y hy).elim) (by rw [hR]; decide) (by rw [hR]; decide) (by rw [hR]; decide) (by rw [hR]; decide) C.1.2.2.2.2.2.2.1
    (fun t _ h1 h2 => ⟨rfl, rfl, h1, fun q hq _ => h2 q hq⟩) (fun _ hz => nomatch hz) (Nat.le_refl _) (Nat.le_refl _)
theorem e_ret (C : CtC x RX10 cX10_entry 4 rmE) (hr : (x_me x).sig.returnType = some .int) {pc : Nat} {v : Int32} {L : List (Nat × Value)} (d : decode cX10_entry pc = .ok (.ireturn, 1)) :
    JE x (vx_MQ (x_be x) (eQ (some v) (x_s x).heap.size) (eX (some v) (x_s x).heap.size) (x_a x) (x_s x) 1 6 (eN (x_s x).heap.size)) pc L [.int v] := by
  intro ls h
  refine vx_ret (W.widen (k := 1) (n := 6) (Nat.zero_le _) (Nat.zero_le _) ?_)
  exact W.iret C.1.1 C.1.2.1 hr (fun t ht _ => ⟨v, rfl, rfl, by rw [ht]; exact Nat.le_refl _, fun q _ _ => by rw [ht]⟩) (fun _ hz => nomatch hz) d C.1.2.2.2.2.2.2.1
set_option maxHeartbeats 4000000 in
theorem e_body (C : CtC x RX10 cX10_entry 4 rmE) (hP : va_P (x_D x) vwCl (x_W x M) (x_s x).heap) (hl : (x_l x).stackTraces = false) (hX : EX sb (eN (x_s x).heap.size) (x_s x) (x_s x).heap) (ht : ∀ y ∈ (x_c x).exceptionTable.toList, False) (hr : (x_me x).sig.returnType = some .int) {r : Option Int32} (h : f_X10_entry M x1 x2 = some r) :
    JE x (vx_MQ (x_be x) (eQ r (x_s x).heap.size) (eX r (x_s x).heap.size) (x_a x) (x_s x) 1 6 (eN (x_s x).heap.size)) 0 [(0, .ref (x_ad x 0)), (1, .int x1), (2, .int x2)] [] := by
  unfold f_X10_entry at h
  refine e_iload_n C.1 1 dX10_entry_0 rfl rfl ?_
  refine e_if_lt C.1 15 dX10_entry_1 (by decide) (fun q => ?_) (fun q => ?_)
  · rw [if_pos q] at h
    cases h
    exact e_throw1 C hl hX ht
  rw [if_neg q] at h
  refine e_iload_n C.1 1 dX10_entry_4 rfl rfl ?_
  refine e_aload_n C.1 0 dX10_entry_5 rfl rfl ?_
  refine e_get C.1 hP (cK C (by decide)) (cS C (sh_0) _) (hc := rfl) hin_X10 2 (by decide) ek_26 rfl rfl dX10_entry_6 ?_
  refine e_get C.1 hP (cK C (by decide)) (cS C (sh_17) _) (hc := rfl) hin_X1 5 (by decide) ek_246 rfl rfl dX10_entry_9 ?_
  refine e_icmp_lt C.1 25 dX10_entry_12 (by decide) (fun q2 => ?_) (fun q2 => ?_)
  · rw [if_pos q2] at h
    obtain ⟨q3, h⟩ := gd_E h
    refine e_aload_n C.1 0 dX10_entry_25 rfl rfl ?_
    refine e_get C.1 hP (cK C (by decide)) (cS C (sh_0) _) (hc := rfl) hin_X10 2 (by decide) ek_26 rfl rfl dX10_entry_26 ?_
    refine e_get C.1 hP (cK C (by decide)) (cS C (sh_17) _) (hc := rfl) hin_X1 6 (by decide) ek_188 rfl rfl dX10_entry_29 ?_
    refine e_iload_n C.1 1 dX10_entry_32 rfl rfl ?_
    have hi : x1.toNatClampNeg < 40 := Nat.not_le.mp fun z => q3 (Or.inr z)
    have hk : KE (45 + x1.toNatClampNeg) := ⟨17, x1.toNatClampNeg, Or.inl rfl, hi, by omega⟩
    have hk2 : 45 + x1.toNatClampNeg < 177 := by omega
    refine e_aldq C.1 hP (cK C (by decide)) (cS C (sh_21)) 3 (cT3 C) q3 (y := x_ad x (45 + x1.toNatClampNeg)) rfl dX10_entry_33 ?_
    refine e_astore_n C.1 [(3, .ref (x_ad x (45 + x1.toNatClampNeg))), (0, .ref (x_ad x 0)), (1, .int x1), (2, .int x2)] dX10_entry_34 rfl (by decide) rfl ?_
    refine e_iload_n C.1 3 dX10_entry_35 rfl rfl ?_
    by_cases q4 : x2.toInt < 0 ∨ 5 < x2.toInt
    · rw [if_pos q4] at h
      cases h
      exact e_tout C.1 106 dX10_entry_36 q4 (by decide) (e_throw2 C hl hX ht)
    · rw [if_neg q4] at h
      cases h
      have h5 : ¬ x2.toInt < 0 := fun z => q4 (Or.inl z)
      have h6 : ¬ 5 < x2.toInt := fun z => q4 (Or.inr z)
      have h7 : x2.toInt = 0 ∨ x2.toInt = 1 ∨ x2.toInt = 2 ∨ x2.toInt = 3 ∨ x2.toInt = 4 ∨ x2.toInt = 5 := by omega
      rcases h7 with e | e | e | e | e | e
      · refine e_tin C.1 (w := x2) rfl 76 dX10_entry_36 h5 h6 (off := 40) (by rw [e]; rfl) (by decide) ?_
        refine e_aload_n C.1 0 dX10_entry_76 rfl rfl ?_
        refine e_get C.1 hP (cK C hk2) (cS C (sh_E hk) _) (hc := rfl) hin_X2 0 (by decide) ek_256 rfl rfl dX10_entry_77 ?_
        rw [show x2.toInt.toNat = 0 by rw [e]; rfl]
        exact e_ret C hr dX10_entry_80
      · refine e_tin C.1 (w := x2) rfl 81 dX10_entry_36 h5 h6 (off := 45) (by rw [e]; rfl) (by decide) ?_
        refine e_aload_n C.1 0 dX10_entry_81 rfl rfl ?_
        refine e_get C.1 hP (cK C hk2) (cS C (sh_E hk) _) (hc := rfl) hin_X2 1 (by decide) ek_192 rfl rfl dX10_entry_82 ?_
        rw [show x2.toInt.toNat = 1 by rw [e]; rfl]
        exact e_ret C hr dX10_entry_85
      · refine e_tin C.1 (w := x2) rfl 86 dX10_entry_36 h5 h6 (off := 50) (by rw [e]; rfl) (by decide) ?_
        refine e_aload_n C.1 0 dX10_entry_86 rfl rfl ?_
        refine e_get C.1 hP (cK C hk2) (cS C (sh_E hk) _) (hc := rfl) hin_X2 2 (by decide) ek_196 rfl rfl dX10_entry_87 ?_
        rw [show x2.toInt.toNat = 2 by rw [e]; rfl]
        exact e_ret C hr dX10_entry_90
      · refine e_tin C.1 (w := x2) rfl 91 dX10_entry_36 h5 h6 (off := 55) (by rw [e]; rfl) (by decide) ?_
        refine e_aload_n C.1 0 dX10_entry_91 rfl rfl ?_
        refine e_get C.1 hP (cK C hk2) (cS C (sh_E hk) _) (hc := rfl) hin_X2 3 (by decide) ek_259 rfl rfl dX10_entry_92 ?_
        rw [show x2.toInt.toNat = 3 by rw [e]; rfl]
        exact e_ret C hr dX10_entry_95
      · refine e_tin C.1 (w := x2) rfl 96 dX10_entry_36 h5 h6 (off := 60) (by rw [e]; rfl) (by decide) ?_
        refine e_aload_n C.1 0 dX10_entry_96 rfl rfl ?_
        refine e_get C.1 hP (cK C hk2) (cS C (sh_E hk) _) (hc := rfl) hin_X2 4 (by decide) ek_262 rfl rfl dX10_entry_97 ?_
        rw [show x2.toInt.toNat = 4 by rw [e]; rfl]
        exact e_ret C hr dX10_entry_100
      · refine e_tin C.1 (w := x2) rfl 101 dX10_entry_36 h5 h6 (off := 65) (by rw [e]; rfl) (by decide) ?_
        refine e_aload_n C.1 0 dX10_entry_101 rfl rfl ?_
        refine e_get C.1 hP (cK C hk2) (cS C (sh_E hk) _) (hc := rfl) hin_X2 5 (by decide) ek_265 rfl rfl dX10_entry_102 ?_
        rw [show x2.toInt.toNat = 5 by rw [e]; rfl]
        exact e_ret C hr dX10_entry_105
  · rw [if_neg q2] at h
    cases h
    exact e_throw1 C hl hX ht
end EBODY
set_option maxHeartbeats 4000000 in
theorem m_X10_entry (l : Launch) (hl : l.stackTraces = false) (D : va_G) (ad : Nat → Nat) (sb : Nat × Nat) (M : xM) (x1 x2 : Int32) {r : Option Int32} (h : f_X10_entry M x1 x2 = some r) (sz : Nat) :
    vx_Met l yX10_entry (Cond.code yX10_entry cX10_entry 4 (some .int) :: bW) rmE (va_Pc [.ref (ad 0), .int x1, .int x2] (ePre D ad sb sz M)) (eQ r sz) (eX r sz) 1 6 (eN sz) := by
  refine vx_ofW (cc := cX10_entry) (maxL := 4) (ret := some .int) (by decide) rfl ?_
  intro p e s m args' below meth c s₁ B hml ht hv
  obtain ⟨rfl, ⟨hsz, hP, hK, hD0, hN, hT⟩, hX⟩ := hv
  have hts : ∀ w ∈ bW, w.before [Value.ref (ad 0), .int x1, .int x2].toArray s = true := fun w hw => atoms_spec (ws := Cond.code yX10_entry cX10_entry 4 (some .int) :: bW) B.pre w (List.mem_cons_of_mem _ hw)
  have hw : s.vm.findClass RX10 = some m.cls := findClass_of_methodNamed B.named
  have hlocks := B.notSynchronized
  subst hsz
  have hl4 := lv_entry [Value.ref (ad 0), .int x1, .int x2] (n := 4) (Nat.le_of_ble_eq_true rfl)
  rw [lg_entry_eq]
  have C : CtC ((p, l, e, (headSpec (Cond.code yX10_entry cX10_entry 4 (some .int) :: bW) rmE).room, s), (m, [Value.ref (ad 0), .int x1, .int x2].toArray, below, meth, c), (D, tyC D.1), (ad, shC ad D.1, 177), (4, none, M)) RX10 cX10_entry 4 rmE := ⟨⟨B.exec, B.bytes, hml, hw, hts, hK, hlocks, rfl, rfl⟩, rfl, rfl, rfl, hN, hT⟩
  exact e_body C hP hl hX ht B.returns h _ hl4
