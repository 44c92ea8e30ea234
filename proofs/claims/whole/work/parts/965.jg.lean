/-! calls of any kind over the constructors' judgement JK: the new cells are one list from the address b on; outside: the digits' tables, the book and its rules -/
def dOne (j : Nat) : Int32 := Int32.ofNat (48 + j % 10)
def dTen (j : Nat) : Int32 := Int32.ofNat (48 + j / 10)
def GF (ad : Nat → Nat) (M : xM) (A : Nat → Prop) (U : State) (H : Heap) : Prop :=
  (va_Z RJ6 "DigitOnes" "[B" (.ref (ad 1060)) A U H ∧ va_T .byte (ad 1060) 100 (fun j => .int (dOne j)) A U H) ∧
  (va_Z RJ6 "DigitTens" "[B" (.ref (ad 1061)) A U H ∧ va_T .byte (ad 1061) 100 (fun j => .int (dTen j)) A U H) ∧
  va_O RX1 (ad 17) A U H ∧ va_OF RX10 "book" "LGuardRolls$Book;" (.ref (ad 17)) (ad 0) A U H ∧ va_OF RX1 "rule" "[I" (.ref (ad 18)) (ad 17) A U H ∧ va_T .int (ad 18) 7 (fun j => .int (M 18 j)) A U H
theorem GF.moved {ad : Nat → Nat} {M : xM} {A : Nat → Prop} {u U : State} {H : Heap} (v : u.vm.Alike U.vm) (h : GF ad M A u H) : GF ad M A U H :=
  ⟨⟨h.1.1.moved v, h.1.2.moved v⟩, ⟨h.2.1.1.moved v, h.2.1.2.moved v⟩, h.2.2.1.moved v, h.2.2.2.1.moved v, h.2.2.2.2.1.moved v, h.2.2.2.2.2.moved v⟩
theorem GF.kept {ad : Nat → Nat} {M : xM} {A : Nat → Prop} {U : State} {H H1 : Heap} (h : GF ad M A U H) (v : ∀ a : Nat, a < H.size → ¬ A a → H1[a]? = H[a]?) : GF ad M A U H1 :=
  ⟨⟨h.1.1.kept v, h.1.2.kept v⟩, ⟨h.2.1.1.kept v, h.2.1.2.kept v⟩, h.2.2.1.kept v, h.2.2.2.1.kept v, h.2.2.2.2.1.kept v, h.2.2.2.2.2.kept v⟩
theorem GF.narrow {ad : Nat → Nat} {M : xM} {A B : Nat → Prop} {U : State} {H : Heap} (h : GF ad M A U H) (v : ∀ q, B q → A q) : GF ad M B U H :=
  ⟨⟨h.1.1.narrow v, h.1.2.narrow v⟩, ⟨h.2.1.1.narrow v, h.2.1.2.narrow v⟩, h.2.2.1.narrow v, h.2.2.2.1.narrow v, h.2.2.2.2.1.narrow v, h.2.2.2.2.2.narrow v⟩
def bG : List Cond := [.selects RJ4 yJ5_ensureCapacityInternal_d00df yJ5_ensureCapacityInternal_d00df, .selects RJ4 yJ5_newCapacity_0f7a4 yJ5_newCapacity_0f7a4, .selects RJ4 yJ5_putStringAt_47b60 yJ5_putStringAt_47b60, .selects RJ4 yJ5_inflateIfNeededFor_a7421 yJ5_inflateIfNeededFor_a7421]
def bX : List Cond := bG ++ bW
theorem bx_W {w : Cond} (h : w ∈ bW) : w ∈ bX := List.mem_append_right _ h
theorem bx_good {ws : List Cond} (h : ∀ w ∈ ws, w ∈ bX) : GoodIn bX ws := fun w hw => ⟨h w hw, (List.mem_append.mp (h w hw)).elim (fun z => good_of_word ((show ∀ w ∈ bG, goodWord w = true by decide +kernel) w z)) (fun z => good_of_word (List.mem_filter.mp z).2)⟩
abbrev CtG (M : xM) (x : kC) (own : String) (cc : ByteArray) (n : Nat) (rm : Room) : Prop := CtK x own cc n rm ∧ va_K (k_D x) vwCl [((k_D x).1 106, .byte)] (k_s x) ∧ GF (k_ad x) M (k_A x) (k_s x) (k_s x).heap ∧ ∀ w ∈ bG, w.before (k_a x) (k_s x) = true
theorem gF {M : xM} {x : kC} {own : String} {cc : ByteArray} {n : Nat} {rm : Room} (C : CtG M x own cc n rm) : GF (k_ad x) M (k_A x) (k_s x) (k_s x).heap := C.2.2.1
theorem gW {M : xM} {x : kC} {own : String} {cc : ByteArray} {n : Nat} {rm : Room} (C : CtG M x own cc n rm) : ∀ w ∈ bX, w.before (k_a x) (k_s x) = true := fun w h => (List.mem_append.mp h).elim (C.2.2.2 w) (C.1.2.2.2.2.1 w)
def gX (D : va_G) (ad : Nat → Nat) (M : xM) (b : Nat) (es : List va_E) (U : State) : Prop := kPre D ad b es U ∧ va_K D vwCl [(D.1 106, .byte)] U ∧ GF ad M (fun q => b ≤ q) U U.heap
def gQ (D : va_G) (b : Nat) (rv : Option Value) (es : List va_E) : Array Value → State → Outcome → State → Prop := fun _ st oc t =>
  oc = .returned rv ∧ t.heap.size = b + es.length ∧ va_P D vwCl (xl b es) t.heap ∧ va_F (fun q => b ≤ q) st t
def gMet (l : Launch) (y : MethodName) (cc : ByteArray) (n : Nat) (ret : Option FieldType) (f w : Nat) (args : List Value) (D : va_G) (ad : Nat → Nat) (M : xM) (b : Nat) (es : List va_E) (rv : Option Value) (es1 : List va_E) (mc ms : Nat) : Prop :=
  Met l y (Cond.code y cc n ret :: bX) { frames := f, cells := mc, slots := ms, locals := w } (va_Pc args (gX D ad M b es)) (gQ D b rv es1) mc ms (fun q => b ≤ q)
theorem gX_blind {D : va_G} {ad : Nat → Nat} {M : xM} {b : Nat} {es : List va_E} {args : List Value} : FrameBlind (va_Pc args (gX D ad M b es)) := fun a U g mk q => by
  obtain ⟨q0, q1, q2, q3⟩ := q
  exact ⟨q0, (kPre_blind (args := args) a U g mk ⟨q0, q1⟩).2, va_K.moved (u := U) (U := U.calling g mk a) (Vm.Alike.refl U.vm) q2, GF.moved (u := U) (U := U.calling g mk a) (Vm.Alike.refl U.vm) q3⟩
set_option maxHeartbeats 4000000 in
theorem gMet_of {l : Launch} {y : MethodName} {own : String} {cc : ByteArray} {n : Nat} {ret : Option FieldType} {f w : Nat} {args : List Value} {D : va_G} {ad : Nat → Nat} {M : xM} {b : Nat} {es : List va_E} {rv : Option Value} {es1 : List va_E} {mc ms : Nat}
    (hy : plainName y.cls = true) (hown : y.cls = own) (hn : (lg_sl args).length ≤ n)
    (h : ∀ x : kC, CtG M x own cc n { frames := f, cells := mc, slots := ms, locals := w } → k_l x = l → k_D x = D → k_ad x = ad → k_b x = b → (k_me x).sig.returnType = ret → k_Q x = MQ (k_be x) (gQ D b rv es1) (k_a x) (k_s x) mc ms (fun q => b ≤ q) → JK x 0 0 es 0 (lv_args 0 args) []) :
    gMet l y cc n ret f w args D ad M b es rv es1 mc ms := by
  refine Met.ofW (cc := cc) (maxL := n) (ret := ret) hy rfl ?_
  intro p e s m args' below meth c s₁ B hml hv
  obtain ⟨rfl, ⟨hsz, hP, hK, hN, hNK, hT⟩, hK2, hG⟩ := hv
  have htx : ∀ w ∈ bX, w.before args.toArray s = true := fun w hw => atoms_spec (ws := Cond.code y cc n ret :: bX) B.pre w (List.mem_cons_of_mem _ hw)
  have hts : ∀ w ∈ bW, w.before args.toArray s = true := fun w hw => htx w (bx_W hw)
  have hw : s.vm.findClass own = some m.cls := by rw [← hown]; exact findClass_of_methodNamed B.named
  have hlocks := B.notSynchronized
  have hl := lv_entry args hn
  rw [lg_entry_eq]
  exact h ((p, l, e, (headSpec (Cond.code y cc n ret :: bX) { frames := f, cells := mc, slots := ms, locals := w }).room, s), (m, args.toArray, below, meth, c), D, (ad, b, n), MQ below (gQ D b rv es1) args.toArray s mc ms (fun q => b ≤ q)) ⟨⟨B.exec, B.bytes, hml, hw, hts, hK, hlocks, rfl, rfl, ⟨hN, hNK⟩, hT⟩, hK2, hG, fun w hw => htx w (List.mem_append_left _ hw)⟩ rfl rfl rfl rfl B.returns rfl s.heap [] _ ⟨hsz, hsz⟩ hP va_S.rf hl
/-- the virtual choice of a private method, whatever the receiver's class -/
theorem sel_priv {C : String} {y : MethodName} {s : State} {args : Array Value} (hy : y.cls ≠ "java/lang/invoke/MethodHandle" ∧ y.cls ≠ "java/lang/invoke/VarHandle") {c : ClassId} (hc : s.vm.findClass C = some c)
    (hsame : (Cond.sameMethod y.cls y.cls y.name y.desc).before args s = true) (hpriv : (Cond.privateMethod y).before args s = true) (hinst : (Cond.instanceMethod y).before args s = true) : (Cond.selects C y y).before args s = true := by
  obtain ⟨mk, methM, hnamed, hmethM, -, -⟩ := Cond.instanceMethod_spec hinst
  have hfound : s.methodFound? y.cls y.name y.desc = some mk := State.methodFound?_of_named hnamed hy
  have hcls : s.vm.findClass y.cls = some mk.cls := findClass_of_methodNamed hnamed
  have hsel : selectMethod {} s.vm c mk = .method mk := selectMethod_private hmethM (Cond.privateMethod_at hpriv mk methM hnamed hmethM)
  have hany : (s.vm.classes[mk.cls]?).any (!·.isInterface) = true := by
    have h := hsame
    simp only [Cond.before, Cond.holds, Cond.value, hcls, hfound] at h
    cases hn2 : s.methodNamed? ⟨y.cls, y.name, y.desc⟩ with
    | none => simp [hn2] at h
    | some m2 => simp [hn2] at h; simp [h.2]
  simp only [Cond.before, Cond.holds, Cond.value, hc, hfound, hnamed, hsel]
  simp [hany]
section GCALL
variable {x : kC} {own : String} {cc : ByteArray} {n : Nat} {rm : Room} {cs ss : Nat} {es es1 : List va_E} {pc : Nat} {L : List (Nat × Value)} {st st0 : List Value} {M : xM}
theorem g_run (rv : Option Value) (a : Array Value) {mc ms : Nat} (hlen : es1.length = es.length + mc)
    (hr : ∀ (H : Heap) (locs : List Loc) (ls : Array Slot), H.size = k_b x + es.length → va_P (k_D x) vwCl (xl (k_b x) es) H → va_S (k_A x) (k_s x).heap H locs → ls.size = k_n x → va_Run (k_p x) (k_l x) (k_e x) (k_R x) (k_s x) (k_m x) (k_a x) (k_be x) (k_me x) (k_c x) H locs cs ss mc ms (F0 (k_m x) pc ls st0) st (gQ (k_D x) (k_b x) rv es1 a) (fun q => k_b x ≤ q))
    (kk : JK x (cs + mc) (ss + ms) es1 (pc + 3) L (rv.toList ++ st)) : JK x cs ss es pc L st0 := by
  intro H locs ls hz hP hS hl T hT X
  obtain ⟨w, st₀, t, T', L', h0, X', hL, e2, e3, ⟨hv, hz1, hP1, hz2, hk⟩, stp⟩ := hr H locs ls hz.1 hP hS hl.1 T hT X
  cases hv
  rw [h0] at hz2 hk
  obtain ⟨t2, a1, b1⟩ := kk T'.heap (locs ++ L') ls ⟨by rw [e2, hz1], by have := hz.2; omega⟩ (by rw [e2]; exact hP1)
    ⟨Nat.le_trans hS.1 (by rw [e2]; exact hz2), fun q h1 h2 => by
      rw [e2, hk q (Nat.lt_of_lt_of_le h1 hS.1) h2]; exact hS.2.1 q h1 h2, fun q hq => by
      rcases List.mem_append.mp hq with h | h
      · exact hS.2.2 q h
      · exact hL q h⟩ hl T' rfl X'
  exact ⟨t2, stp t2 a1, b1⟩
theorem g_pre (C : CtG M x own cc n rm) {args : List Value} {H : Heap} {locs : List Loc} (hz : H.size = k_b x + es.length) (hP : va_P (k_D x) vwCl (xl (k_b x) es) H) (hS : va_S (k_A x) (k_s x).heap H locs) (U : State) (hU : U.heap = H) (hW : (k_s x).WarmedH U.vm) : va_Pc args (gX (k_D x) (k_ad x) M (k_b x) es) args.toArray U := by
  refine ⟨rfl, ⟨by rw [hU]; exact hz, by rw [hU]; exact hP, va_K.moved hW.alike C.1.2.2.2.2.2.1, NW.warm hW C.1.2.2.2.2.2.2.2.2.2.1.1, NK.warm hW C.1.2.2.2.2.2.2.2.2.2.1.2, ?_⟩, va_K.moved hW.alike C.2.1, ?_⟩
  · rw [hU]
    exact (C.1.2.2.2.2.2.2.2.2.2.2.kept (fun a h1 h2 => hS.2.1 a h1 h2)).moved hW.alike
  · rw [hU]
    exact ((gF C).kept (fun a h1 h2 => hS.2.1 a h1 h2)).moved hW.alike
/-- a virtual call of a method of the receiver's own class; the receiver: a new cell -/
theorem g_callV (C : CtG M x own cc n rm) {y : MethodName} {ccy : ByteArray} {ny idx nn f w mc ms i ci : Nat} {ret : Option FieldType} {fs : List Value} {q : vw_C} {As : List Value} {rv : Option Value} (hlen : es1.length = es.length + mc)
    (hM : gMet (k_l x) y ccy ny ret f w (.ref (k_b x + i) :: As) (k_D x) (k_ad x) M (k_b x) es rv es1 mc ms) (he : es[i]? = some (.inr (ci, fs))) (hc : vwCl[ci]? = some q)
    (hw : Cond.methodLink own idx y ∈ bW ∧ Cond.instanceMethod y ∈ bW ∧ Cond.selects q.1 y y ∈ bW ∧ Cond.initialized q.1 ∈ bW ∧ Cond.code y ccy ny ret ∈ bW) (hd : y.cls = q.1 ∧ okD y nn) (hR : f + 1 ≤ rm.frames ∧ 8 + (ny + 11) + w ≤ rm.locals) (hf : cs + mc ≤ rm.cells ∧ ss + ms ≤ rm.slots)
    (hn : As.length = nn) (hst : st0 = As.reverse ++ .ref (k_b x + i) :: st) (hcat : (st.map fun v => v.category).sum ≤ 8) (d : decode cc pc = .ok (.invokevirtual idx, 3))
    (kk : JK x (cs + mc) (ss + ms) es1 (pc + 3) L (rv.toList ++ st)) : JK x cs ss es pc L st0 := by
  obtain ⟨w1, w2, w3, w4, w5⟩ := hw
  have CK := C.1
  refine g_run rv (Value.ref (k_b x + i) :: As).toArray hlen (fun H locs ls hz hP hS hsz => ?_) kk
  exact va_runV (Ts := bX) (As := As) (rest := st) ⟨CK.1, CK.2.1, CK.2.2.1, CK.2.2.2.1, gW C⟩ hM (cwV nn (gW C) (bx_good (fun w h => by
    simp only [wsV, List.mem_append, List.mem_cons, List.not_mem_nil, or_false] at h
    rcases h with (rfl | rfl | rfl | rfl) | rfl | h <;> first | assumption | (refine bx_W ?_; assumption))) rfl rfl rfl hd (by rw [CK.2.2.2.2.2.2.2.2.1]; exact hR)) ⟨gX_blind, va_recv CK.2.2.2.2.2.1 hP hc (xl_at he), fun U hU hW => g_pre C hz hP hS U hU hW⟩ rfl hn (hsz.trans CK.2.2.2.2.2.2.2.1) hst (by simpa [JFrame.monitorRoom] using hcat) d (by rw [CK.2.2.2.2.2.2.2.2.1]; exact hf)
/-- the same; the receiver stands outside -/
theorem g_callO (C : CtG M x own cc n rm) {y : MethodName} {ccy : ByteArray} {ny idx nn f w mc ms t : Nat} {ret : Option FieldType} {E : String} {As : List Value} {rv : Option Value} (hlen : es1.length = es.length + mc)
    (hM : gMet (k_l x) y ccy ny ret f w (.ref t :: As) (k_D x) (k_ad x) M (k_b x) es rv es1 mc ms) (hO : va_O E t (k_A x) (k_s x) (k_s x).heap)
    (hw : Cond.methodLink own idx y ∈ bW ∧ Cond.instanceMethod y ∈ bW ∧ Cond.selects E y y ∈ bW ∧ Cond.initialized E ∈ bW ∧ Cond.code y ccy ny ret ∈ bW) (hd : y.cls = E ∧ okD y nn) (hR : f + 1 ≤ rm.frames ∧ 8 + (ny + 11) + w ≤ rm.locals) (hf : cs + mc ≤ rm.cells ∧ ss + ms ≤ rm.slots)
    (hn : As.length = nn) (hst : st0 = As.reverse ++ .ref t :: st) (hcat : (st.map fun v => v.category).sum ≤ 8) (d : decode cc pc = .ok (.invokevirtual idx, 3))
    (kk : JK x (cs + mc) (ss + ms) es1 (pc + 3) L (rv.toList ++ st)) : JK x cs ss es pc L st0 := by
  obtain ⟨w1, w2, w3, w4, w5⟩ := hw
  have CK := C.1
  refine g_run rv (Value.ref t :: As).toArray hlen (fun H locs ls hz hP hS hsz => ?_) kk
  exact va_runV (Ts := bX) (As := As) (rest := st) ⟨CK.1, CK.2.1, CK.2.2.1, CK.2.2.2.1, gW C⟩ hM (cwV nn (gW C) (bx_good (fun w h => by
    simp only [wsV, List.mem_append, List.mem_cons, List.not_mem_nil, or_false] at h
    rcases h with (rfl | rfl | rfl | rfl) | rfl | h <;> first | assumption | (refine bx_W ?_; assumption))) rfl rfl rfl hd (by rw [CK.2.2.2.2.2.2.2.2.1]; exact hR)) ⟨gX_blind, (by
      obtain ⟨cell, h1, h2, h3, -⟩ := hO.kept hS.2.1
      exact ⟨cell, h1, h2, h3⟩), fun U hU hW => g_pre C hz hP hS U hU hW⟩ rfl hn (hsz.trans CK.2.2.2.2.2.2.2.1) hst (by simpa [JFrame.monitorRoom] using hcat) d (by rw [CK.2.2.2.2.2.2.2.2.1]; exact hf)
/-- an inherited method -/
theorem g_callU (C : CtG M x own cc n rm) {y : MethodName} {ccy : ByteArray} {ny idx nn f w mc ms i ci : Nat} {ret : Option FieldType} {fs : List Value} {q : vw_C} {As : List Value} {rv : Option Value} (hlen : es1.length = es.length + mc)
    (hM : gMet (k_l x) y ccy ny ret f w (.ref (k_b x + i) :: As) (k_D x) (k_ad x) M (k_b x) es rv es1 mc ms) (he : es[i]? = some (.inr (ci, fs))) (hc : vwCl[ci]? = some q)
    (hw : Cond.methodLink own idx y ∈ bW ∧ Cond.sameMethod y.cls y.cls y.name y.desc ∈ bW ∧ Cond.instanceMethod y ∈ bW ∧ Cond.initialized y.cls ∈ bW ∧ Cond.code y ccy ny ret ∈ bW) (hsel : (Cond.selects q.1 y y).before (k_a x) (k_s x) = true) (hyx : y = ⟨y.cls, y.name, y.desc⟩) (hd : okD y nn) (hR : f + 1 ≤ rm.frames ∧ 8 + (ny + 11) + w ≤ rm.locals) (hf : cs + mc ≤ rm.cells ∧ ss + ms ≤ rm.slots)
    (hn : As.length = nn) (hst : st0 = As.reverse ++ .ref (k_b x + i) :: st) (hcat : (st.map fun v => v.category).sum ≤ 8) (d : decode cc pc = .ok (.invokevirtual idx, 3))
    (kk : JK x (cs + mc) (ss + ms) es1 (pc + 3) L (rv.toList ++ st)) : JK x cs ss es pc L st0 := by
  obtain ⟨w1, w2, w3, w4, w5⟩ := hw
  have CK := C.1
  have ht := CK.2.2.2.2.1
  have hG : GoodIn bX (Cond.code y ccy ny ret :: bX) := bx_good (fun w h => by
    rcases List.mem_cons.mp h with rfl | h
    · exact bx_W w5
    · exact h)
  refine g_run rv (Value.ref (k_b x + i) :: As).toArray hlen (fun H locs ls hz hP hS hsz => ?_) kk
  have cw : va_CU (k_R x) (k_s x) (k_a x) own q.1 y.cls idx y y ccy ny ret (Cond.code y ccy ny ret :: bX) { frames := f, cells := mc, slots := ms, locals := w } mc ms nn := by
    refine ⟨⟨rfl, rfl, by rw [CK.2.2.2.2.2.2.2.2.1]; exact hR.1, by rw [CK.2.2.2.2.2.2.2.2.1]; exact hR.2, pay_in (gW C) hG, List.mem_cons_self⟩, ht _ w5, ht _ w4, ⟨hd.1, hd.2.1⟩, fun sig h => ?_, ht _ w1, ht _ w2, by rw [← hyx]; exact va_Decl.of (ht _ w3) (ht _ w5), hsel, ht _ w3⟩
    have h2 := hd.2.2
    rw [h] at h2
    exact (Option.some.inj h2).symm
  exact va_runU (Ts := bX) (As := As) (rest := st) ⟨CK.1, CK.2.1, CK.2.2.1, CK.2.2.2.1, gW C⟩ hM cw ⟨gX_blind, va_recv CK.2.2.2.2.2.1 hP hc (xl_at he), fun U hU hW => g_pre C hz hP hS U hU hW⟩ rfl hn (hsz.trans CK.2.2.2.2.2.2.2.1) hst (by simpa [JFrame.monitorRoom] using hcat) d (by rw [CK.2.2.2.2.2.2.2.2.1]; exact hf)
/-- super.m(..) -/
theorem g_callSU (C : CtG M x own cc n rm) {y : MethodName} {ccy : ByteArray} {ny idx nn f w mc ms i ci : Nat} {ret : Option FieldType} {fs : List Value} {q : vw_C} {As : List Value} {rv : Option Value} (hlen : es1.length = es.length + mc)
    (hM : gMet (k_l x) y ccy ny ret f w (.ref (k_b x + i) :: As) (k_D x) (k_ad x) M (k_b x) es rv es1 mc ms) (he : es[i]? = some (.inr (ci, fs))) (hc : vwCl[ci]? = some q) (hq : q.1 = own)
    (hw : Cond.methodLink own idx y ∈ bW ∧ Cond.sameMethod y.cls y.cls y.name y.desc ∈ bW ∧ Cond.superclass own y.cls ∈ bW ∧ Cond.instanceMethod y ∈ bW ∧ Cond.initialized y.cls ∈ bW ∧ Cond.code y ccy ny ret ∈ bW) (hd : y.name ≠ "<init>" ∧ (parseMethodDescriptor y.desc).map (fun d => d.parameters.length) = some nn) (hR : f + 1 ≤ rm.frames ∧ 8 + (ny + 11) + w ≤ rm.locals) (hf : cs + mc ≤ rm.cells ∧ ss + ms ≤ rm.slots)
    (hn : As.length = nn) (hst : st0 = As.reverse ++ .ref (k_b x + i) :: st) (hcat : (st.map fun v => v.category).sum ≤ 8) (d : decode cc pc = .ok (.invokespecial idx, 3))
    (kk : JK x (cs + mc) (ss + ms) es1 (pc + 3) L (rv.toList ++ st)) : JK x cs ss es pc L st0 := by
  obtain ⟨w1, w2, w3, w4, w5, w6⟩ := hw
  have CK := C.1
  have ht := CK.2.2.2.2.1
  refine g_run rv (Value.ref (k_b x + i) :: As).toArray hlen (fun H locs ls hz hP hS hsz => ?_) kk
  have hat : ClassAt (k_s x) own (k_m x).cls := by
    obtain ⟨ps, dk, kp, -, h2, -, -, h5, -⟩ := Cond.superclass_spec CK.2.2.2.1 (ht _ w3)
    exact ⟨CK.2.2.2.1, dk, h2, h5⟩
  exact va_runSU (Ts := bX) (As := As) (rest := st) (C := own) hat ⟨CK.1, CK.2.1, CK.2.2.1, CK.2.2.2.1, gW C⟩ hM (va_cwSU nn (gW C) (bx_good (fun w h => by
    simp only [va_wsSU, List.mem_append, List.mem_cons, List.not_mem_nil, or_false] at h
    rcases h with (rfl | rfl | rfl | rfl | rfl) | rfl | h <;> first | assumption | (refine bx_W ?_; assumption))) rfl rfl rfl hd (by rw [CK.2.2.2.2.2.2.2.2.1]; exact hR)) ⟨gX_blind, (by rw [← hq]; exact va_recv CK.2.2.2.2.2.1 hP hc (xl_at he)), fun U hU hW => g_pre C hz hP hS U hU hW⟩ rfl hn (hsz.trans CK.2.2.2.2.2.2.2.1) hst (by simpa [JFrame.monitorRoom] using hcat) d (by rw [CK.2.2.2.2.2.2.2.2.1]; exact hf)
/-- a static method -/
theorem g_callS (C : CtG M x own cc n rm) {y : MethodName} {ccy : ByteArray} {ny idx nn f w mc ms : Nat} {ret : Option FieldType} {As : List Value} {rv : Option Value} (hlen : es1.length = es.length + mc)
    (hM : gMet (k_l x) y ccy ny ret f w As (k_D x) (k_ad x) M (k_b x) es rv es1 mc ms)
    (hw : Cond.methodLink own idx y ∈ bW ∧ Cond.static y ∈ bW ∧ Cond.initialized y.cls ∈ bW ∧ Cond.code y ccy ny ret ∈ bW) (hd : okD y nn) (hR : f + 1 ≤ rm.frames ∧ 8 + (ny + 11) + w ≤ rm.locals) (hf : cs + mc ≤ rm.cells ∧ ss + ms ≤ rm.slots)
    (hn : As.length = nn) (hst : st0 = As.reverse ++ st) (hcat : (st.map fun v => v.category).sum ≤ 8) (d : decode cc pc = .ok (.invokestatic idx, 3))
    (kk : JK x (cs + mc) (ss + ms) es1 (pc + 3) L (rv.toList ++ st)) : JK x cs ss es pc L st0 := by
  obtain ⟨w1, w2, w3, w4⟩ := hw
  have CK := C.1
  refine g_run rv As.toArray hlen (fun H locs ls hz hP hS hsz => ?_) kk
  exact va_runS (Ts := bX) (As := As) (rest := st) ⟨CK.1, CK.2.1, CK.2.2.1, CK.2.2.2.1, gW C⟩ hM (va_cwS nn (gW C) (bx_good (fun w h => by
    simp only [va_wsS, List.mem_append, List.mem_cons, List.not_mem_nil, or_false] at h
    rcases h with (rfl | rfl | rfl) | rfl | h <;> first | assumption | (refine bx_W ?_; assumption))) rfl rfl rfl hd (by rw [CK.2.2.2.2.2.2.2.2.1]; exact hR)) ⟨gX_blind, fun U hU hW => g_pre C hz hP hS U hU hW⟩ rfl hn (hsz.trans CK.2.2.2.2.2.2.2.1) hst (by simpa [JFrame.monitorRoom] using hcat) d (by rw [CK.2.2.2.2.2.2.2.2.1]; exact hf)
/-- a constructor on a new cell -/
theorem g_callI (C : CtG M x own cc n rm) {y : MethodName} {ccy : ByteArray} {ny idx nn f w mc ms i : Nat} {As : List Value} (hlen : es1.length = es.length + mc)
    (hM : gMet (k_l x) y ccy ny none f w (.ref (k_b x + i) :: As) (k_D x) (k_ad x) M (k_b x) es none es1 mc ms)
    (hw : Cond.methodLink own idx y ∈ bW ∧ Cond.instanceMethod y ∈ bW ∧ Cond.initialized y.cls ∈ bW ∧ Cond.code y ccy ny none ∈ bW) (hi : y.name = "<init>") (hd : okD y nn) (hR : f + 1 ≤ rm.frames ∧ 8 + (ny + 11) + w ≤ rm.locals) (hf : cs + mc ≤ rm.cells ∧ ss + ms ≤ rm.slots)
    (hn : As.length = nn) (hst : st0 = As.reverse ++ .ref (k_b x + i) :: st) (hcat : (st.map fun v => v.category).sum ≤ 8) (d : decode cc pc = .ok (.invokespecial idx, 3))
    (kk : JK x (cs + mc) (ss + ms) es1 (pc + 3) L st) : JK x cs ss es pc L st0 := by
  obtain ⟨w1, w2, w3, w5⟩ := hw
  have CK := C.1
  refine g_run none (Value.ref (k_b x + i) :: As).toArray hlen (fun H locs ls hz hP hS hsz => ?_) kk
  exact va_runI (Ts := bX) (As := As) (rest := st) (b := k_b x + i) ⟨CK.1, CK.2.1, CK.2.2.1, CK.2.2.2.1, gW C⟩ hM (cwI nn (gW C) (bx_good (fun w h => by
    rcases List.mem_cons.mp h with rfl | h
    · exact bx_W w5
    · exact h)) rfl rfl rfl (CK.2.2.2.2.1 _ w3) (CK.2.2.2.2.1 _ w1) (CK.2.2.2.2.1 _ w2) hi hd (by rw [CK.2.2.2.2.2.2.2.2.1]; exact hR)) ⟨gX_blind, fun U hU hW => g_pre C hz hP hS U hU hW⟩ rfl hn (hsz.trans CK.2.2.2.2.2.2.2.1) hst (by simpa [JFrame.monitorRoom] using hcat) d (by rw [CK.2.2.2.2.2.2.2.2.1]; exact hf)
/-- a call whose contract speaks of no cell at all (045) -/
theorem g_xrun (rv : Option Value) (a : Array Value) {Mx Mx1 : xM} {sh : xH} {tys : List (ClassId × FieldType)}
    (hr : ∀ (H : Heap) (locs : List Loc) (ls : Array Slot), va_S (k_A x) (k_s x).heap H locs → H.size = k_b x + es.length → ls.size = k_n x → va_Run (k_p x) (k_l x) (k_e x) (k_R x) (k_s x) (k_m x) (k_a x) (k_be x) (k_me x) (k_c x) H locs cs ss 0 0 (F0 (k_m x) pc ls st0) st (xQ (k_D x) tys (k_ad x) sh 0 rv Mx1 (xA (k_ad x) 0 H.size) a) (xA (k_ad x) 0 H.size))
    (kk : JK x cs ss es (pc + 3) L (rv.toList ++ st)) : JK x cs ss es pc L st0 := by
  intro H locs ls hz hP hS hl T hT X
  obtain ⟨w, st₀, t, T', L', h0, X', hL, e2, e3, ⟨hv, -, -, hz2, hk⟩, stp⟩ := hr H locs ls hS hz.1 hl.1 T hT X
  cases hv
  rw [h0] at hz2 hk
  have nA : ∀ q : Nat, q < H.size → ¬ xA (k_ad x) 0 H.size q := fun q hq z => z.elim (fun ⟨k, hk, _⟩ => absurd hk (Nat.not_lt_zero k)) (fun y => by omega)
  have hsz : T'.heap.size ≤ (k_s x).heap.size + cs := X'.same.2.2.1
  have hb : H.size ≤ T'.heap.size := by rw [e2]; exact hz2
  have hk2 : ∀ q : Nat, q < H.size → T'.heap[q]? = H[q]? := fun q hq => by rw [e2]; exact hk q hq (nA q hq)
  obtain ⟨t2, a1, b1⟩ := kk T'.heap (locs ++ L') ls ⟨by have := hz.1; have := hz.2; omega, hz.2⟩ (xl_keep hP (fun q hq => hk2 q (by have := hz.1; omega)))
    ⟨Nat.le_trans hS.1 hb, fun q h1 h2 => by rw [hk2 q (Nat.lt_of_lt_of_le h1 hS.1)]; exact hS.2.1 q h1 h2, fun q hq => by
      rcases List.mem_append.mp hq with h | h
      · exact hS.2.2 q h
      · rcases hL q h with ⟨k, hk, _⟩ | z
        · exact absurd hk (Nat.not_lt_zero k)
        · show k_b x ≤ q.base
          have := hz.1; omega⟩ hl T' rfl X'
  exact ⟨t2, stp t2 a1, b1⟩
theorem g_xpre (C : CtG M x own cc n rm) {args : List Value} {H : Heap} {locs : List Loc} {Mx : xM} {sh : xH} (hz : H.size = k_b x + es.length) (hS : va_S (k_A x) (k_s x).heap H locs) (U : State) (hU : U.heap = H) (hW : (k_s x).WarmedH U.vm) : va_Pc args (xPre (k_D x) (ty6 (k_D x).1) (k_ad x) sh 0 H.size Mx) args.toArray U := by
  have e0 : xW (k_ad x) sh 0 Mx = [] := rfl
  have n0 : ∀ (k : Nat) (q : Nat × va_E), ¬ (xW (k_ad x) sh 0 Mx)[k]? = some q := fun k q hq => by
    rw [e0] at hq
    cases hq
  refine ⟨rfl, (by rw [hU]), (fun k q hq => absurd hq (n0 k q)), va_K.moved hW.alike C.1.2.2.2.2.2.1, ⟨fun i j p q hp => absurd hp (n0 i p), fun k q hq => absurd hq (n0 k q)⟩, NW.warm hW C.1.2.2.2.2.2.2.2.2.2.1.1, ?_⟩
  rw [hU]
  refine ((C.1.2.2.2.2.2.2.2.2.2.2.kept (fun a h1 h2 => hS.2.1 a h1 h2)).moved hW.alike).narrow (fun q hq => ?_)
  rcases hq with ⟨k, hk, _⟩ | z
  · exact absurd hk (Nat.not_lt_zero k)
  · show k_b x ≤ q
    omega
theorem g_callX (C : CtG M x own cc n rm) {y : MethodName} {ccy : ByteArray} {ny idx nn t : Nat} {ret : Option FieldType} {rmy : Room} {As : List Value} {E : String} {rv : Option Value} {Mx Mx1 : xM} {sh : xH}
    (hM : xMet (k_l x) y ccy ny ret rmy (.ref t :: As) (k_D x) (ty6 (k_D x).1) (k_ad x) sh 0 Mx rv Mx1)
    (hw : Cond.methodLink own idx y ∈ bW ∧ Cond.instanceMethod y ∈ bW ∧ Cond.selects E y y ∈ bW ∧ Cond.initialized E ∈ bW ∧ Cond.code y ccy ny ret ∈ bW) (hd : y.cls = E ∧ okD y nn) (hR : rmy.cells = 0 ∧ rmy.slots = 0 ∧ rmy.frames + 1 ≤ rm.frames ∧ 8 + (ny + 11) + rmy.locals ≤ rm.locals) (hf : cs ≤ rm.cells ∧ ss ≤ rm.slots)
    (hO : va_O E t (k_A x) (k_s x) (k_s x).heap) (hn : As.length = nn) (hst : st0 = As.reverse ++ .ref t :: st) (hcat : (st.map fun v => v.category).sum ≤ 8) (d : decode cc pc = .ok (.invokevirtual idx, 3))
    (kk : JK x cs ss es (pc + 3) L (rv.toList ++ st)) : JK x cs ss es pc L st0 := by
  obtain ⟨w1, w2, w3, w4, w5⟩ := hw
  have CK := C.1
  refine g_xrun rv (Value.ref t :: As).toArray (tys := ty6 (k_D x).1) (sh := sh) (Mx := Mx) (Mx1 := Mx1) (fun H locs ls hS hz hsz => ?_) kk
  exact va_runV (Ts := bW) (As := As) (rest := st) ⟨CK.1, CK.2.1, CK.2.2.1, CK.2.2.2.1, CK.2.2.2.2.1⟩ (hM H.size) (cwV nn CK.2.2.2.2.1 (bw_good (fun w h => by
    simp only [wsV, List.mem_append, List.mem_cons, List.not_mem_nil, or_false] at h
    rcases h with (rfl | rfl | rfl | rfl) | rfl | h <;> assumption)) rfl hR.1 hR.2.1 hd (by rw [CK.2.2.2.2.2.2.2.2.1]; exact hR.2.2)) ⟨xPre_blind, (by
      obtain ⟨cell, h1, h2, h3, -⟩ := hO.kept hS.2.1
      exact ⟨cell, h1, h2, h3⟩), fun U hU hW => g_xpre C hz hS U hU hW⟩ rfl hn (hsz.trans CK.2.2.2.2.2.2.2.1) hst (by simpa [JFrame.monitorRoom] using hcat) d (by rw [CK.2.2.2.2.2.2.2.2.1]; exact hf)
end GCALL
