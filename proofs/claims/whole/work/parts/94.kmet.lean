/-! contracts of constructors -/
def kPre (D : va_G) (ad : Nat → Nat) (b : Nat) (es : List va_E) (U : State) : Prop :=
  U.heap.size = b + es.length ∧ va_P D vwCl (xl b es) U.heap ∧ va_K D vwCl (ty6 D.1) U ∧ NW ad U ∧ NK U ∧ St ad (fun q => b ≤ q) U U.heap
def kQ (D : va_G) (b : Nat) (es : List va_E) : Array Value → State → Outcome → State → Prop := fun _ st oc t =>
  oc = .returned none ∧ t.heap.size = b + es.length ∧ va_P D vwCl (xl b es) t.heap ∧ va_F (fun q => b ≤ q) st t
def kMet (l : Launch) (y : MethodName) (cc : ByteArray) (n : Nat) (rm : Room) (D : va_G) (ad : Nat → Nat) (b : Nat) (e0 : va_E) (es : List va_E) (mc ms : Nat) : Prop :=
  Met l y (Cond.code y cc n none :: bW) rm (va_Pc [.ref b] (kPre D ad b [e0])) (kQ D b es) mc ms (fun q => b ≤ q)
theorem kPre_blind {D : va_G} {ad : Nat → Nat} {b : Nat} {es : List va_E} {args : List Value} : FrameBlind (va_Pc args (kPre D ad b es)) := fun a U g mk q => by
  obtain ⟨q0, q1, q2, q3, q4, q5, q6⟩ := q
  exact ⟨q0, q1, q2, va_K.moved (u := U) (U := U.calling g mk a) (Vm.Alike.refl U.vm) q3, NW.same (u := U) (U := U.calling g mk a) rfl q4, NK.same (u := U) (U := U.calling g mk a) rfl q5, St.moved (u := U) (U := U.calling g mk a) (Vm.Alike.refl U.vm) q6⟩
set_option maxHeartbeats 4000000 in
theorem kMet_of {l : Launch} {y : MethodName} {own : String} {cc : ByteArray} {n : Nat} {rm : Room} {D : va_G} {ad : Nat → Nat} {b : Nat} {e0 : va_E} {es : List va_E} {mc ms : Nat}
    (hy : plainName y.cls = true) (hname : y.name = "<init>") (hown : y.cls = own) (hn : 1 ≤ n)
    (h : ∀ x : kC, CtK x own cc n rm → k_l x = l → k_D x = D → k_ad x = ad → k_b x = b → (k_me x).name = "<init>" → (k_me x).sig.returnType = none → k_Q x = MQ (k_be x) (kQ D b es) (k_a x) (k_s x) mc ms (fun q => b ≤ q) → JK x 0 0 [e0] 0 [(0, .ref b)] []) :
    kMet l y cc n rm D ad b e0 es mc ms := by
  refine Met.ofW (cc := cc) (maxL := n) (ret := none) hy rfl ?_
  intro p e s m args' below meth c s₁ B hml hv
  obtain ⟨rfl, hsz, hP, hK, hN, hNK, hT⟩ := hv
  have hts : ∀ w ∈ bW, w.before [Value.ref b].toArray s = true := fun w hw => atoms_spec (ws := Cond.code y cc n none :: bW) B.pre w (List.mem_cons_of_mem _ hw)
  have hw : s.vm.findClass own = some m.cls := by rw [← hown]; exact findClass_of_methodNamed B.named
  have hlocks := B.notSynchronized
  have hin : meth.name = "<init>" := (name_of_methodNamed B.named B.method).1.trans hname
  have hl := lv_entry [Value.ref b] (n := n) (by show 1 ≤ n; exact hn)
  rw [lg_entry_eq]
  exact h ((p, l, e, (headSpec (Cond.code y cc n none :: bW) rm).room, s), (m, [Value.ref b].toArray, below, meth, c), D, (ad, b, n), MQ below (kQ D b es) [Value.ref b].toArray s mc ms (fun q => b ≤ q)) ⟨B.exec, B.bytes, hml, hw, hts, hK, hlocks, rfl, rfl, ⟨hN, hNK⟩, hT⟩ rfl rfl rfl rfl hin B.returns rfl s.heap [] _ ⟨hsz, hsz⟩ hP va_S.rf hl
section KCALL
variable {x : kC} {own : String} {cc : ByteArray} {n : Nat} {rm : Room} {cs ss : Nat} {es es0 : List va_E} {pc : Nat} {L : List (Nat × Value)} {st st0 : List Value}
theorem k_vret (C : CtK x own cc n rm) (hr : (k_me x).sig.returnType = none) (eQ : k_Q x = MQ (k_be x) (kQ (k_D x) (k_b x) es) (k_a x) (k_s x) cs ss (k_A x)) (d : decode cc pc = .ok (.return_, 1)) : JK x cs ss es pc L [] := fun H locs ls hz hP hS h => by
  rw [eQ]
  exact W.vret C.1 C.2.1 hr (fun t ht _ => ⟨rfl, by rw [ht]; exact hz.1, by rw [ht]; exact hP, hS.F ht⟩) hS.2.2 d C.2.2.2.2.2.2.1
theorem k_run (a : Array Value) {e0 : va_E} {fe : List va_E} {mc ms : Nat} (hlen : fe.length = mc + 1)
    (hr : ∀ (H : Heap) (locs : List Loc) (ls : Array Slot), (H.size = k_b x + (es0 ++ [e0]).length) → va_P (k_D x) vwCl (xl (k_b x) (es0 ++ [e0])) H → va_S (k_A x) (k_s x).heap H locs → ls.size = k_n x → va_Run (k_p x) (k_l x) (k_e x) (k_R x) (k_s x) (k_m x) (k_a x) (k_be x) (k_me x) (k_c x) H locs cs ss mc ms (F0 (k_m x) pc ls st0) st (kQ (k_D x) (k_b x + es0.length) fe a) (fun q => k_b x + es0.length ≤ q))
    (kk : JK x (cs + mc) (ss + ms) (es0 ++ fe) (pc + 3) L st) : JK x cs ss (es0 ++ [e0]) pc L st0 := by
  intro H locs ls hz hP hS hl T hT X
  obtain ⟨w, st₀, t, T', L', h0, X', hL, e2, e3, ⟨hv, hz1, hP1, hz2, hk⟩, stp⟩ := hr H locs ls hz.1 hP hS hl.1 T hT X
  cases hv
  rw [h0] at hz2 hk
  have hl9 : (es0 ++ [e0]).length = es0.length + 1 := by rw [List.length_append]; rfl
  have hA : ∀ q, k_b x + es0.length ≤ q → k_A x q := fun q hq => by show k_b x ≤ q; omega
  have hk2 : ∀ q : Nat, q < k_b x + es0.length → T'.heap[q]? = H[q]? := fun q hq => by rw [e2]; exact hk q (by have := hz.1; omega) (by omega)
  obtain ⟨t2, a1, b1⟩ := kk T'.heap (locs ++ L') ls ⟨by rw [e2, hz1, List.length_append]; omega, by have := hz.2; rw [List.length_append, hlen]; rw [hl9] at this; omega⟩
    (by rw [xl_app]; rw [xl_app] at hP; exact va_P.app2 (xl_keep hP.left hk2) (by rw [e2]; exact hP1))
    ⟨Nat.le_trans hS.1 (by rw [e2]; exact hz2), fun q h1 h2 => by
      have h2' : ¬ k_b x ≤ q := h2
      rw [hk2 q (by omega)]; exact hS.2.1 q h1 h2, fun q hq => by
      rcases List.mem_append.mp hq with h | h
      · exact hS.2.2 q h
      · exact hA _ (hL q h)⟩ hl T' rfl X'
  exact ⟨t2, stp t2 a1, b1⟩
theorem k_pre (C : CtK x own cc n rm) {e0 : va_E} {H : Heap} {locs : List Loc} (hz : H.size = k_b x + (es0 ++ [e0]).length) (hP : va_P (k_D x) vwCl (xl (k_b x) (es0 ++ [e0])) H) (hS : va_S (k_A x) (k_s x).heap H locs) (U : State) (hU : U.heap = H) (hW : (k_s x).WarmedH U.vm) : va_Pc [.ref (k_b x + es0.length)] (kPre (k_D x) (k_ad x) (k_b x + es0.length) [e0]) [Value.ref (k_b x + es0.length)].toArray U := by
  refine ⟨rfl, by rw [hU, hz, List.length_append]; show _ = _ + _ + 1; show _ + (_ + 1) = _; omega, by rw [hU]; rw [xl_app] at hP; exact hP.right, va_K.moved hW.alike C.2.2.2.2.2.1, NW.warm hW C.2.2.2.2.2.2.2.2.2.1.1, NK.warm hW C.2.2.2.2.2.2.2.2.2.1.2, ?_⟩
  rw [hU]
  exact ((C.2.2.2.2.2.2.2.2.2.2.kept (fun a h1 h2 => hS.2.1 a h1 h2)).moved hW.alike).narrow (fun q hq => by show k_b x ≤ q; omega)
theorem k_initN (C : CtK x own cc n rm) {y : MethodName} {host : String} {ccy : ByteArray} {ny idx : Nat} {rmy : Room} {e0 : va_E} {fe : List va_E} {mc ms : Nat} (hlen : fe.length = mc + 1)
    (hM : kMet (k_l x) y ccy ny rmy (k_D x) (k_ad x) (k_b x + es0.length) e0 fe mc ms) (hw : (own, idx, y, host) ∈ nI8 ∧ Cond.instanceMethod y ∈ bW ∧ Cond.initialized y.cls ∈ bW ∧ Cond.code y ccy ny none ∈ bW) (hn : y.name = "<init>") (hd : okD y 0) (hR : rmy.cells = mc ∧ rmy.slots = ms ∧ rmy.frames + 1 ≤ rm.frames ∧ 8 + (ny + 11) + rmy.locals ≤ rm.locals) (hf : cs + mc ≤ rm.cells ∧ ss + ms ≤ rm.slots)
    (hes : es = es0 ++ [e0]) (hst : st0 = .ref (k_b x + es0.length) :: st) (hcat : (st.map fun v => v.category).sum ≤ 8) (d : decode cc pc = .ok (.invokespecial idx, 3))
    (kk : JK x (cs + mc) (ss + ms) (es0 ++ fe) (pc + 3) L st) : JK x cs ss es pc L st0 := by
  obtain ⟨w1, w2, w3, w5⟩ := hw
  subst hes
  refine k_run [Value.ref (k_b x + es0.length)].toArray hlen (fun H locs ls hz hP hS hsz => ?_) kk
  exact va_runIN (Ts := bW) (As := []) (rest := st) (b := k_b x + es0.length) ⟨C.1, C.2.1, C.2.2.1, C.2.2.2.1, C.2.2.2.2.1⟩ hM ⟨va_cnB 0 C.2.2.2.2.1 (bw_good (fun w h => by
    rcases List.mem_cons.mp h with rfl | h
    · exact w5
    · exact h)) rfl hR.1 hR.2.1 (C.2.2.2.2.2.2.2.2.2.1.2.1 _ w1) (C.2.2.2.2.1 _ w3) hd (by rw [C.2.2.2.2.2.2.2.2.1]; exact hR.2.2), hn, C.2.2.2.2.1 _ w2⟩ ⟨kPre_blind, fun U hU hW => k_pre C hz hP hS U hU hW⟩ rfl rfl (hsz.trans C.2.2.2.2.2.2.2.1) hst (by simpa [JFrame.monitorRoom] using hcat) d (by rw [C.2.2.2.2.2.2.2.2.1]; exact hf)
theorem k_init (C : CtK x own cc n rm) {y : MethodName} {ccy : ByteArray} {ny idx : Nat} {rmy : Room} {e0 : va_E} {fe : List va_E} {mc ms : Nat} (hlen : fe.length = mc + 1)
    (hM : kMet (k_l x) y ccy ny rmy (k_D x) (k_ad x) (k_b x + es0.length) e0 fe mc ms) (hw : Cond.methodLink own idx y ∈ bW ∧ Cond.instanceMethod y ∈ bW ∧ Cond.initialized y.cls ∈ bW ∧ Cond.code y ccy ny none ∈ bW) (hn : y.name = "<init>") (hd : okD y 0) (hR : rmy.cells = mc ∧ rmy.slots = ms ∧ rmy.frames + 1 ≤ rm.frames ∧ 8 + (ny + 11) + rmy.locals ≤ rm.locals) (hf : cs + mc ≤ rm.cells ∧ ss + ms ≤ rm.slots)
    (hes : es = es0 ++ [e0]) (hst : st0 = .ref (k_b x + es0.length) :: st) (hcat : (st.map fun v => v.category).sum ≤ 8) (d : decode cc pc = .ok (.invokespecial idx, 3))
    (kk : JK x (cs + mc) (ss + ms) (es0 ++ fe) (pc + 3) L st) : JK x cs ss es pc L st0 := by
  obtain ⟨w1, w2, w3, w5⟩ := hw
  subst hes
  refine k_run [Value.ref (k_b x + es0.length)].toArray hlen (fun H locs ls hz hP hS hsz => ?_) kk
  exact va_runI (Ts := bW) (As := []) (rest := st) (b := k_b x + es0.length) ⟨C.1, C.2.1, C.2.2.1, C.2.2.2.1, C.2.2.2.2.1⟩ hM (cwI 0 C.2.2.2.2.1 (bw_good (fun w h => by
    rcases List.mem_cons.mp h with rfl | h
    · exact w5
    · exact h)) rfl hR.1 hR.2.1 (C.2.2.2.2.1 _ w3) (C.2.2.2.2.1 _ w1) (C.2.2.2.2.1 _ w2) hn hd (by rw [C.2.2.2.2.2.2.2.2.1]; exact hR.2.2)) ⟨kPre_blind, fun U hU hW => k_pre C hz hP hS U hU hW⟩ rfl rfl (hsz.trans C.2.2.2.2.2.2.2.1) hst (by simpa [JFrame.monitorRoom] using hcat) d (by rw [C.2.2.2.2.2.2.2.2.1]; exact hf)
end KCALL
