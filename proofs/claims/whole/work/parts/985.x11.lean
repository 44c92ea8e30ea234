/-! GuardRollsModel(): its rules told by tellsNone (made by wip/whole/gen/x11.py) -/
def esMr (c : Nat → ClassId) (b : Nat) (f : Nat → Int32) : List va_E := [.inr (11, [.int 0, .ref (b + 1), .int 0, .int 0, .int 0, .int 0, .int 0, .int 0, .ref (b + 2), .ref (b + 3), .int 0, .ref (b + 4), .ref (b + 5), .int 0, .ref (b + 6), .int 0, .ref (b + 7), .ref (b + 8), .ref (b + 9), .ref (b + 10), .ref (b + 11), .ref (b + 12), .int 0, .int 0, .ref (b + 13), .int 0, .ref (b + 14), .int 0, .int 0, .int 0]), .inl (c 100, 200, .inl (fun _ => 0)), .inl (c 100, 7, .inl (fun _ => 0)), .inl (c 100, 7, .inl f), .inl (c 100, 495, .inl (fun _ => 0)), .inl (c 100, 4950, .inl (fun _ => 0)), .inl (c 100, 495, .inl (fun _ => 0)), .inl (c 100, 5, .inl (fun _ => 0)), .inl (c 100, 40, .inl (fun _ => 0)), .inl (c 100, 3960, .inl (fun _ => 0)), .inl (c 100, 3600, .inl (fun _ => 0)), .inl (c 100, 3960, .inl (fun _ => 0)), .inl (c 100, 3600, .inl (fun _ => 0)), .inl (c 100, 1000, .inl (fun _ => 0)), .inl (c 100, 3, .inl (fun _ => 0))]
theorem esMr_0 (c : Nat → ClassId) (b : Nat) : esM0 c b = esMr c b (fR 0) := by rw [fR_0]; rfl
def esX11 (c : Nat → ClassId) (b : Nat) : List va_E := esMr c b (fR 7)
abbrev rmX11 : Room := { frames := 2, cells := 14, slots := 22322, locals := 60 }
section HRULES
variable {x : kC} {own : String} {cc : ByteArray} {n : Nat} {rm : Room} {cs ss : Nat} {es es1 : List va_E} {pc : Nat} {L : List (Nat × Value)} {st st0 : List Value}
theorem k_gets (C : CtK x own cc n rm) {Cn nn d ref : String} {idx : Nat} {v : Value} (hZ : va_Z Cn nn d v (k_A x) (k_s x) (k_s x).heap) (hl : Cond.fieldLink own idx ref nn d ∈ bW) (hr : Cn = ref) (dd : decode cc pc = .ok (.getstatic idx, 3)) (k : JK x cs ss es (pc + 3) L (v :: st)) : JK x cs ss es pc L st := fun H locs ls hz hP hS h => va_gets C.1 C.2.1 hZ hS C.2.2.2.1 (C.2.2.2.2.1 _ hl) (fun _ q => hr ▸ q) dd (k H locs ls hz hP hS h)
theorem k_ti (C : CtK x own cc n rm) {t N : Nat} {f : Nat → Value} (hT : va_T .int t N f (k_A x) (k_s x) (k_s x).heap) {i : Int32} (hin : vp_in i N) {v : Value} (hv : f i.toNatClampNeg = v) (d : decode cc pc = .ok (.iaload, 1)) (k : JK x cs ss es (pc + 1) L (v :: st)) : JK x cs ss es pc L (.int i :: .ref t :: st) := fun H locs ls hz hP hS h => va_ti C.1 C.2.1 hT hS hin hv d (k H locs ls hz hP hS h)
/-- a static method over the constructors' judgement -/
def hMet (l : Launch) (y : MethodName) (cc : ByteArray) (n : Nat) (ret : Option FieldType) (f w : Nat) (args : List Value) (D : va_G) (ad : Nat → Nat) (b : Nat) (es : List va_E) (rv : Option Value) (es1 : List va_E) (mc ms : Nat) : Prop :=
  Met l y (Cond.code y cc n ret :: bW) { frames := f, cells := mc, slots := ms, locals := w } (va_Pc args (kPre D ad b es)) (gQ D b rv es1) mc ms (fun q => b ≤ q)
set_option maxHeartbeats 4000000 in
theorem hMet_of {l : Launch} {y : MethodName} {own : String} {cc : ByteArray} {n : Nat} {ret : Option FieldType} {f w : Nat} {args : List Value} {D : va_G} {ad : Nat → Nat} {b : Nat} {es : List va_E} {rv : Option Value} {es1 : List va_E} {mc ms : Nat}
    (hy : plainName y.cls = true) (hown : y.cls = own) (hn : (lg_sl args).length ≤ n)
    (h : ∀ x : kC, CtK x own cc n { frames := f, cells := mc, slots := ms, locals := w } → k_l x = l → k_D x = D → k_ad x = ad → k_b x = b → (k_me x).sig.returnType = ret → k_Q x = MQ (k_be x) (gQ D b rv es1) (k_a x) (k_s x) mc ms (fun q => b ≤ q) → JK x 0 0 es 0 (lv_args 0 args) []) :
    hMet l y cc n ret f w args D ad b es rv es1 mc ms := by
  refine Met.ofW (cc := cc) (maxL := n) (ret := ret) hy rfl ?_
  intro p e s m args' below meth c s₁ B hml hv
  obtain ⟨rfl, hsz, hP, hK, hN, hNK, hT⟩ := hv
  have hts : ∀ w ∈ bW, w.before args.toArray s = true := fun w hw => atoms_spec (ws := Cond.code y cc n ret :: bW) B.pre w (List.mem_cons_of_mem _ hw)
  have hw : s.vm.findClass own = some m.cls := by rw [← hown]; exact findClass_of_methodNamed B.named
  have hlocks := B.notSynchronized
  have hl := lv_entry args hn
  rw [lg_entry_eq]
  exact h ((p, l, e, (headSpec (Cond.code y cc n ret :: bW) { frames := f, cells := mc, slots := ms, locals := w }).room, s), (m, args.toArray, below, meth, c), D, (ad, b, n), MQ below (gQ D b rv es1) args.toArray s mc ms (fun q => b ≤ q)) ⟨B.exec, B.bytes, hml, hw, hts, hK, hlocks, rfl, rfl, ⟨hN, hNK⟩, hT⟩ rfl rfl rfl rfl B.returns rfl s.heap [] _ ⟨hsz, hsz⟩ hP va_S.rf hl
theorem h_pre (C : CtK x own cc n rm) {args : List Value} {H : Heap} {locs : List Loc} (hz : H.size = k_b x + es.length) (hP : va_P (k_D x) vwCl (xl (k_b x) es) H) (hS : va_S (k_A x) (k_s x).heap H locs) (U : State) (hU : U.heap = H) (hW : (k_s x).WarmedH U.vm) : va_Pc args (kPre (k_D x) (k_ad x) (k_b x) es) args.toArray U := by
  refine ⟨rfl, by rw [hU]; exact hz, by rw [hU]; exact hP, va_K.moved hW.alike C.2.2.2.2.2.1, NW.warm hW C.2.2.2.2.2.2.2.2.2.1.1, NK.warm hW C.2.2.2.2.2.2.2.2.2.1.2, ?_⟩
  rw [hU]
  exact (C.2.2.2.2.2.2.2.2.2.2.kept (fun a h1 h2 => hS.2.1 a h1 h2)).moved hW.alike
theorem h_callS (C : CtK x own cc n rm) {y : MethodName} {ccy : ByteArray} {ny idx nn f w mc ms : Nat} {ret : Option FieldType} {As : List Value} {rv : Option Value} (hlen : es1.length = es.length + mc)
    (hM : hMet (k_l x) y ccy ny ret f w As (k_D x) (k_ad x) (k_b x) es rv es1 mc ms)
    (hw : Cond.methodLink own idx y ∈ bW ∧ Cond.static y ∈ bW ∧ Cond.initialized y.cls ∈ bW ∧ Cond.code y ccy ny ret ∈ bW) (hd : okD y nn) (hR : f + 1 ≤ rm.frames ∧ 8 + (ny + 11) + w ≤ rm.locals) (hf : cs + mc ≤ rm.cells ∧ ss + ms ≤ rm.slots)
    (hn : As.length = nn) (hst : st0 = As.reverse ++ st) (hcat : (st.map fun v => v.category).sum ≤ 8) (d : decode cc pc = .ok (.invokestatic idx, 3))
    (kk : JK x (cs + mc) (ss + ms) es1 (pc + 3) L (rv.toList ++ st)) : JK x cs ss es pc L st0 := by
  obtain ⟨w1, w2, w3, w4⟩ := hw
  refine g_run rv As.toArray hlen (fun H locs ls hz hP hS hsz => ?_) kk
  exact va_runS (Ts := bW) (As := As) (rest := st) ⟨C.1, C.2.1, C.2.2.1, C.2.2.2.1, C.2.2.2.2.1⟩ hM (va_cwS nn C.2.2.2.2.1 (bw_good (fun w h => by
    simp only [va_wsS, List.mem_append, List.mem_cons, List.not_mem_nil, or_false] at h
    rcases h with (rfl | rfl | rfl) | rfl | h <;> assumption)) rfl rfl rfl hd (by rw [C.2.2.2.2.2.2.2.2.1]; exact hR)) ⟨kPre_blind, fun U hU hW => h_pre C hz hP hS U hU hW⟩ rfl hn (hsz.trans C.2.2.2.2.2.2.2.1) hst (by simpa [JFrame.monitorRoom] using hcat) d (by rw [C.2.2.2.2.2.2.2.2.1]; exact hf)
theorem h_vret (C : CtK x own cc n rm) (hr : (k_me x).sig.returnType = none) (eQ : k_Q x = MQ (k_be x) (gQ (k_D x) (k_b x) none es) (k_a x) (k_s x) cs ss (k_A x)) (d : decode cc pc = .ok (.return_, 1)) : JK x cs ss es pc L [] := fun H locs ls hz hP hS h => by
  rw [eQ]
  exact W.vret C.1 C.2.1 hr (fun t ht _ => ⟨rfl, by rw [ht]; exact hz.1, by rw [ht]; exact hP, hS.F ht⟩) hS.2.2 d C.2.2.2.2.2.2.1
end HRULES
theorem esMr_w (c : Nat → ClassId) (b n : Nat) : (esMr c b (fR n)).set 3 (.inl (c 100, 7, .inl (upd (fR n) n (fWi n)))) = esMr c b (fR (n + 1)) := by rw [fR_s]; rfl
abbrev rmTN : Room := { frames := 0, cells := 0, slots := 0, locals := 0 }
set_option maxRecDepth 20000 in
theorem tn_loop {x : kC} (C : CtK x RX11 cX11_tellsNone 2 rmTN) (kk : JK x 0 0 (esMr (k_D x).1 (k_b x) (fR 7)) 22 [(1, .int (nI 7)), (0, .ref (k_b x + 3))] []) : ∀ r n : Nat, r + n = 7 → JK x 0 0 (esMr (k_D x).1 (k_b x) (fR n)) 2 [(1, .int (nI n)), (0, .ref (k_b x + 3))] [] := by
  intro r
  induction r with
  | zero =>
    intro n hn
    obtain rfl : n = 7 := by omega
    refine k_iload_n C 0 dX11_tellsNone_2 rfl rfl ?_
    refine k_bipush (v := nI 7) C dX11_tellsNone_3 rfl ?_
    exact k_icmp_ge C 22 dX11_tellsNone_5 (by decide) (fun _ => kk) (fun q => absurd (Int32.le_refl _) q)
  | succ r ih =>
    intro n hn
    have hc : (nI n).toNatClampNeg = n := clN (by omega)
    refine k_iload_n C 0 dX11_tellsNone_2 rfl rfl ?_
    refine k_bipush (v := nI 7) C dX11_tellsNone_3 rfl ?_
    refine k_icmp_ge C 22 dX11_tellsNone_5 (by decide) (fun q => absurd q (nI_nl9 (by omega) (by decide))) (fun _ => ?_)
    refine k_aload_n C 1 dX11_tellsNone_8 rfl rfl ?_
    refine k_iload_n C 0 dX11_tellsNone_9 rfl rfl ?_
    refine k_gets C C.2.2.2.2.2.2.2.2.2.2.1.1 kw_1249 rfl dX11_tellsNone_10 ?_
    refine k_iload_n C 0 dX11_tellsNone_13 rfl rfl ?_
    refine k_ti C C.2.2.2.2.2.2.2.2.2.2.1.2 (vp_nI (by omega) (by decide)) (v := .int (fWi n)) (by rw [hc]) dX11_tellsNone_14 ?_
    refine k_iast C (i := 3) (n0 := 7) (f := fR n) rfl (vp_nI (by omega) (by decide)) rfl (es1 := esMr (k_D x).1 (k_b x) (fR (n + 1))) (by rw [hc]; exact esMr_w _ _ _) dX11_tellsNone_15 ?_
    refine k_iinc C 0 [(1, .int (nI (n + 1))), (0, .ref (k_b x + 3))] dX11_tellsNone_16 rfl (w := nI (n + 1)) (by show nI n + nI 1 = _; rw [nI_p _ _ (by omega)]) (by decide) rfl ?_
    exact k_goto C 2 dX11_tellsNone_19 (by decide) (ih (n + 1) (by omega))
theorem hm_tellsNone (l : Launch) (D : va_G) (ad : Nat → Nat) (b : Nat) : hMet l yX11_tellsNone cX11_tellsNone 2 none 0 0 [.ref (b + 3)] D ad b (esMr D.1 b (fR 0)) none (esMr D.1 b (fR 7)) 0 0 := by
  refine hMet_of (own := RX11) (by decide +kernel) rfl (Nat.le_of_ble_eq_true rfl) ?_
  intro x C e1 e2 e3 e4 hr eQ
  subst e1; subst e2; subst e3; subst e4
  refine k_iconst (v := nI 0) C dX11_tellsNone_0 rfl ?_
  refine k_istore_n C [(1, .int (nI 0)), (0, .ref (k_b x + 3))] dX11_tellsNone_1 rfl (by decide) rfl ?_
  exact tn_loop C (h_vret C hr eQ dX11_tellsNone_22) 7 0 rfl
theorem mk_X11 (l : Launch) (D : va_G) (ad : Nat → Nat) (b : Nat) : kMet l yX11_init cX11_init 1 rmX11 D ad b e0X11 (esX11 D.1 b) 14 22322 := by
  refine kMet_of (own := RX11) (by decide +kernel) rfl rfl (Nat.le_of_ble_eq_true rfl) ?_
  intro x C e1 e2 e3 e4 hin2 hr eQ
  subst e1; subst e2; subst e3; subst e4
  refine mk_M0 C hin2 rfl ?_
  rw [esMr_0]
  refine k_aload_n C 0 dX11_init_123 rfl rfl ?_
  refine k_get C (i := 0) rfl (hc := rfl) hin_X11 9 (by decide) kw_1260 rfl rfl rfl dX11_init_124 ?_
  refine h_callS C (nn := 1) (es1 := esX11 (k_D x).1 (k_b x)) (As := [.ref (k_b x + 3)]) (rv := none) (st := []) rfl (hm_tellsNone _ _ _ _) ⟨kw_1246, kw_1247, kw_11, kw_1248⟩ ⟨by decide +kernel, by decide +kernel, by decide +kernel⟩ ⟨Nat.le_of_ble_eq_true rfl, Nat.le_of_ble_eq_true rfl⟩ ⟨Nat.le_of_ble_eq_true rfl, Nat.le_of_ble_eq_true rfl⟩ rfl rfl (Nat.le_of_ble_eq_true rfl) dX11_init_127 ?_
  exact k_vret C hr eQ dX11_init_130
