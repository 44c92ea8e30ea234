/-! contracts over a world of J, their entry, their calls; St: what statics hold, in cells that no method writes: their addresses are ad 1000 and on -/
def fWi (i : Nat) : Int32 := [21, 40, 90, 100, 50, 25, 2].getD i 0
def fLo (i : Nat) : Int32 := [18, 0, 0, 0, 0, 0, 1].getD i 0
def fHi (i : Nat) : Int32 := [25, 999, 359, 9999, 200, 100, 4].getD i 0
def sTx (i : Nat) : List Nat := [[97, 103, 101], [115, 109, 97, 108, 108], [103, 114, 97, 99, 101], [102, 108, 111, 111, 114], [114, 97, 116, 101], [102, 101, 101], [99, 111, 118, 101, 114]].getD (i % 7) []
def sLen (i : Nat) : Nat := (sTx i).length
def sByt (i j : Nat) : Int32 := Int32.ofNat ((sTx i).getD j 0)
def St (ad : Nat → Nat) (A : Nat → Prop) (U : State) (H : Heap) : Prop :=
  (va_Z RX11 "WITHOUT" "[I" (.ref (ad 1000)) A U H ∧ va_T .int (ad 1000) 7 (fun j => .int (fWi j)) A U H) ∧
  (va_Z RX11 "LOW" "[I" (.ref (ad 1001)) A U H ∧ va_T .int (ad 1001) 7 (fun j => .int (fLo j)) A U H) ∧
  (va_Z RX11 "HIGH" "[I" (.ref (ad 1002)) A U H ∧ va_T .int (ad 1002) 7 (fun j => .int (fHi j)) A U H) ∧
  (va_Z RX10 "RULES" "[LGuardRolls$Rule;" (.ref (ad 1003)) A U H ∧ va_T (.object "GuardRolls$Rule") (ad 1003) 7 (fun j => .ref (ad (1010 + j))) A U H) ∧
  va_Ef 7 RX5 "least" "I" (fun j => .int (fLo j)) (fun j => ad (1010 + j)) A U H ∧ va_Ef 7 RX5 "greatest" "I" (fun j => .int (fHi j)) (fun j => ad (1010 + j)) A U H ∧ va_Ef 7 RX5 "usual" "I" (fun j => .int (fWi j)) (fun j => ad (1010 + j)) A U H ∧
  (∀ i, i < 14 → va_O "java/lang/String" (ad (1020 + i)) A U H ∧ va_OF "java/lang/String" "coder" "B" (.int 0) (ad (1020 + i)) A U H ∧ va_OF "java/lang/String" "value" "[B" (.ref (ad (1040 + i))) (ad (1020 + i)) A U H ∧ va_T .byte (ad (1040 + i)) (sLen i) (fun j => .int (sByt i j)) A U H) ∧
  va_Ef 7 RX5 "word" "Ljava/lang/String;" (fun j => .ref (ad (1020 + j))) (fun j => ad (1010 + j)) A U H ∧ va_Z "java/lang/String" "COMPACT_STRINGS" "Z" (.int 1) A U H ∧ va_Zq "jdk/internal/util/Preconditions" "SIOOBE_FORMATTER" "Ljava/util/function/BiFunction;" A U H
theorem St.moved {ad : Nat → Nat} {A : Nat → Prop} {u U : State} {H : Heap} (v : u.vm.Alike U.vm) (h : St ad A u H) : St ad A U H :=
  ⟨⟨h.1.1.moved v, h.1.2.moved v⟩, ⟨h.2.1.1.moved v, h.2.1.2.moved v⟩, ⟨h.2.2.1.1.moved v, h.2.2.1.2.moved v⟩, ⟨h.2.2.2.1.1.moved v, h.2.2.2.1.2.moved v⟩, h.2.2.2.2.1.moved v, h.2.2.2.2.2.1.moved v, h.2.2.2.2.2.2.1.moved v, fun i hi => ⟨(h.2.2.2.2.2.2.2.1 i hi).1.moved v, (h.2.2.2.2.2.2.2.1 i hi).2.1.moved v, (h.2.2.2.2.2.2.2.1 i hi).2.2.1.moved v, (h.2.2.2.2.2.2.2.1 i hi).2.2.2.moved v⟩, h.2.2.2.2.2.2.2.2.1.moved v, h.2.2.2.2.2.2.2.2.2.1.moved v, h.2.2.2.2.2.2.2.2.2.2.moved v⟩
theorem St.kept {ad : Nat → Nat} {A : Nat → Prop} {U : State} {H H1 : Heap} (h : St ad A U H) (v : ∀ a : Nat, a < H.size → ¬ A a → H1[a]? = H[a]?) : St ad A U H1 :=
  ⟨⟨h.1.1.kept v, h.1.2.kept v⟩, ⟨h.2.1.1.kept v, h.2.1.2.kept v⟩, ⟨h.2.2.1.1.kept v, h.2.2.1.2.kept v⟩, ⟨h.2.2.2.1.1.kept v, h.2.2.2.1.2.kept v⟩, h.2.2.2.2.1.kept v, h.2.2.2.2.2.1.kept v, h.2.2.2.2.2.2.1.kept v, fun i hi => ⟨(h.2.2.2.2.2.2.2.1 i hi).1.kept v, (h.2.2.2.2.2.2.2.1 i hi).2.1.kept v, (h.2.2.2.2.2.2.2.1 i hi).2.2.1.kept v, (h.2.2.2.2.2.2.2.1 i hi).2.2.2.kept v⟩, h.2.2.2.2.2.2.2.2.1.kept v, h.2.2.2.2.2.2.2.2.2.1.kept v, h.2.2.2.2.2.2.2.2.2.2.kept v⟩
theorem St.narrow {ad : Nat → Nat} {A B : Nat → Prop} {U : State} {H : Heap} (h : St ad A U H) (v : ∀ q, B q → A q) : St ad B U H :=
  ⟨⟨h.1.1.narrow v, h.1.2.narrow v⟩, ⟨h.2.1.1.narrow v, h.2.1.2.narrow v⟩, ⟨h.2.2.1.1.narrow v, h.2.2.1.2.narrow v⟩, ⟨h.2.2.2.1.1.narrow v, h.2.2.2.1.2.narrow v⟩, h.2.2.2.2.1.narrow v, h.2.2.2.2.2.1.narrow v, h.2.2.2.2.2.2.1.narrow v, fun i hi => ⟨(h.2.2.2.2.2.2.2.1 i hi).1.narrow v, (h.2.2.2.2.2.2.2.1 i hi).2.1.narrow v, (h.2.2.2.2.2.2.2.1 i hi).2.2.1.narrow v, (h.2.2.2.2.2.2.2.1 i hi).2.2.2.narrow v⟩, h.2.2.2.2.2.2.2.2.1.narrow v, h.2.2.2.2.2.2.2.2.2.1.narrow v, h.2.2.2.2.2.2.2.2.2.2.narrow v⟩
def nW : List (String × Nat × MethodName × String) := [(RX8, 51, yX10_firstDay, RX10), (RX3, 27, yX10_lastDay, RX10), (RX3, 37, yX10_firstDay, RX10), (RX9, 21, yX10_firstDay, RX10), (RX1, 192, yX10_firstDay, RX10), (RX4, 34, yX10_firstDay, RX10)]
def nF : List (String × Nat × String × String × String × String) := [(RX6, 9, RX10, "RULES", "[LGuardRolls$Rule;", RX10), (RX1, 9, RX10, "RULES", "[LGuardRolls$Rule;", RX10)]
def NW (ad : Nat → Nat) (U : State) : Prop := (∀ j, j < 7 → vk_R RX11 (114 + 2 * j) (["age", "small", "grace", "floor", "rate", "fee", "cover"].getD j "") (ad (1027 + j)) U) ∧ (∀ q ∈ nW, va_Nw (.methodLinkNest q.1 q.2.1 q.2.2.1 q.2.2.2) U) ∧ ∀ q ∈ nF, va_Nw (.fieldLinkNest q.1 q.2.1 q.2.2.1 q.2.2.2.1 q.2.2.2.2.1 q.2.2.2.2.2) U
theorem NW.warm {ad : Nat → Nat} {s U : State} (hW : s.WarmedH U.vm) (h : NW ad s) : NW ad U := ⟨fun j hj => vk_R.warm hW (h.1 j hj), fun q hq => va_Nw.warmM hW (h.2.1 q hq), fun q hq => va_Nw.warmF hW (h.2.2 q hq)⟩
theorem NW.same {ad : Nat → Nat} {u U : State} (e : u.vm = U.vm) (h : NW ad u) : NW ad U := ⟨fun j hj => vk_R.same e.symm (h.1 j hj), fun q hq => va_Nw.same rfl e (h.2.1 q hq), fun q hq => va_Nw.same rfl e (h.2.2 q hq)⟩
/-- what a body knows beside Ct -/
abbrev NS (x : xC) : Prop := NW (x_ad x) (x_s x) ∧ St (x_ad x) (x_A x) (x_s x) (x_s x).heap
def xPre (D : va_G) (tys : List (ClassId × FieldType)) (ad : Nat → Nat) (sh : xH) (K sz : Nat) (M : xM) (U : State) : Prop :=
  U.heap.size = sz ∧ va_P D vwCl (xW ad sh K M) U.heap ∧ va_K D vwCl tys U ∧ va_D (fun _ => True) (xW ad sh K M) ∧ NW ad U ∧ St ad (xA ad K sz) U U.heap
/-- a method's contract: from the world M with these arguments it comes to the world M1 and answers rv -/
def xMet (l : Launch) (y : MethodName) (cc : ByteArray) (n : Nat) (ret : Option FieldType) (rm : Room) (args : List Value) (D : va_G) (tys : List (ClassId × FieldType)) (ad : Nat → Nat) (sh : xH) (K : Nat) (M : xM) (rv : Option Value) (M1 : xM) : Prop :=
  ∀ sz : Nat, Met l y (Cond.code y cc n ret :: bW) rm (va_Pc args (xPre D tys ad sh K sz M)) (xQ D tys ad sh K rv M1 (xA ad K sz)) 0 0 (xA ad K sz)
theorem xW_D {ad : Nat → Nat} {sh : xH} {K : Nat} {M M1 : xM} {A B : Nat → Prop} (h : va_D A (xW ad sh K M)) (hB : ∀ k, k < K → B (ad k)) : va_D B (xW ad sh K M1) := by
  refine ⟨fun i j p q hp hq e => ?_, fun k q hq => ?_⟩
  · obtain ⟨hi, rfl⟩ := xW_some hp
    obtain ⟨hj, rfl⟩ := xW_some hq
    exact h.1 i j _ _ (xW_get hi) (xW_get hj) e
  · obtain ⟨hk, rfl⟩ := xW_some hq
    exact hB k hk
theorem xA_in {ad : Nat → Nat} {K sz k : Nat} (h : k < K) : xA ad K sz (ad k) := Or.inl ⟨k, h, rfl⟩
set_option maxHeartbeats 4000000 in
theorem xMet_of {l : Launch} {y : MethodName} {own : String} {cc : ByteArray} {n : Nat} {ret : Option FieldType} {rm : Room} {args : List Value} {D : va_G} {tys : List (ClassId × FieldType)} {ad : Nat → Nat} {sh : xH} {K : Nat} {M : xM} {rv : Option Value} {M1 : xM}
    (hy : plainName y.cls = true) (hown : y.cls = own) (hn : (lg_sl args).length ≤ n)
    (h : ∀ x : xC, Ct x own cc n rm → NS x → x_l x = l → x_D x = D → x_t x = tys → x_ad x = ad → x_sh x = sh → x_K x = K → x_rv x = rv → x_M x = M1 → (x_me x).sig.returnType = ret → J x M 0 (lv_args 0 args) []) :
    xMet l y cc n ret rm args D tys ad sh K M rv M1 := by
  intro sz
  refine Met.ofW (cc := cc) (maxL := n) (ret := ret) hy rfl ?_
  intro p e s m args' below meth c s₁ B hml hv
  obtain ⟨rfl, hsz, hP, hK, hD0, hN, hT⟩ := hv
  have hts : ∀ w ∈ bW, w.before args.toArray s = true := fun w hw => atoms_spec (ws := Cond.code y cc n ret :: bW) B.pre w (List.mem_cons_of_mem _ hw)
  have hw : s.vm.findClass own = some m.cls := by rw [← hown]; exact findClass_of_methodNamed B.named
  have hlocks := B.notSynchronized
  subst hsz
  have hD : va_D (xA ad K s.heap.size) (xW ad sh K M) := xW_D hD0 (fun k hk => xA_in hk)
  have hl := lv_entry args hn
  rw [lg_entry_eq]
  exact h ((p, l, e, (headSpec (Cond.code y cc n ret :: bW) rm).room, s), (m, args.toArray, below, meth, c), (D, tys), (ad, sh, K), (n, rv, M1)) ⟨B.exec, B.bytes, hml, hw, hts, hK, hlocks, rfl, rfl⟩ ⟨hN, hT⟩ rfl rfl rfl rfl rfl rfl rfl rfl B.returns s.heap [] _ hP hD va_S.rf hl
section CALLS
variable {x : xC} {own : String} {cc : ByteArray} {n : Nat} {rm : Room} {M M1 : xM} {pc : Nat} {L : List (Nat × Value)} {st st0 : List Value}
theorem xPre_blind {D : va_G} {tys : List (ClassId × FieldType)} {ad : Nat → Nat} {sh : xH} {K sz : Nat} {args : List Value} : FrameBlind (va_Pc args (xPre D tys ad sh K sz M)) := fun a U g mk q => by
  obtain ⟨q0, q1, q2, q3, q4, q5, q6⟩ := q
  exact ⟨q0, q1, q2, va_K.moved (u := U) (U := U.calling g mk a) (Vm.Alike.refl U.vm) q3, q4, NW.same (u := U) (U := U.calling g mk a) rfl q5, St.moved (u := U) (U := U.calling g mk a) (Vm.Alike.refl U.vm) q6⟩
theorem xPre_at (C : Ct x own cc n rm) (hN : NS x) {H : Heap} {locs : List Loc} (hS : va_S (x_A x) (x_s x).heap H locs) (hP : va_P (x_D x) vwCl (x_W x M) H) (hD : va_D (x_A x) (x_W x M)) {args : List Value} (U : State) (hU : U.heap = H) (hW : (x_s x).WarmedH U.vm) : va_Pc args (xPre (x_D x) (x_t x) (x_ad x) (x_sh x) (x_K x) H.size M) args.toArray U :=
  ⟨rfl, by rw [hU], by rw [hU]; exact hP, va_K.moved hW.alike C.2.2.2.2.2.1, xW_D hD (fun _ _ => trivial), NW.warm hW hN.1, by rw [hU]; exact ((hN.2.kept (fun a h1 h2 => hS.2.1 a h1 h2)).moved hW.alike).narrow (fun q hq => hq.elim Or.inl (fun z => Or.inr (Nat.le_trans hS.1 z)))⟩
theorem r_run (rv : Option Value) (a : Array Value)
    (hr : ∀ (H : Heap) (locs : List Loc) (ls : Array Slot), va_P (x_D x) vwCl (x_W x M) H → va_D (x_A x) (x_W x M) → va_S (x_A x) (x_s x).heap H locs → ls.size = x_n x → va_Run (x_p x) (x_l x) (x_e x) (x_R x) (x_s x) (x_m x) (x_a x) (x_be x) (x_me x) (x_c x) H locs 0 0 0 0 (F0 (x_m x) pc ls st0) st (xQ (x_D x) (x_t x) (x_ad x) (x_sh x) (x_K x) rv M1 (xA (x_ad x) (x_K x) H.size) a) (xA (x_ad x) (x_K x) H.size))
    (kk : J x M1 (pc + 3) L (rv.toList ++ st)) : J x M pc L st0 := by
  intro H locs ls hP hD hS hl T hT X
  obtain ⟨v, st₀, t, T', L', h0, X', hL, e1, e2, ⟨hv, hP1, hD1, hz, hk⟩, stp⟩ := hr H locs ls hP hD hS hl.1 T hT X
  cases hv
  rw [h0] at hz hk
  have hA : ∀ q, xA (x_ad x) (x_K x) H.size q → x_A x q := fun q hq => hq.elim Or.inl (fun z => Or.inr (Nat.le_trans hS.1 z))
  obtain ⟨t2, a1, b1⟩ := kk T'.heap (locs ++ L') ls (by rw [e1]; exact hP1) (xW_D hD1 (fun k h9 => xA_in h9))
    ⟨Nat.le_trans hS.1 (by rw [e1]; exact hz), fun q h1 h2 => by rw [e1, hk q (Nat.lt_of_lt_of_le h1 hS.1) (fun z => h2 (hA q z))]; exact hS.2.1 q h1 h2, fun q hq => by
      rcases List.mem_append.mp hq with h | h
      · exact hS.2.2 q h
      · exact hA _ (hL q h)⟩ hl T' rfl X'
  exact ⟨t2, stp t2 a1, b1⟩
abbrev okD (y : MethodName) (nn : Nat) : Prop := y.cls ≠ "java/lang/invoke/MethodHandle" ∧ y.cls ≠ "java/lang/invoke/VarHandle" ∧ (parseMethodDescriptor y.desc).map (fun d => d.parameters.length) = some nn
theorem r_callV (C : Ct x own cc n rm) (hN : NS x) {y : MethodName} {ccy : ByteArray} {ny idx nn : Nat} {ret : Option FieldType} {rmy : Room} {As : List Value} {k0 ci : Nat} {fs : List Value} {q : vw_C} {rv : Option Value}
    (hM : xMet (x_l x) y ccy ny ret rmy (.ref (x_ad x k0) :: As) (x_D x) (x_t x) (x_ad x) (x_sh x) (x_K x) M rv M1)
    (hw : Cond.methodLink own idx y ∈ bW ∧ Cond.instanceMethod y ∈ bW ∧ Cond.selects q.1 y y ∈ bW ∧ Cond.initialized q.1 ∈ bW ∧ Cond.code y ccy ny ret ∈ bW) (hd : y.cls = q.1 ∧ okD y nn) (hR : rmy.cells = 0 ∧ rmy.slots = 0 ∧ rmy.frames + 1 ≤ rm.frames ∧ 8 + (ny + 11) + rmy.locals ≤ rm.locals)
    (hk : k0 < x_K x) (hs : x_sh x k0 (M k0) = .inr (ci, fs)) (hc : vwCl[ci]? = some q) (hn : As.length = nn) (hst : st0 = As.reverse ++ .ref (x_ad x k0) :: st) (hcat : (st.map fun v => v.category).sum ≤ 8) (d : decode cc pc = .ok (.invokevirtual idx, 3))
    (kk : J x M1 (pc + 3) L (rv.toList ++ st)) : J x M pc L st0 := by
  obtain ⟨w1, w2, w3, w4, w5⟩ := hw
  refine r_run rv (Value.ref (x_ad x k0) :: As).toArray (fun H locs ls hP hD hS hsz => ?_) kk
  exact va_runV (Ts := bW) (As := As) (rest := st) ⟨C.1, C.2.1, C.2.2.1, C.2.2.2.1, C.2.2.2.2.1⟩ (hM H.size) (cwV nn C.2.2.2.2.1 (bw_good (fun w h => by
    simp only [wsV, List.mem_append, List.mem_cons, List.not_mem_nil, or_false] at h
    rcases h with (rfl | rfl | rfl | rfl) | rfl | h <;> assumption)) rfl hR.1 hR.2.1 hd (by rw [C.2.2.2.2.2.2.2.2]; exact hR.2.2)) ⟨xPre_blind, va_recv C.2.2.2.2.2.1 hP hc ((xW_get hk).trans (by rw [hs])), fun U hU hW => xPre_at C hN hS hP hD U hU hW⟩ rfl hn (hsz.trans C.2.2.2.2.2.2.2.1) hst (by simpa [JFrame.monitorRoom] using hcat) d ⟨Nat.zero_le _, Nat.zero_le _⟩
theorem r_callS (C : Ct x own cc n rm) (hN : NS x) {y : MethodName} {ccy : ByteArray} {ny idx nn : Nat} {ret : Option FieldType} {rmy : Room} {As : List Value} {rv : Option Value}
    (hM : xMet (x_l x) y ccy ny ret rmy As (x_D x) (x_t x) (x_ad x) (x_sh x) (x_K x) M rv M1)
    (hw : Cond.methodLink own idx y ∈ bW ∧ Cond.static y ∈ bW ∧ Cond.initialized own ∈ bW ∧ Cond.code y ccy ny ret ∈ bW) (hd : y.cls = own ∧ okD y nn) (hR : rmy.cells = 0 ∧ rmy.slots = 0 ∧ rmy.frames + 1 ≤ rm.frames ∧ 8 + (ny + 11) + rmy.locals ≤ rm.locals)
    (hn : As.length = nn) (hst : st0 = As.reverse ++ st) (hcat : (st.map fun v => v.category).sum ≤ 8) (d : decode cc pc = .ok (.invokestatic idx, 3))
    (kk : J x M1 (pc + 3) L (rv.toList ++ st)) : J x M pc L st0 := by
  obtain ⟨w1, w2, w3, w4⟩ := hw
  refine r_run rv As.toArray (fun H locs ls hP hD hS hsz => ?_) kk
  exact va_runS (Ts := bW) (As := As) (rest := st) ⟨C.1, C.2.1, C.2.2.1, C.2.2.2.1, C.2.2.2.2.1⟩ (hM H.size) (cwS nn C.2.2.2.2.1 (bw_good (fun w h => by
    simp only [wsS, List.mem_append, List.mem_cons, List.not_mem_nil, or_false] at h
    rcases h with (rfl | rfl | rfl) | rfl | h <;> assumption)) rfl hR.1 hR.2.1 hd (by rw [C.2.2.2.2.2.2.2.2]; exact hR.2.2)) ⟨xPre_blind, fun U hU hW => xPre_at C hN hS hP hD U hU hW⟩ rfl hn (hsz.trans C.2.2.2.2.2.2.2.1) hst (by simpa [JFrame.monitorRoom] using hcat) d ⟨Nat.zero_le _, Nat.zero_le _⟩
theorem r_callSN (C : Ct x own cc n rm) (hN : NS x) {y : MethodName} {host : String} {ccy : ByteArray} {ny idx nn : Nat} {ret : Option FieldType} {rmy : Room} {As : List Value} {rv : Option Value}
    (hM : xMet (x_l x) y ccy ny ret rmy As (x_D x) (x_t x) (x_ad x) (x_sh x) (x_K x) M rv M1)
    (hw : (own, idx, y, host) ∈ nW ∧ Cond.static y ∈ bW ∧ Cond.initialized y.cls ∈ bW ∧ Cond.code y ccy ny ret ∈ bW) (hd : okD y nn) (hR : rmy.cells = 0 ∧ rmy.slots = 0 ∧ rmy.frames + 1 ≤ rm.frames ∧ 8 + (ny + 11) + rmy.locals ≤ rm.locals)
    (hn : As.length = nn) (hst : st0 = As.reverse ++ st) (hcat : (st.map fun v => v.category).sum ≤ 8) (d : decode cc pc = .ok (.invokestatic idx, 3))
    (kk : J x M1 (pc + 3) L (rv.toList ++ st)) : J x M pc L st0 := by
  obtain ⟨w1, w2, w3, w4⟩ := hw
  refine r_run rv As.toArray (fun H locs ls hP hD hS hsz => ?_) kk
  exact va_runSN (Ts := bW) (As := As) (rest := st) ⟨C.1, C.2.1, C.2.2.1, C.2.2.2.1, C.2.2.2.2.1⟩ (hM H.size) ⟨va_cnB nn C.2.2.2.2.1 (bw_good (fun w h => by
    rcases List.mem_cons.mp h with rfl | h <;> assumption)) rfl hR.1 hR.2.1 (hN.1.2.1 _ w1) (C.2.2.2.2.1 _ w3) hd (by rw [C.2.2.2.2.2.2.2.2]; exact hR.2.2), C.2.2.2.2.1 _ w2, trivial⟩ ⟨xPre_blind, fun U hU hW => xPre_at C hN hS hP hD U hU hW⟩ rfl hn (hsz.trans C.2.2.2.2.2.2.2.1) hst (by simpa [JFrame.monitorRoom] using hcat) d ⟨Nat.zero_le _, Nat.zero_le _⟩
end CALLS
