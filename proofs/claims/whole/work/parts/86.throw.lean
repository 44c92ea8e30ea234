/-! the throw of NoSuchElementException (its own <init> passes on by the link 13): after the library's ctorThrowS, with that pass first, and without what the cell holds -/
abbrev tqN : String := "java/util/NoSuchElementException"
abbrev tqR : String := "java/lang/RuntimeException"
abbrev tqB : ByteArray := prog_35_method_4_code
theorem tqB_0 : decode tqB 0 = .ok (.aload_n 0, 1) := by decide +kernel
theorem tqB_1 : decode tqB 1 = .ok (.aload_n 1, 1) := by decide +kernel
theorem tqB_2 : decode tqB 2 = .ok (.invokespecial 13, 3) := by decide +kernel
theorem tqB_5 : decode tqB 5 = .ok (.return_, 1) := by decide +kernel
/-- the words of the throw -/
def tqA (own : String) (ic : Nat) : List Cond :=
  Bundle.throwableAtoms ++ Bundle.throwableSAtoms ++ (Bundle.passSAtoms tqN tqR 13 tqB ++ Bundle.chainSAtoms tqR ["java/lang/Exception"]) ++
  [.methodLink own ic (Bundle.initS tqN), .instantiable tqN 6, .castable tqN tqN, .selects tqN Bundle.tFill0 Bundle.tFill0, .selects tqN Bundle.tFill Bundle.tFill,
   .lays tqN Bundle.tN "cause" "Ljava/lang/Throwable;", .lays tqN Bundle.tN "stackTrace" Bundle.steD, .lays tqN Bundle.tN "suppressedExceptions" Bundle.listD, .lays tqN Bundle.tN "detailMessage" "Ljava/lang/String;",
   .isRef (.static Bundle.tN "UNASSIGNED_STACK" Bundle.steD), .isRef (.static Bundle.tN "SUPPRESSED_SENTINEL" Bundle.listD),
   .fieldLink Bundle.tN 198 Bundle.tN "backtrace" "Ljava/lang/Object;", .lays Bundle.tN Bundle.tN "backtrace" "Ljava/lang/Object;", .lays tqN Bundle.tN "backtrace" "Ljava/lang/Object;"]
section TQA
variable {p : Program} {l : Launch} {e : Env} {R : Room} {s : State} {m₀ : MethodId} {args : Array Value} {below : List Frame} {meth : Method} {c : Code} {V0 : State} {locs : List Loc} {cells slots : Nat}
set_option maxHeartbeats 4000000 in
theorem tq_ctor (X : Stand p l e R s m₀ args below meth c V0 locs cells slots) (hexec : p.tables.exec = Jvm.exec) (htr : e.platform.stackTraces = false) {own : String} {ic : Nat}
    (hown : s.vm.findClass own = some m₀.cls) (h : ∀ a ∈ tqA own ic, a.before args s = true)
    (hlocs : ∀ x ∈ locs, ∀ cell, s.heap[x.base]? = some cell → cell.vm.isStatics = false)
    {a : Addr} {cX : ClassId} {kX : Class} (hfoundX : s.vm.findClass tqN = some cX) (hkX : s.vm.classes[cX]? = some kX) (hcell : V0.heap[a]? = some (freshCell cX kX)) (hnew : s.heap.size ≤ a)
    {msg : Value} (hmsg : msg.isRef = true)
    {g : JFrame} (hg : g.method = m₀) (hsize : g.locals.size = c.maxLocals) (hlocked : g.locked = none) (hentered : g.entered = []) {rest : List Value} (hstack : g.stack = msg :: .ref a :: .ref a :: rest)
    (hd6 : decode c.code g.pc = .ok (.invokespecial ic, 3)) (hd9 : decode c.code (g.pc + 3) = .ok (.athrow, 1)) (hout : ∀ x ∈ c.exceptionTable.toList, covers x (g.pc + 3) = false)
    (hRframes : 5 < R.frames) (hRlocals : 2 * g.monitorRoom + ((Value.ref a :: rest).map fun v => v.category).sum + 81 ≤ R.locals) (hlocks : meth.locks = false) :
    ∃ U : State, Steps p.tables e below (V0.setTop g) U ∧ U.status = .running ∧ Ended U below (.threw a) ∧ s.WarmedH U.vm ∧ s.sameButNew ({ U with vm := s.vm } : State) locs cells slots ∧
      ∃ ce, U.heap[a]? = some ce ∧ ce.vm = .none ∧ s.vm.findClass tqN = some ce.cls := by
  have howns : e.platform.frameOwnsMonitors = true := by rw [X.admits.platform]
  have hfin : e.platform.finalization = false := by rw [X.admits.platform]
  have hpl : e.platform.magicAccessors = ({} : Platform).magicAccessors := by rw [X.admits.platform]
  have a' : ∀ x, x ∈ tqA own ic → x.holds args s none s [] = true := fun x hx => h x hx
  obtain ⟨T, Z0, L, -, Y⟩ := ThrowableC.of_atoms (args := args) howns hfin hpl (fun x hx => h x (by simp [tqA, hx]))
  obtain ⟨Z, M, LZ, LM, hnZ⟩ := Init0T.ofS_atoms (args := args) hpl L Y (fun x hx => h x (by simp [tqA, hx]))
  obtain ⟨P1, L1, hP1m, hs1⟩ := PassC.ofS_atoms (args := args) (s := s) hpl (X := tqN) (Y := tqR) (by decide +kernel) (by decide +kernel) tqB_0 tqB_1 tqB_2 tqB_5 (fun x hx => h x (by simp [tqA, hx]))
  obtain ⟨P2, Ps0, hlen0, L2, hL0, hP2m, hlk2, hpass0⟩ := Bundle.chainS (args := args) hpl hnZ ["java/lang/Exception"] tqR (by decide +kernel) (by decide +kernel) (fun x hx => h x (by simp [tqA, hx]))
  obtain ⟨Ps, hPs⟩ : ∃ z, z = P2 :: Ps0 := ⟨_, rfl⟩
  have hlen : Ps.length = 2 := by rw [hPs]; simp [hlen0]
  have hL : ∀ P, P ∈ Ps → P.LinksS e.platform s := fun P hP => by
    rw [hPs] at hP
    rcases List.mem_cons.mp hP with rfl | hP
    · exact L2
    · exact hL0 P hP
  have hlink1 : P1.sup = firstOf (Z.m T.toThrowableT) (Ps.map (·.toPassT)) := by rw [hPs]; exact Option.some.inj (hs1.symm.trans hP2m)
  have hlink : PassesOn (Z.m T.toThrowableT) (Ps.map (·.toPassT)) := by rw [hPs]; exact ⟨hlk2, hpass0⟩
  have hfound : s.vm.findClass tqN = some P1.m.cls := findClass_of_methodNamed hP1m
  cases Option.some.inj (hfoundX.symm.trans hfound)
  obtain ⟨c1, kX', hc1, hk, hord, -, -, hn6⟩ := Cond.instantiable_spec (a' (.instantiable tqN 6) (by simp [tqA]))
  cases Option.some.inj (hc1.symm.trans hfound)
  cases Option.some.inj (hkX.symm.trans hk)
  have hsel0 : selectMethod e.platform s.vm P1.m.cls T.fill0 = .method T.fill0 := by
    obtain ⟨c2, r2, m2, q1, q2, q3, q4, -⟩ := Cond.selects_spec (a' (.selects tqN Bundle.tFill0 Bundle.tFill0) (by simp [tqA]))
    cases Option.some.inj (q1.symm.trans hfound)
    cases Option.some.inj (q2.symm.trans (State.methodFound?_of_named Y.fill0 (by decide)))
    cases Option.some.inj (q3.symm.trans Y.fill0)
    rw [Launch.admits_selectMethod X.admits]; exact q4
  have hselF : selectMethod e.platform s.vm P1.m.cls T.fill = .method T.fill := by
    obtain ⟨c2, r2, m2, q1, q2, q3, q4, -⟩ := Cond.selects_spec (a' (.selects tqN Bundle.tFill Bundle.tFill) (by simp [tqA]))
    cases Option.some.inj (q1.symm.trans hfound)
    cases Option.some.inj (q2.symm.trans (State.methodFound?_of_named Y.fill (by decide)))
    cases Option.some.inj (q3.symm.trans Y.fill)
    rw [Launch.admits_selectMethod X.admits]; exact q4
  obtain ⟨cellS0, hcS0, hiss⟩ := Y.statics
  obtain ⟨u0, hu0⟩ := Cond.staticRefV Y.unassigned L.unassignedStatic L.statics hcS0 hiss (a' (.isRef (.static Bundle.tN "UNASSIGNED_STACK" Bundle.steD)) (by simp [tqA]))
  obtain ⟨sen, hsen⟩ := Cond.staticRefV Y.sentinel L.sentinelStatic L.statics hcS0 hiss (a' (.isRef (.static Bundle.tN "SUPPRESSED_SENTINEL" Bundle.listD)) (by simp [tqA]))
  obtain ⟨ci198, i198, fB, hk198, hg198, ha198, hsB, -, hnB, htB, hffB⟩ := Cond.ownField (t := .object "java/lang/Object") Y.found L.cls (by decide +kernel) (a' (.fieldLink Bundle.tN 198 Bundle.tN "backtrace" "Ljava/lang/Object;") (by simp [tqA])) (a' (.lays Bundle.tN Bundle.tN "backtrace" "Ljava/lang/Object;") (by simp [tqA])) e.platform hpl
  obtain ⟨cellS, hcS', heS, -, hkeep⟩ := X.same.2.2.2.2.2 T.aS cellS0 hcS0
  have hcellS : V0.heap[T.aS]? = some cellS := hcS'
  have hout' : ∀ i, (⟨T.aS, i⟩ : Loc) ∉ locs := fun i hmem => by
    have := hlocs _ hmem cellS0 hcS0
    rw [hiss] at this; cases this
  have hknownS : cellS.vm ≠ .unknown := by
    rw [heS]; intro hu
    rw [show cellS0.vm = .unknown from hu] at hiss
    cases hiss
  have hneS : T.aS ≠ a := Nat.ne_of_lt (Nat.lt_of_lt_of_le (Array.getElem?_eq_some_iff.mp hcS0).1 hnew)
  obtain ⟨iM, hffM⟩ := Y.msg
  obtain ⟨tyC, dC, hdC, hdnC⟩ := Cond.laysAt hfound hk Y.cause (a' (.lays tqN Bundle.tN "cause" "Ljava/lang/Throwable;") (by simp [tqA]))
  obtain ⟨tyS, dS, hdS, hdnS⟩ := Cond.laysAt hfound hk Y.stack (a' (.lays tqN Bundle.tN "stackTrace" Bundle.steD) (by simp [tqA]))
  obtain ⟨tyP, dP, hdP, hdnP⟩ := Cond.laysAt hfound hk Y.supp (a' (.lays tqN Bundle.tN "suppressedExceptions" Bundle.listD) (by simp [tqA]))
  obtain ⟨tyM, dM, hdM, hdnM⟩ := Cond.laysAt hfound hk hffM (a' (.lays tqN Bundle.tN "detailMessage" "Ljava/lang/String;") (by simp [tqA]))
  obtain ⟨tyB, dB, hdB, hdnB⟩ := Cond.laysAt hfound hk hffB (a' (.lays tqN Bundle.tN "backtrace" "Ljava/lang/Object;") (by simp [tqA]))
  have bC := Cond.laysApart hdB hdC hdnB hdnC (by rw [hnB, Y.causeName]; decide)
  have bS := Cond.laysApart hdB hdS hdnB hdnS (by rw [hnB, Y.stackName]; decide)
  have bP := Cond.laysApart hdB hdP hdnB hdnP (by rw [hnB, Y.suppName]; decide)
  have hskip : SkipFacts T e.platform s (fun u => u) u0 ((preparedCellV T.toThrowableT (freshCell P1.m.cls kX) a u0 sen).withEntry V0.cur) :=
    ⟨{ ci198 := ci198, i198 := i198, fBack := fB }, ⟨hk198, hg198, ha198, hsB⟩, by
      have := fresh_default (c := P1.m.cls) tyB
      rw [htB] at this
      simpa [preparedCellV, Cell.setSlot, Cell.withEntry, Array.getElem?_setIfInBounds, bC, bS, bP, bC.symm, bS.symm, bP.symm, defaultValue] using this, fun _ _ => rfl⟩
  obtain ⟨tm, methC, cdC, kC, vm₁, hnC, -, -, -, -, -, -, -, hW₁, st1⟩ := Steps.initColdS (tb := p.tables) (e := e) (below := below) (s := s) (U := V0) X.here hexec X.warmed hpl hown (t := Bundle.initS tqN) rfl rfl (by decide +kernel)
    (a' (.methodLink own ic (Bundle.initS tqN)) (by simp [tqA])) (h (.instanceMethod (Bundle.initS tqN)) (by simp [tqA, Bundle.passSAtoms])) (bytes := tqB) (maxL := 2) (h (.code (Bundle.initS tqN) tqB 2 none) (by simp [tqA, Bundle.passSAtoms]))
    (f := g) hg (a := a) (msg := msg) (rest := .ref a :: rest) hstack hd6
  cases Option.some.inj (hnC.symm.trans hP1m)
  have X₁ := X.noted hW₁
  obtain ⟨vm₂, X₂, st2⟩ := X₁.ctorMessageOffV hexec (g := { g with stack := .ref a :: rest }) hg hsize T L Z LZ M LM (P1 :: Ps)
    (fun P hP => by rcases List.mem_cons.mp hP with rfl | hP; exact L1; exact hL P hP) ⟨hlink1, hlink⟩ (u0 := u0) (sen := sen) (self := a) hmsg (cell := freshCell P1.m.cls kX) (cellS := cellS)
    hcell (fun _ => by simp) (by simp) rfl rfl hsel0 hselF hcellS hneS hknownS (by rw [hkeep _ (hout' _)]; exact hu0) (by rw [hkeep _ (hout' _)]; exact hsen)
    (Takes.of_laid hk hord tyC (by rw [Y.causeType]; rfl)) (Takes.of_laid hk hord tyS (by rw [Y.stackType]; exact fits_refV_array _ u0)) (Takes.of_laid hk hord tyP (by rw [Y.suppType]; exact fits_refV_object _ sen))
    (Takes.of_laid hk hord tyM (by rw [Y.msgType]; exact fits_refV_object _ ⟨msg, hmsg⟩)) Y.objLocals hskip htr [] hd6
    (by simp only [List.length_cons, hlen]; omega) (by simp only [List.length_cons, hlen]; exact hRlocals)
  obtain ⟨hwalk, hrun, hended, hWU, hsame⟩ := X₂.athrowLeaves hexec (g := { g with stack := .ref a :: rest, pc := g.pc + 3 }) hg hlocked hentered hout (a := a) (rest := rest) rfl hd9
  have hlt : a < ((V0.setVm vm₁).setVm vm₂).heap.size := (Array.getElem?_eq_some_iff.mp hcell).1
  have hU := heapAt_setCell_self (s := (V0.setVm vm₁).setVm vm₂) (plainBareV T.toThrowableT (freshCell P1.m.cls kX) a u0 sen msg) hlt
  refine ⟨_, st1 _ (fun acts => ?_), hrun, hended, hWU, hsame.weaken (fun y hy hlt' => ?_) (Nat.le_refl _) (Nat.le_refl _), _, hU, rfl, hfound⟩
  · rw [doInvoke_state]
    exact st2 _ hwalk
  · rcases List.mem_append.mp hy with h1 | h1
    · exact h1
    · exfalso
      have hb : y.base = a := by
        simp only [List.mem_cons, List.not_mem_nil, or_false] at h1
        rcases h1 with rfl | rfl | rfl | rfl | rfl <;> rfl
      rw [hb] at hlt'
      exact Nat.not_lt.mpr hnew hlt'
end TQA
theorem vt_sf {l : Launch} (h : l.flags = flags0) : l.stackTraces = false := by
  rw [Launch.stackTraces, h]; decide +kernel
/-- the words that the tables decide, not among the good ones -/
def xeW : List Cond := [.declares (Bundle.initS tqR), .declares (Bundle.initS "java/lang/Exception"), .declares (Bundle.initS Bundle.tN), .castable tqN tqN]
theorem xeW_in : ∀ w ∈ xeW, w ∈ lw_tbl := by decide +kernel
theorem tqA_in : ∀ w ∈ ((tqA RX10 253).filter vx_no).filter goodWord, w ∈ lw_tbl := by decide +kernel
theorem tqA_ng : ∀ w ∈ ((tqA RX10 253).filter vx_no).filter (fun w => !goodWord w), w ∈ xeW := by decide +kernel
theorem tqA_ot : ∀ w ∈ Cond.classLink RX10 249 tqN :: Cond.initialized tqN :: (tqA RX10 253).filter vx_no, vx_ot w = true := by decide +kernel
/-- what a throw needs beside the good words -/
def EX (sa : Nat × Nat) (A : Nat → Prop) (U : State) (H : Heap) : Prop :=
  (∀ w ∈ xeW, ∀ a : Array Value, w.before a U = true) ∧ (vk_R RX10 251 "no such ENTRY" sa.1 U ∧ vk_R RX10 268 "no such what" sa.2 U) ∧ (vx_Zq Bundle.tN "UNASSIGNED_STACK" Bundle.steD A U H ∧ vx_Zq Bundle.tN "SUPPRESSED_SENTINEL" Bundle.listD A U H)
theorem xeW_warm {s U : State} (hW : s.WarmedH U.vm) (h : ∀ w ∈ xeW, ∀ a : Array Value, w.before a s = true) : ∀ w ∈ xeW, ∀ a : Array Value, w.before a U = true := by
  have key : ∀ w ∈ xeW, ∀ a : Array Value, w.before a (s.setVm U.vm) = true := by
    intro w hw a
    have h0 := h w hw a
    simp only [xeW, List.mem_cons, List.not_mem_nil, or_false] at hw
    rcases hw with rfl | rfl | rfl | rfl
    · rw [Cond.declares_setVm hW.alike]; exact h0
    · rw [Cond.declares_setVm hW.alike]; exact h0
    · rw [Cond.declares_setVm hW.alike]; exact h0
    · rw [Cond.castable_setVm hW.alike]; exact h0
  intro w hw a
  exact va_tabs (u := s.setVm U.vm) ((show ∀ w ∈ xeW, w.onTables = true by decide +kernel) w hw) rfl (key w hw a)
theorem EX.warm {sa : Nat × Nat} {A : Nat → Prop} {s U : State} {H : Heap} (hW : s.WarmedH U.vm) (h : EX sa A s H) : EX sa A U H :=
  ⟨xeW_warm hW h.1, ⟨vk_R.warm hW h.2.1.1, vk_R.warm hW h.2.1.2⟩, ⟨vx_Zq.moved hW.alike h.2.2.1, vx_Zq.moved hW.alike h.2.2.2⟩⟩
theorem EX.same {sa : Nat × Nat} {A : Nat → Prop} {u U : State} {H : Heap} (e : u.vm = U.vm) (h : EX sa A u H) : EX sa A U H :=
  EX.warm (by rw [← e]; exact State.WarmedH.refl u) h
theorem EX.kept {sa : Nat × Nat} {A : Nat → Prop} {U : State} {H H1 : Heap} (h : EX sa A U H) (v : ∀ a : Nat, a < H.size → ¬ A a → H1[a]? = H[a]?) : EX sa A U H1 :=
  ⟨h.1, h.2.1, ⟨h.2.2.1.kept v, h.2.2.2.kept v⟩⟩
theorem EX.narrow {sa : Nat × Nat} {A B : Nat → Prop} {U : State} {H : Heap} (h : EX sa A U H) (v : ∀ q, B q → A q) : EX sa B U H :=
  ⟨h.1, h.2.1, ⟨h.2.2.1.narrow v, h.2.2.2.narrow v⟩⟩
