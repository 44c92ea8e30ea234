/-! law's entry: it catches -/
theorem lk_w1 : ∀ w ∈ [Cond.classLink R_law 13 tqN, Cond.methodLink R_law 7 yX10_entry, Cond.instanceMethod yX10_entry, Cond.selects RX10 yX10_entry yX10_entry, Cond.initialized RX10, Cond.code yX10_entry cX10_entry 4 (some .int), Cond.methodLink R_law 117 yL_entry, Cond.static yL_entry, Cond.initialized R_law, Cond.codeWith yL_entry cL_entry 5 (some .int) [(0, 10, 13, 13)]], w ∈ bW := by
  intro w hw
  exact List.mem_filter.mpr ⟨(show ∀ w ∈ [Cond.classLink R_law 13 tqN, Cond.methodLink R_law 7 yX10_entry, Cond.instanceMethod yX10_entry, Cond.selects RX10 yX10_entry yX10_entry, Cond.initialized RX10, Cond.code yX10_entry cX10_entry 4 (some .int), Cond.methodLink R_law 117 yL_entry, Cond.static yL_entry, Cond.initialized R_law, Cond.codeWith yL_entry cL_entry 5 (some .int) [(0, 10, 13, 13)]], w ∈ lw_tbl by decide +kernel) w hw, (show ∀ w ∈ [Cond.classLink R_law 13 tqN, Cond.methodLink R_law 7 yX10_entry, Cond.instanceMethod yX10_entry, Cond.selects RX10 yX10_entry yX10_entry, Cond.initialized RX10, Cond.code yX10_entry cX10_entry 4 (some .int), Cond.methodLink R_law 117 yL_entry, Cond.static yL_entry, Cond.initialized R_law, Cond.codeWith yL_entry cL_entry 5 (some .int) [(0, 10, 13, 13)]], goodWord w = true by decide +kernel) w hw⟩
theorem lk_wi (i : Nat) {w : Cond} (h : [Cond.classLink R_law 13 tqN, Cond.methodLink R_law 7 yX10_entry, Cond.instanceMethod yX10_entry, Cond.selects RX10 yX10_entry yX10_entry, Cond.initialized RX10, Cond.code yX10_entry cX10_entry 4 (some .int), Cond.methodLink R_law 117 yL_entry, Cond.static yL_entry, Cond.initialized R_law, Cond.codeWith yL_entry cL_entry 5 (some .int) [(0, 10, 13, 13)]][i]? = some w) : w ∈ bW := lk_w1 w (List.mem_of_getElem? h)
abbrev rowE (D : va_G) (o : Nat) (v : Int64) : Nat × va_E := (o, .inl (D.1 105, 1, .inr (.inl (fun _ => v))))
abbrev zO (o sz : Nat) : Nat → Prop := fun q => q = o ∨ sz ≤ q
def zPre (D : va_G) (ad : Nat → Nat) (o : Nat) (sb : Nat × Nat) (sz : Nat) (M : xM) (v : Int64) (U : State) : Prop :=
  xPre D (tyC D.1) ad (shC ad D.1) 177 sz M U ∧ va_P D vwCl [rowE D o v] U.heap ∧ va_K D vwCl [(D.1 105, .long)] U ∧ EX sb (zO o sz) U U.heap
def zQ (D : va_G) (o sz : Nat) (k : Int32) (v : Int64) : Array Value → State → Outcome → State → Prop := fun _ st oc t => oc = .returned (some (.int k)) ∧ va_P D vwCl [rowE D o v] t.heap ∧ va_F (zO o sz) st t
def kE9 (r : Option Int32) : Int32 := match r with | some _ => 0 | none => 1
def vE9 (r : Option Int32) (v : Int64) : Int64 := match r with | some a => a.toInt64 | none => v
abbrev rmL : Room := { frames := 8, cells := 1, slots := 6, locals := 140 }
theorem va_D1 {A : Nat → Prop} {q : Nat × va_E} (h : A q.1) : va_D A [q] := by
  refine ⟨fun i j p r hp hr _ => ?_, fun k p hp => ?_⟩
  · have h1 := (List.getElem?_eq_some_iff.mp hp).1
    have h2 := (List.getElem?_eq_some_iff.mp hr).1
    simp at h1 h2
    omega
  · have h1 := (List.getElem?_eq_some_iff.mp hp).1
    simp at h1
    subst h1
    simp at hp
    rw [← hp]; exact h
theorem va_P.keptF {D : va_G} {ws : va_W} {H H1 : Heap} (h : va_P D vwCl ws H) (hk : ∀ (k : Nat) (q : Nat × va_E), ws[k]? = some q → H1[q.1]? = H[q.1]?) : va_P D vwCl ws H1 := fun k q hq => (h k q hq).kept (hk k q hq)
theorem ePre_blind {D : va_G} {ad : Nat → Nat} {sb : Nat × Nat} {sz : Nat} {M : xM} {args : List Value} : FrameBlind (va_Pc args (ePre D ad sb sz M)) := fun a U g mk q => by
  obtain ⟨q0, q1, q2⟩ := q
  exact ⟨q0, (xPre_blind (args := args) a U g mk ⟨q0, q1⟩).2, EX.same (u := U) (U := U.calling g mk a) rfl q2⟩
theorem zPre_blind {D : va_G} {ad : Nat → Nat} {o : Nat} {sb : Nat × Nat} {sz : Nat} {M : xM} {v : Int64} {args : List Value} : FrameBlind (va_Pc args (zPre D ad o sb sz M v)) := fun a U g mk q => by
  obtain ⟨q0, q1, q2, q3, q4⟩ := q
  exact ⟨q0, (xPre_blind (args := args) a U g mk ⟨q0, q1⟩).2, q2, va_K.moved (u := U) (U := U.calling g mk a) (Vm.Alike.refl U.vm) q3, EX.same (u := U) (U := U.calling g mk a) rfl q4⟩
theorem row_one {D : va_G} {o : Nat} {v x : Int64} {H : Heap} (h : va_at D vwCl (o, .inl (D.1 105, 1, .inr (.inl (vp_updL (fun _ => v) (0 : Int32).toNatClampNeg x)))) H) : va_at D vwCl (rowE D o x) H := by
  have h1 : H[o]? = some (arrV (D.1 105) 1 (fun j => .long (vp_updL (fun _ => v) (0 : Int32).toNatClampNeg x j))) := h
  show H[o]? = some (arrV (D.1 105) 1 (fun _ => .long x))
  rw [h1]
  unfold arrV
  have e : (fun j : Fin 1 => Value.long (vp_updL (fun _ => v) (0 : Int32).toNatClampNeg x j.val)) = fun _ => .long x := by
    funext j
    have hj : j.val = 0 := by omega
    have h0 : (0 : Int32).toNatClampNeg = 0 := by decide
    simp [vp_updL, hj, h0]
  rw [e]
set_option maxHeartbeats 4000000 in
theorem m_L_entry (l : Launch) (hl : l.stackTraces = false) (D : va_G) (ad : Nat → Nat) (o : Nat) (sb : Nat × Nat) (M : xM) (v : Int64) (x1 x2 : Int32) {r : Option Int32} (h : f_X10_entry M x1 x2 = some r) (sz : Nat) (ho : o < sz) :
    vx_Met l yL_entry (Cond.codeWith yL_entry cL_entry 5 (some .int) [(0, 10, 13, 13)] :: bW) rmL (va_Pc [.ref (ad 0), .int x1, .int x2, .ref o] (zPre D ad o sb sz M v)) (zQ D o sz (kE9 r) (vE9 r v)) (fun _ _ _ => False) 1 6 (zO o sz) := by
  refine vx_ofWH (cc := cL_entry) (maxL := 5) (ret := some .int) (hh := [(0, 10, 13, 13)]) (by decide) rfl ?_
  intro p e s m args' below meth c s₁ B hml hv
  obtain ⟨rfl, hX0, hrow, hKl, hEX⟩ := hv
  obtain ⟨hsz, hP, hK, hD0, hN, hT0⟩ := hX0
  have hts0 : ∀ w ∈ (Cond.codeWith yL_entry cL_entry 5 (some .int) [(0, 10, 13, 13)] :: bW), w.before [Value.ref (ad 0), .int x1, .int x2, .ref o].toArray s = true := atoms_spec (ws := Cond.codeWith yL_entry cL_entry 5 (some .int) [(0, 10, 13, 13)] :: bW) B.pre
  have hts : ∀ w ∈ bW, w.before [Value.ref (ad 0), .int x1, .int x2, .ref o].toArray s = true := fun w hw => hts0 w (List.mem_cons_of_mem _ hw)
  have htab : c.exceptionTable.toList = tableOf [(0, 10, 13, 13)] := vx_table (x := yL_entry) B (hts0 _ List.mem_cons_self)
  have hown : s.vm.findClass R_law = some m.cls := findClass_of_methodNamed B.named
  have hlocks := B.notSynchronized
  have hx := B.exec
  have hb : c.code = cL_entry := B.bytes
  have hret : meth.sig.returnType = some .int := B.returns
  subst hsz
  have hl5 := lv_entry [Value.ref (ad 0), .int x1, .int x2, .ref o] (n := 5) (Nat.le_of_ble_eq_true rfl)
  rw [lg_entry_eq]
  revert hl5
  generalize ((lg_sl [Value.ref (ad 0), .int x1, .int x2, .ref o] ++ List.replicate (5 - (lg_sl [Value.ref (ad 0), .int x1, .int x2, .ref o]).length) Slot.unset).toArray) = ls
  intro hl5
  have hl5 : lv_has ls 5 [(0, .ref (ad 0)), (1, .int x1), (2, .int x2), (3, .ref o)] := hl5
  have hrun : vx_Run p l e (headSpec (Cond.codeWith yL_entry cL_entry 5 (some .int) [(0, 10, 13, 13)] :: bW) rmL).room s m [Value.ref (ad 0), .int x1, .int x2, .ref o].toArray below meth c s.heap [] 0 0 1 6 (F0 m 5 ls [.int x2, .int x1, .ref (ad 0), .int 0, .ref o]) [.int 0, .ref o] (eQ r s.heap.size (Value.ref (ad 0) :: [.int x1, .int x2]).toArray) (eX r s.heap.size) (eN s.heap.size) := by
    refine vx_runV (Ts := bW) (As := [.int x1, .int x2]) (own := R_law) (nL := 5) (index := 7) ⟨hx, hb, hml, hown, hts⟩ (m_X10_entry l hl D ad sb M x1 x2 h s.heap.size) (cwV 2 hts (bw_good (fun w h => by
      simp only [wsV, List.mem_append, List.mem_cons, List.not_mem_nil, or_false] at h
      rcases h with (rfl | rfl | rfl | rfl) | rfl | h
      · exact lk_wi 1 rfl
      · exact lk_wi 2 rfl
      · exact lk_wi 3 rfl
      · exact lk_wi 4 rfl
      · exact lk_wi 5 rfl
      · exact h)) rfl rfl rfl ⟨rfl, by decide +kernel, by decide +kernel, by decide +kernel⟩ ⟨Nat.le_of_ble_eq_true rfl, Nat.le_of_ble_eq_true rfl⟩) ⟨ePre_blind, va_recv (q := (RX10, TX10, 10)) hK hP (q0 := 0) (ci := 10) rfl ((xW_get (by decide)).trans (by rw [sh_0])), fun U hU hW => ?_⟩ rfl rfl hl5.1 rfl (by simp [JFrame.monitorRoom, Value.category]) dL_entry_5 ⟨Nat.le_of_ble_eq_true rfl, Nat.le_of_ble_eq_true rfl⟩
    refine ⟨rfl, ⟨by rw [hU], by rw [hU]; exact hP, va_K.moved hW.alike hK, hD0, NW.warm hW hN, ?_⟩, ?_⟩
    · rw [hU]; exact hT0.moved hW.alike
    · rw [hU]; exact (hEX.narrow (fun q hq => Or.inr hq)).warm hW
  have keepP : ∀ {ws : va_W} {H1 : Heap}, va_P D vwCl ws s.heap → (∀ q : Nat, q < s.heap.size → ¬ eN s.heap.size q → H1[q]? = s.heap[q]?) → va_P D vwCl ws H1 := fun hp hk => hp.keptF (fun k q hq => hk q.1 (hp k q hq).lt (fun z => by have := (hp k q hq).lt; omega))
  refine lv_aload_n (i := 3) hx hb dL_entry_0 rfl (lv_at hl5 3 rfl) ?_
  refine lv_iconst (v := 0) hx hb dL_entry_1 rfl ?_
  refine lv_aload_n (i := 0) hx hb dL_entry_2 rfl (lv_at hl5 0 rfl) ?_
  refine lv_iload_n (i := 1) hx hb dL_entry_3 rfl (lv_at hl5 1 rfl) ?_
  refine lv_iload_n (i := 2) hx hb dL_entry_4 rfl (lv_at hl5 2 rfl) ?_
  intro T hT X
  rcases hrun T hT X with ⟨rv, st₀, t, T', L', h0, X', hL, e1, e2, ⟨v9, hr9, ho9, hF⟩, stp⟩ | ⟨q, st₀, t, T', L', E, ce, h0, X', hL, e1, e2, ⟨hr9, hE, hF⟩, hce, hcv, hcl, stp⟩
  · cases ho9
    subst hr9
    have hF2 : ∀ q : Nat, q < s.heap.size → ¬ eN s.heap.size q → T'.heap[q]? = s.heap[q]? := fun q h1 h2 => by rw [e1, hF.2 q (by rw [h0]; exact h1) h2, h0]
    have hS1 : va_S (zO o s.heap.size) s.heap T'.heap ([] ++ L') := ⟨by rw [e1]; have := hF.1; rw [h0] at this; exact this, fun q h1 h2 => hF2 q h1 (fun z => h2 (Or.inr z)), fun y hy => Or.inr (hL y (by simpa using hy))⟩
    have K : W p l e (headSpec (Cond.codeWith yL_entry cL_entry 5 (some .int) [(0, 10, 13, 13)] :: bW) rmL).room s m [Value.ref (ad 0), .int x1, .int x2, .ref o].toArray below meth c T'.heap ([] ++ L') (0 + 1) (0 + 6) (vx_MQ below (zQ D o s.heap.size (kE9 (some v9)) (vE9 (some v9) v)) (fun _ _ _ => False) [Value.ref (ad 0), .int x1, .int x2, .ref o].toArray s 1 6 (zO o s.heap.size)) (F0 m 8 ls [.int v9, .int 0, .ref o]) := by
      refine lv_i2l hx hb dL_entry_8 rfl ?_
      refine va_last (cl := vwCl) (D := D) (A := zO o s.heap.size) (H0 := s.heap) hx hb hKl (keepP hrow hF2) (va_D1 (Or.inl rfl)) hS1 0 0 rfl rfl (show ¬ ((0 : Int32) < 0 ∨ 1 ≤ (0 : Int32).toNatClampNeg) by decide) dL_entry_9 (fun H1 locs1 hP1 hD1 hS2 => ?_)
      refine lv_goto (tgt := 17) hx hb dL_entry_10 (by decide) ?_
      refine lv_iconst (v := 0) hx hb dL_entry_17 rfl ?_
      refine vx_ret (W.iret hx hb hret (fun t ht _ => ⟨rfl, ?_, hS2.F ht⟩) hS2.2.2 dL_entry_18 hlocks)
      rw [ht]
      intro k q hq
      have hk := (List.getElem?_eq_some_iff.mp hq).1
      have h9 := hP1 k
      cases k with
      | zero =>
        simp at hq
        subst hq
        have h8 := h9 (o, .inl (D.1 105, 1, .inr (.inl (vp_updL (fun _ => v) (0 : Int32).toNatClampNeg v9.toInt64)))) rfl
        exact row_one h8
      | succ k => simp at hk
    obtain ⟨t2, a1, b1⟩ := K T' rfl X'
    exact ⟨t2, stp t2 a1, b1⟩
  · subst hE
    subst hr9
    have hF2 : ∀ q : Nat, q < s.heap.size → ¬ eN s.heap.size q → T'.heap[q]? = s.heap[q]? := fun q h1 h2 => by rw [e1, hF.2 q (by rw [h0]; exact h1) h2, h0]
    have hS1 : va_S (zO o s.heap.size) s.heap T'.heap ([] ++ L') := ⟨by rw [e1]; have := hF.1; rw [h0] at this; exact this, fun q h1 h2 => hF2 q h1 (fun z => h2 (Or.inr z)), fun y hy => Or.inr (hL y (by simpa using hy))⟩
    have K : vx_W p l e (headSpec (Cond.codeWith yL_entry cL_entry 5 (some .int) [(0, 10, 13, 13)] :: bW) rmL).room s m [Value.ref (ad 0), .int x1, .int x2, .ref o].toArray below meth c T'.heap ([] ++ L') (0 + 1) (0 + 6) (vx_MQ below (zQ D o s.heap.size (kE9 none) (vE9 none v)) (fun _ _ _ => False) [Value.ref (ad 0), .int x1, .int x2, .ref o].toArray s 1 6 (zO o s.heap.size)) (F0 m 5 ls [.int 0, .ref o]) q := by
      refine vx_catch (own := R_law) (name := tqN) (E := tqN) (ce := ce) hown [] _ [] htab (fun z hz => nomatch hz) rfl (by decide) (hts _ (lk_wi 0 rfl)) (hEX.1 _ (by decide) _) (by rw [e1]; exact hce) hcv hcl ?_
      refine lv_astore (i := 4) hx hb dL_entry_13 hl5 (by decide) rfl (fun ls' h' => ?_)
      refine lv_iconst (v := 1) hx hb dL_entry_15 rfl ?_
      exact vx_ret (W.iret hx hb hret (fun t ht _ => ⟨rfl, by rw [ht]; exact keepP hrow hF2, hS1.F ht⟩) hS1.2.2 dL_entry_16 hlocks)
    obtain ⟨t2, a1, b1⟩ := K T' rfl X'
    exact ⟨t2, stp.trans a1, b1⟩
