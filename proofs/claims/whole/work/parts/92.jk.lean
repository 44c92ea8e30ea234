/-! constructors: the world grows: cells in a row from the address b on, told by a list -/
def xl (b : Nat) (es : List va_E) : va_W := es.mapIdx fun i e => (b + i, e)
theorem xl_get {b : Nat} {es : List va_E} {k : Nat} : (xl b es)[k]? = (es[k]?).map fun e => (b + k, e) := by simp [xl]
theorem xl_at {b : Nat} {es : List va_E} {k : Nat} {e : va_E} (h : es[k]? = some e) : (xl b es)[k]? = some (b + k, e) := by rw [xl_get, h]; rfl
theorem xl_len {b : Nat} {es : List va_E} : (xl b es).length = es.length := by simp [xl]
theorem xl_set {b : Nat} {es : List va_E} {k : Nat} {e : va_E} : (xl b es).set k (b + k, e) = xl b (es.set k e) := by
  apply List.ext_getElem?
  intro i
  rw [xl_get]
  by_cases h : i = k
  · subst h
    by_cases hk : i < es.length
    · rw [List.getElem?_set_self (by rw [xl_len]; exact hk), List.getElem?_set_self hk]; rfl
    · rw [List.getElem?_eq_none (by rw [List.length_set, xl_len]; omega), List.getElem?_eq_none (by rw [List.length_set]; omega)]; rfl
  · rw [List.getElem?_set_ne (Ne.symm h), List.getElem?_set_ne (Ne.symm h), xl_get]
theorem xl_app {b : Nat} {es fs : List va_E} : xl b (es ++ fs) = xl b es ++ xl (b + es.length) fs := by
  apply List.ext_getElem?
  intro i
  rw [xl_get]
  by_cases h : i < es.length
  · rw [List.getElem?_append_left h, List.getElem?_append_left (by rw [xl_len]; exact h), xl_get]
  · rw [List.getElem?_append_right (by omega), List.getElem?_append_right (by rw [xl_len]; omega), xl_get, xl_len, show b + es.length + (i - es.length) = b + i by omega]
theorem xl_D {A : Nat → Prop} {b : Nat} {es : List va_E} (hA : ∀ q, b ≤ q → A q) : va_D A (xl b es) := by
  refine ⟨fun i j p q hp hq e => ?_, fun k q hq => ?_⟩
  · rw [xl_get] at hp hq
    cases h1 : es[i]? with
    | none => rw [h1] at hp; cases hp
    | some x =>
      cases h2 : es[j]? with
      | none => rw [h2] at hq; cases hq
      | some y =>
        rw [h1] at hp; rw [h2] at hq
        cases hp; cases hq
        have e : b + i = b + j := e
        omega
  · rw [xl_get] at hq
    cases h1 : es[k]? with
    | none => rw [h1] at hq; cases hq
    | some x => rw [h1] at hq; cases hq; exact hA _ (Nat.le_add_right _ _)
theorem xl_keep {D : va_G} {b : Nat} {es : List va_E} {H H1 : Heap} (h : va_P D vwCl (xl b es) H) (hk : ∀ q : Nat, q < b + es.length → H1[q]? = H[q]?) : va_P D vwCl (xl b es) H1 := h.keptF (fun k q hq => by
  have hl := (List.getElem?_eq_some_iff.mp hq).1
  rw [xl_len] at hl
  rw [xl_get] at hq
  cases h1 : es[k]? with
  | none => rw [h1] at hq; cases hq
  | some x => rw [h1] at hq; cases hq; exact hk _ (by show b + k < _; omega))
abbrev kC : Type := (Program × Launch × Env × Room × State) × (MethodId × Array Value × List Frame × Method × Code) × va_G × ((Nat → Nat) × Nat × Nat) × (State → Prop)
abbrev k_p (x : kC) : Program := x.1.1
abbrev k_l (x : kC) : Launch := x.1.2.1
abbrev k_e (x : kC) : Env := x.1.2.2.1
abbrev k_R (x : kC) : Room := x.1.2.2.2.1
abbrev k_s (x : kC) : State := x.1.2.2.2.2
abbrev k_m (x : kC) : MethodId := x.2.1.1
abbrev k_a (x : kC) : Array Value := x.2.1.2.1
abbrev k_be (x : kC) : List Frame := x.2.1.2.2.1
abbrev k_me (x : kC) : Method := x.2.1.2.2.2.1
abbrev k_c (x : kC) : Code := x.2.1.2.2.2.2
abbrev k_D (x : kC) : va_G := x.2.2.1
abbrev k_ad (x : kC) : Nat → Nat := x.2.2.2.1.1
abbrev k_b (x : kC) : Nat := x.2.2.2.1.2.1
abbrev k_n (x : kC) : Nat := x.2.2.2.1.2.2
abbrev k_Q (x : kC) : State → Prop := x.2.2.2.2
abbrev k_A (x : kC) : Nat → Prop := fun q => k_b x ≤ q
def JK (x : kC) (cs ss : Nat) (es : List va_E) (pc : Nat) (L : List (Nat × Value)) (st : List Value) : Prop :=
  ∀ (H : Heap) (locs : List Loc) (ls : Array Slot), (H.size = k_b x + es.length ∧ (k_s x).heap.size + cs = k_b x + es.length) → va_P (k_D x) vwCl (xl (k_b x) es) H → va_S (k_A x) (k_s x).heap H locs → lv_has ls (k_n x) L →
    W (k_p x) (k_l x) (k_e x) (k_R x) (k_s x) (k_m x) (k_a x) (k_be x) (k_me x) (k_c x) H locs cs ss (k_Q x) (F0 (k_m x) pc ls st)
abbrev ty6 (c : Nat → ClassId) : List (ClassId × FieldType) := [(c 100, .int), (c 101, .boolean), (c 102, .object RX8), (c 103, .object RX2), (c 104, .object RX3), (c 105, .long)]
def nI8 : List (String × Nat × MethodName × String) := [(RX10, 9, yX7_init, RX10), (RX10, 18, yX6_init, RX10), (RX10, 39, yX0_init, RX10), (RX10, 50, yX9_init, RX10), (RX10, 57, yX4_init, RX10), (RX1, 64, yX8_init, RX10), (RX1, 65, yX2_init, RX10), (RX1, 66, yX3_init, RX10)]
/-- words on nest mates and on arrays that constructors need -/
def NK (U : State) : Prop := (∀ q ∈ nI8, va_Nw (.methodLinkNest q.1 q.2.1 q.2.2.1 q.2.2.2) U) ∧ va_AO RX8 U ∧ va_AO RX2 U ∧ va_AO RX3 U
theorem NK.warm {s U : State} (hW : s.WarmedH U.vm) (h : NK s) : NK U := ⟨fun q hq => va_Nw.warmM hW (h.1 q hq), h.2.1.moved hW.alike, h.2.2.1.moved hW.alike, h.2.2.2.moved hW.alike⟩
theorem NK.same {u U : State} (e : u.vm = U.vm) (h : NK u) : NK U := NK.warm (by rw [← e]; exact State.WarmedH.refl u) h
abbrev CtK (x : kC) (own : String) (cc : ByteArray) (n : Nat) (rm : Room) : Prop :=
  (k_p x).tables.exec = Jvm.exec ∧ (k_c x).code = cc ∧ (k_c x).maxLocals = n ∧ (k_s x).vm.findClass own = some (k_m x).cls ∧ (∀ w ∈ bW, w.before (k_a x) (k_s x) = true) ∧ va_K (k_D x) vwCl (ty6 (k_D x).1) (k_s x) ∧ (k_me x).locks = false ∧ k_n x = n ∧ k_R x = rm ∧ (NW (k_ad x) (k_s x) ∧ NK (k_s x)) ∧ St (k_ad x) (k_A x) (k_s x) (k_s x).heap
section KRULES
variable {x : kC} {own : String} {cc : ByteArray} {n : Nat} {rm : Room} {cs ss : Nat} {es : List va_E} {pc : Nat} {L : List (Nat × Value)} {st : List Value}
theorem k_sub {L' : List (Nat × Value)} (ks : List Nat) (hl : lv_pick L ks = L') (k : JK x cs ss es pc L' st) : JK x cs ss es pc L st := fun H locs ls hz hP hS h => k H locs ls hz hP hS (lv_sub h ks hl)
theorem k_iconst (C : CtK x own cc n rm) {y : Int} {v : Int32} (d : decode cc pc = .ok (.iconst y, 1)) (hv : Int32.ofInt y = v) (k : JK x cs ss es (pc + 1) L (.int v :: st)) : JK x cs ss es pc L st := fun H locs ls hz hP hS h => lv_iconst C.1 C.2.1 d hv (k H locs ls hz hP hS h)
theorem k_bipush (C : CtK x own cc n rm) {y : Int} {v : Int32} (d : decode cc pc = .ok (.bipush y, 2)) (hv : (Int8.ofInt y).toInt32 = v) (k : JK x cs ss es (pc + 2) L (.int v :: st)) : JK x cs ss es pc L st := fun H locs ls hz hP hS h => lv_bipush C.1 C.2.1 d hv (k H locs ls hz hP hS h)
theorem k_sipush (C : CtK x own cc n rm) {y : Int} {v : Int32} (d : decode cc pc = .ok (.sipush y, 3)) (hv : (Int16.ofInt y).toInt32 = v) (k : JK x cs ss es (pc + 3) L (.int v :: st)) : JK x cs ss es pc L st := fun H locs ls hz hP hS h => lv_sipush C.1 C.2.1 d hv (k H locs ls hz hP hS h)
theorem k_iload_n (C : CtK x own cc n rm) {i : Fin 4} {a : Nat} {v : Int32} (q : Nat) (d : decode cc pc = .ok (.iload_n i, 1)) (hi : (i : Nat) = a) (hq : L[q]? = some (a, .int v)) (k : JK x cs ss es (pc + 1) L (.int v :: st)) : JK x cs ss es pc L st := fun H locs ls hz hP hS h => lv_iload_n C.1 C.2.1 d hi (lv_at h q hq) (k H locs ls hz hP hS h)
theorem k_aload_n (C : CtK x own cc n rm) {i : Fin 4} {a v : Nat} (q : Nat) (d : decode cc pc = .ok (.aload_n i, 1)) (hi : (i : Nat) = a) (hq : L[q]? = some (a, .ref v)) (k : JK x cs ss es (pc + 1) L (.ref v :: st)) : JK x cs ss es pc L st := fun H locs ls hz hP hS h => lv_aload_n C.1 C.2.1 d hi (lv_at h q hq) (k H locs ls hz hP hS h)
theorem k_istore_n (C : CtK x own cc n rm) {i : Fin 4} {a : Nat} {v : Int32} (L' : List (Nat × Value)) (d : decode cc pc = .ok (.istore_n i, 1)) (hi : (i : Nat) = a) (hn : a < n) (hl : (a, Value.int v) :: L.filter (fun q => !(q.1 == a) && !(q.1 + 1 == a && q.2.category == 2)) = L') (k : JK x cs ss es (pc + 1) L' st) : JK x cs ss es pc L (.int v :: st) := fun H locs ls hz hP hS h => lv_istore_n C.1 C.2.1 d hi h (by rw [C.2.2.2.2.2.2.2.1]; exact hn) hl (fun ls' h' => k H locs ls' hz hP hS h')
theorem k_istore (C : CtK x own cc n rm) {a : Nat} {v : Int32} (L' : List (Nat × Value)) (d : decode cc pc = .ok (.istore a, 2)) (hn : a < n) (hl : (a, Value.int v) :: L.filter (fun q => !(q.1 == a) && !(q.1 + 1 == a && q.2.category == 2)) = L') (k : JK x cs ss es (pc + 2) L' st) : JK x cs ss es pc L (.int v :: st) := fun H locs ls hz hP hS h => lv_istore C.1 C.2.1 d h (by rw [C.2.2.2.2.2.2.2.1]; exact hn) hl (fun ls' h' => k H locs ls' hz hP hS h')
theorem k_astore_n (C : CtK x own cc n rm) {i : Fin 4} {a v : Nat} (L' : List (Nat × Value)) (d : decode cc pc = .ok (.astore_n i, 1)) (hi : (i : Nat) = a) (hn : a < n) (hl : (a, Value.ref v) :: L.filter (fun q => !(q.1 == a) && !(q.1 + 1 == a && q.2.category == 2)) = L') (k : JK x cs ss es (pc + 1) L' st) : JK x cs ss es pc L (.ref v :: st) := fun H locs ls hz hP hS h => lv_astore_n C.1 C.2.1 d hi h (by rw [C.2.2.2.2.2.2.2.1]; exact hn) hl (fun ls' h' => k H locs ls' hz hP hS h')
theorem k_iinc (C : CtK x own cc n rm) {a : Nat} {y : Int} {u w : Int32} (q : Nat) (L' : List (Nat × Value)) (d : decode cc pc = .ok (.iinc a y, 3)) (hq : L[q]? = some (a, .int u)) (e : u + Int32.ofInt y = w) (hn : a < n) (hl : (a, Value.int w) :: L.filter (fun q => !(q.1 == a) && !(q.1 + 1 == a && q.2.category == 2)) = L') (k : JK x cs ss es (pc + 3) L' st) : JK x cs ss es pc L st := fun H locs ls hz hP hS h => lv_iinc C.1 C.2.1 d h hq e (by rw [C.2.2.2.2.2.2.2.1]; exact hn) hl (fun ls' h' => k H locs ls' hz hP hS h')
theorem k_goto (C : CtK x own cc n rm) {off : Int} (tgt : Nat) (d : decode cc pc = .ok (.goto off, 3)) (ht : (pc : Int) + off = (tgt : Int)) (k : JK x cs ss es tgt L st) : JK x cs ss es pc L st := fun H locs ls hz hP hS h => lv_goto C.1 C.2.1 d ht (k H locs ls hz hP hS h)
theorem k_icmp_ge (C : CtK x own cc n rm) {a b : Int32} {off : Int} (tgt : Nat) (d : decode cc pc = .ok (.if_icmp .ge off, 3)) (ht : (pc : Int) + off = (tgt : Int)) (kt : b ≤ a → JK x cs ss es tgt L st) (kf : ¬ b ≤ a → JK x cs ss es (pc + 3) L st) : JK x cs ss es pc L (.int b :: .int a :: st) := fun H locs ls hz hP hS h => lv_icmp_ge C.1 C.2.1 d ht (fun q => kt q H locs ls hz hP hS h) (fun q => kf q H locs ls hz hP hS h)
theorem k_dup (C : CtK x own cc n rm) {a : Nat} (d : decode cc pc = .ok (.dup, 1)) (k : JK x cs ss es (pc + 1) L (.ref a :: .ref a :: st)) : JK x cs ss es pc L (.ref a :: st) := fun H locs ls hz hP hS h => by
  intro T hT X
  obtain ⟨t, a1, b1⟩ := k H locs ls hz hP hS h T hT X
  refine ⟨t, ?_, b1⟩
  jvm_step X.here [X.here.top, C.1, C.2.1, d, Value.category]
  exact a1
theorem k_obj (C : CtK x own cc n rm) {idx a : Nat} (hw : Cond.methodLink own idx Lib.objectInit ∈ bW ∧ Cond.instanceMethod Lib.objectInit ∈ bW ∧ Cond.code Lib.objectInit ⟨#[0xb1]⟩ 1 none ∈ bW) (d : decode cc pc = .ok (.invokespecial idx, 3)) (hR : 1 ≤ rm.frames ∧ 20 ≤ rm.locals) (hcat : (st.map fun v => v.category).sum ≤ 8) (k : JK x cs ss es (pc + 3) L st) : JK x cs ss es pc L (.ref a :: st) := fun H locs ls hz hP hS h =>
  W.objInit C.1 C.2.1 C.2.2.2.1 (C.2.2.2.2.1 _ hw.1) (C.2.2.2.2.1 _ hw.2.1) (C.2.2.2.2.1 _ hw.2.2) rfl (h.1.trans (C.2.2.2.2.2.2.2.1.trans C.2.2.1.symm)) rfl d (by rw [C.2.2.2.2.2.2.2.2.1]; exact hR.1) (by rw [C.2.2.2.2.2.2.2.2.1]; show 2 * 0 + _ + 12 ≤ _; omega) (k H locs ls hz hP hS h)
theorem k_push {D : va_G} {b : Nat} {e : va_E} {H H1 : Heap} (hz : H.size = b + es.length) (hP : va_P D vwCl (xl b es) H) (e1 : va_at D vwCl (b + es.length, e) H1) (o1 : ∀ q, q < H.size → H1[q]? = H[q]?) : va_P D vwCl (xl b (es ++ [e])) H1 := by
  rw [xl_app]
  refine va_P.app2 (xl_keep hP (fun q hq => o1 q (by omega))) (fun k q hq => ?_)
  have hk := (List.getElem?_eq_some_iff.mp hq).1
  rw [xl_len] at hk
  have : k = 0 := by simp at hk; omega
  subst this
  cases hq
  exact e1
theorem k_S {s0 H H1 : Heap} {b : Nat} {locs : List Loc} (hS : va_S (fun q => b ≤ q) s0 H locs) (hz : H.size ≤ H1.size) (o1 : ∀ q, q < H.size → H1[q]? = H[q]?) : va_S (fun q => b ≤ q) s0 H1 locs :=
  ⟨Nat.le_trans hS.1 hz, fun q h1 h2 => (o1 q (Nat.lt_of_lt_of_le h1 hS.1)).trans (hS.2.1 q h1 h2), hS.2.2⟩
/-- newarray of ints (t0 = 0) or booleans (t0 = 1) -/
theorem k_newa (C : CtK x own cc n rm) {atype : ArrayType} {ty : FieldType} (hty : newarray.typeOf atype = ty) (hd0 : defaultValue ty = .int 0) {cA : ClassId} (t0 : Nat) (ht : (ty6 (k_D x).1)[t0]? = some (cA, ty)) (hra : ∀ (U : State), va_RA U cA ty → U.vm.findClass ("[" ++ ty.toString) = some cA) (harr : Cond.arrayClass ty ∈ bW) {a : Int32} {N : Nat} (hn : ¬ a < 0) (hN : a.toNatClampNeg = N) (hb : N * componentBytes ty ≤ 536870912) (hR : cs + 1 ≤ rm.cells ∧ ss + N ≤ rm.slots) (d : decode cc pc = .ok (.newarray atype, 2))
    (k : JK x (cs + 1) (ss + N) (es ++ [.inl (cA, N, .inl (fun _ => 0))]) (pc + 2) L (.ref (k_b x + es.length) :: st)) : JK x cs ss es pc L (.int a :: st) := fun H locs ls hz hP hS h => by
  subst hty
  refine va_newaK C.1 C.2.1 (C.2.2.2.2.1 _ harr) rfl d rfl hn hN hb (by rw [C.2.2.2.2.2.2.2.2.1]; exact hR.1) (by rw [C.2.2.2.2.2.2.2.2.1]; exact hR.2) hz.1 fun H1 cA' e1 z1 o1 hAr hNm => ?_
  have hcA : cA' = cA := Option.some.inj (hNm.symm.trans (hra _ (C.2.2.2.2.2.1.2 t0 _ ht).2))
  subst hcA
  have o2 : ∀ q, q < H.size → H1[q]? = H[q]? := fun q hq => o1 q (by have := hz.1; omega)
  exact k H1 locs ls ⟨by rw [z1, List.length_append]; rfl, by have := hz.2; rw [List.length_append]; show _ + (cs + 1) = _ + (_ + 1); omega⟩ (k_push hz.1 hP (by show H1[_]? = some (vp_cell _ _); rw [e1, hd0]; rfl) o2) (k_S hS (by have := hz.1; omega) o2) h
theorem k_newq (C : CtK x own cc n rm) {cA : ClassId} {E : String} {idx : Nat} (t0 : Nat) (ht : (ty6 (k_D x).1)[t0]? = some (cA, .object E)) (hw : Cond.classLink own idx E ∈ bW) (hao : va_AO E (k_s x)) {a : Int32} {N : Nat} (hn : ¬ a < 0) (hN : a.toNatClampNeg = N) (hb : N * 4 ≤ 536870912) (hR : cs + 1 ≤ rm.cells ∧ ss + N ≤ rm.slots) (d : decode cc pc = .ok (.anewarray idx, 3))
    (k : JK x (cs + 1) (ss + N) (es ++ [.inl (cA, N, .inr (.inr (.inr (.inr (fun _ => none)))))]) (pc + 3) L (.ref (k_b x + es.length) :: st)) : JK x cs ss es pc L (.int a :: st) := fun H locs ls hz hP hS h => by
  subst hN
  refine W.anew C.1 C.2.1 C.2.2.2.1 (C.2.2.2.2.1 _ hw) (va_AO.use hao) rfl d rfl hn hb (by rw [C.2.2.2.2.2.2.2.2.1]; exact hR.1) (by rw [C.2.2.2.2.2.2.2.2.1]; exact hR.2) fun cA' kA comp f1 f2 f3 f4 => ?_
  obtain ⟨kA9, comp9, h1, h2, h3, h4⟩ := (C.2.2.2.2.2.1.2 t0 _ ht).2
  have hcA : cA' = cA := Option.some.inj (f1.symm.trans h4)
  subst hcA
  generalize hH1 : H.push ({ cls := cA', slots := Array.replicate a.toNatClampNeg .null, vm := .none } : Cell) = H1
  have z1 : H1.size = H.size + 1 := by rw [← hH1, Array.size_push]
  have e1 : H1[H.size]? = some (arrV cA' a.toNatClampNeg (fun _ => .null)) := by rw [← hH1, Array.getElem?_push_size, ← arrV_new]
  have o2 : ∀ q : Nat, q < H.size → H1[q]? = H[q]? := fun q hq => by rw [← hH1, Array.getElem?_push, if_neg (Nat.ne_of_lt hq)]
  have k9 := k H1 locs ls ⟨by have := hz.1; rw [z1, List.length_append]; show _ = _ + (_ + 1); omega, by have := hz.2; rw [List.length_append]; show _ + (cs + 1) = _ + (_ + 1); omega⟩ (k_push hz.1 hP (by rw [hz.1] at e1; exact e1) o2) (k_S hS (by omega) o2) h
  rw [hz.1]
  exact k9
end KRULES
