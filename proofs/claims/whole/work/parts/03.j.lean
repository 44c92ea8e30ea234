/-! J: the judgement W over ONE world whose references never change: a cell's number k (below K), its address ad k, its numbers M k. Rules: one an instruction. -/
def bW : List Cond := lw_tbl.filter goodWord
theorem bw_of {w : Cond} (i : Nat) (h : lw_tbl[i]? = some w) (g : goodWord w = true) : w ∈ bW := List.mem_filter.mpr ⟨List.mem_of_getElem? h, g⟩
theorem bw_good {ws : List Cond} (h : ∀ w ∈ ws, w ∈ bW) : GoodIn bW ws := fun w hw => ⟨h w hw, good_of_word (List.mem_filter.mp (h w hw)).2⟩
abbrev xM : Type := Nat → Nat → Int32
def uM (M : xM) (k j : Nat) (v : Int32) : xM := fun a => if a = k then upd (M k) j v else M a
abbrev xH : Type := Nat → (Nat → Int32) → va_E
def xW (ad : Nat → Nat) (sh : xH) (K : Nat) (M : xM) : va_W := (List.range K).map fun k => (ad k, sh k (M k))
theorem xW_get {ad : Nat → Nat} {sh : xH} {K k : Nat} {M : xM} (h : k < K) : (xW ad sh K M)[k]? = some (ad k, sh k (M k)) := by
  simp [xW, h]
theorem xW_some {ad : Nat → Nat} {sh : xH} {K k : Nat} {M : xM} {q : Nat × va_E} (h : (xW ad sh K M)[k]? = some q) : k < K ∧ q = (ad k, sh k (M k)) := by
  have hl := (List.getElem?_eq_some_iff.mp h).1
  have hk : k < K := by simpa [xW] using hl
  rw [xW_get hk] at h
  exact ⟨hk, (Option.some.inj h).symm⟩
theorem xW_set {ad : Nat → Nat} {sh : xH} {K k j : Nat} {v : Int32} {M : xM} (h : k < K) : (xW ad sh K M).set k (ad k, sh k (upd (M k) j v)) = xW ad sh K (uM M k j v) := by
  apply List.ext_getElem?
  intro i
  by_cases hi : i < K
  · rw [xW_get hi]
    by_cases e : i = k
    · subst e
      rw [List.getElem?_set_self (by simp [xW, h])]
      simp [uM]
    · rw [List.getElem?_set_ne (Ne.symm e), xW_get hi]
      simp [uM, e]
  · rw [List.getElem?_eq_none (by simp [xW]; omega), List.getElem?_eq_none (by simp [xW]; omega)]
/-- the cells of a world, and what is new -/
def xA (ad : Nat → Nat) (K sz : Nat) : Nat → Prop := fun q => (∃ k, k < K ∧ q = ad k) ∨ sz ≤ q
abbrev xC : Type := (Program × Launch × Env × Room × State) × (MethodId × Array Value × List Frame × Method × Code) × (va_G × List (ClassId × FieldType)) × ((Nat → Nat) × xH × Nat) × (Nat × Option Value × xM)
abbrev x_p (x : xC) : Program := x.1.1
abbrev x_l (x : xC) : Launch := x.1.2.1
abbrev x_e (x : xC) : Env := x.1.2.2.1
abbrev x_R (x : xC) : Room := x.1.2.2.2.1
abbrev x_s (x : xC) : State := x.1.2.2.2.2
abbrev x_m (x : xC) : MethodId := x.2.1.1
abbrev x_a (x : xC) : Array Value := x.2.1.2.1
abbrev x_be (x : xC) : List Frame := x.2.1.2.2.1
abbrev x_me (x : xC) : Method := x.2.1.2.2.2.1
abbrev x_c (x : xC) : Code := x.2.1.2.2.2.2
abbrev x_D (x : xC) : va_G := x.2.2.1.1
abbrev x_t (x : xC) : List (ClassId × FieldType) := x.2.2.1.2
abbrev x_ad (x : xC) : Nat → Nat := x.2.2.2.1.1
abbrev x_sh (x : xC) : xH := x.2.2.2.1.2.1
abbrev x_K (x : xC) : Nat := x.2.2.2.1.2.2
abbrev x_n (x : xC) : Nat := x.2.2.2.2.1
abbrev x_rv (x : xC) : Option Value := x.2.2.2.2.2.1
abbrev x_M (x : xC) : xM := x.2.2.2.2.2.2
abbrev x_A (x : xC) : Nat → Prop := xA (x_ad x) (x_K x) (x_s x).heap.size
abbrev x_W (x : xC) (M : xM) : va_W := xW (x_ad x) (x_sh x) (x_K x) M
/-- a method's end -/
def xQ (D : va_G) (tys : List (ClassId × FieldType)) (ad : Nat → Nat) (sh : xH) (K : Nat) (rv : Option Value) (M : xM) (A : Nat → Prop) : Array Value → State → Outcome → State → Prop := fun _ st oc t =>
  oc = .returned rv ∧ va_P D vwCl (xW ad sh K M) t.heap ∧ va_D A (xW ad sh K M) ∧ va_F A st t
def J (x : xC) (M : xM) (pc : Nat) (L : List (Nat × Value)) (st : List Value) : Prop :=
  ∀ (H : Heap) (locs : List Loc) (ls : Array Slot), va_P (x_D x) vwCl (x_W x M) H → va_D (x_A x) (x_W x M) → va_S (x_A x) (x_s x).heap H locs → lv_has ls (x_n x) L →
    W (x_p x) (x_l x) (x_e x) (x_R x) (x_s x) (x_m x) (x_a x) (x_be x) (x_me x) (x_c x) H locs 0 0 (MQ (x_be x) (xQ (x_D x) (x_t x) (x_ad x) (x_sh x) (x_K x) (x_rv x) (x_M x) (x_A x)) (x_a x) (x_s x) 0 0 (x_A x)) (F0 (x_m x) pc ls st)
/-- what holds in a method's body: the machine, the code, the tables' words, the classes; 'nw': the words on nest mates; 'sz': statics, which no cell of the world is -/
abbrev Ct (x : xC) (own : String) (cc : ByteArray) (n : Nat) (rm : Room) : Prop :=
  (x_p x).tables.exec = Jvm.exec ∧ (x_c x).code = cc ∧ (x_c x).maxLocals = n ∧ (x_s x).vm.findClass own = some (x_m x).cls ∧ (∀ w ∈ bW, w.before (x_a x) (x_s x) = true) ∧ va_K (x_D x) vwCl (x_t x) (x_s x) ∧ (x_me x).locks = false ∧ x_n x = n ∧ x_R x = rm
section RULES
variable {x : xC} {own : String} {cc : ByteArray} {n : Nat} {rm : Room} {M : xM} {pc : Nat} {L : List (Nat × Value)} {st : List Value}
theorem r_sub {L' : List (Nat × Value)} (ks : List Nat) (hl : lv_pick L ks = L') (k : J x M pc L' st) : J x M pc L st := fun H locs ls hP hD hS h => k H locs ls hP hD hS (lv_sub h ks hl)
theorem r_iconst (C : Ct x own cc n rm) {z : Int} {v : Int32} (d : decode cc pc = .ok (.iconst z, 1)) (hv : Int32.ofInt z = v) (k : J x M (pc + 1) L (.int v :: st)) : J x M pc L st := fun H locs ls hP hD hS h => lv_iconst C.1 C.2.1 d hv (k H locs ls hP hD hS h)
theorem r_bipush (C : Ct x own cc n rm) {z : Int} {v : Int32} (d : decode cc pc = .ok (.bipush z, 2)) (hv : (Int8.ofInt z).toInt32 = v) (k : J x M (pc + 2) L (.int v :: st)) : J x M pc L st := fun H locs ls hP hD hS h => lv_bipush C.1 C.2.1 d hv (k H locs ls hP hD hS h)
theorem r_sipush (C : Ct x own cc n rm) {z : Int} {v : Int32} (d : decode cc pc = .ok (.sipush z, 3)) (hv : (Int16.ofInt z).toInt32 = v) (k : J x M (pc + 3) L (.int v :: st)) : J x M pc L st := fun H locs ls hP hD hS h => lv_sipush C.1 C.2.1 d hv (k H locs ls hP hD hS h)
theorem r_ldc (C : Ct x own cc n rm) {i : Nat} {v : Int32} (hw : Cond.constant own i v ∈ bW) (d : decode cc pc = .ok (.ldc i, 2)) (k : J x M (pc + 2) L (.int v :: st)) : J x M pc L st := fun H locs ls hP hD hS h => lv_ldc C.1 C.2.1 C.2.2.2.1 (C.2.2.2.2.1 _ hw) d (k H locs ls hP hD hS h)
theorem r_lconst (C : Ct x own cc n rm) {z : Fin 2} {v : Int64} (d : decode cc pc = .ok (.lconst z, 1)) (hv : Int64.ofNat (z : Nat) = v) (k : J x M (pc + 1) L (.long v :: st)) : J x M pc L st := fun H locs ls hP hD hS h => lv_lconst C.1 C.2.1 d hv (k H locs ls hP hD hS h)
theorem r_ldc2 (C : Ct x own cc n rm) {i : Nat} {v : Int64} (hw : Cond.constantLong own i v ∈ bW) (d : decode cc pc = .ok (.ldc2_w i, 3)) (k : J x M (pc + 3) L (.long v :: st)) : J x M pc L st := fun H locs ls hP hD hS h => lv_ldc2 C.1 C.2.1 C.2.2.2.1 (C.2.2.2.2.1 _ hw) d (k H locs ls hP hD hS h)
theorem r_iload_n (C : Ct x own cc n rm) {i : Fin 4} {a : Nat} {v : Int32} (q : Nat) (d : decode cc pc = .ok (.iload_n i, 1)) (hi : (i : Nat) = a) (hq : L[q]? = some (a, .int v)) (k : J x M (pc + 1) L (.int v :: st)) : J x M pc L st := fun H locs ls hP hD hS h => lv_iload_n C.1 C.2.1 d hi (lv_at h q hq) (k H locs ls hP hD hS h)
theorem r_iload (C : Ct x own cc n rm) {a : Nat} {v : Int32} (q : Nat) (d : decode cc pc = .ok (.iload a, 2)) (hq : L[q]? = some (a, .int v)) (k : J x M (pc + 2) L (.int v :: st)) : J x M pc L st := fun H locs ls hP hD hS h => lv_iload C.1 C.2.1 d (lv_at h q hq) (k H locs ls hP hD hS h)
theorem r_lload_n (C : Ct x own cc n rm) {i : Fin 4} {a : Nat} {v : Int64} (q : Nat) (d : decode cc pc = .ok (.lload_n i, 1)) (hi : (i : Nat) = a) (hq : L[q]? = some (a, .long v)) (k : J x M (pc + 1) L (.long v :: st)) : J x M pc L st := fun H locs ls hP hD hS h => lv_lload_n C.1 C.2.1 d hi (lv_at h q hq) (k H locs ls hP hD hS h)
theorem r_lload (C : Ct x own cc n rm) {a : Nat} {v : Int64} (q : Nat) (d : decode cc pc = .ok (.lload a, 2)) (hq : L[q]? = some (a, .long v)) (k : J x M (pc + 2) L (.long v :: st)) : J x M pc L st := fun H locs ls hP hD hS h => lv_lload C.1 C.2.1 d (lv_at h q hq) (k H locs ls hP hD hS h)
theorem r_aload_n (C : Ct x own cc n rm) {i : Fin 4} {a v : Nat} (q : Nat) (d : decode cc pc = .ok (.aload_n i, 1)) (hi : (i : Nat) = a) (hq : L[q]? = some (a, .ref v)) (k : J x M (pc + 1) L (.ref v :: st)) : J x M pc L st := fun H locs ls hP hD hS h => lv_aload_n C.1 C.2.1 d hi (lv_at h q hq) (k H locs ls hP hD hS h)
theorem r_aload (C : Ct x own cc n rm) {a v : Nat} (q : Nat) (d : decode cc pc = .ok (.aload a, 2)) (hq : L[q]? = some (a, .ref v)) (k : J x M (pc + 2) L (.ref v :: st)) : J x M pc L st := fun H locs ls hP hD hS h => lv_aload C.1 C.2.1 d (lv_at h q hq) (k H locs ls hP hD hS h)
theorem r_istore_n (C : Ct x own cc n rm) {i : Fin 4} {a : Nat} {v w : Int32} (L' : List (Nat × Value)) (d : decode cc pc = .ok (.istore_n i, 1)) (hi : (i : Nat) = a) (hn : a < n) (e : w = v) (hl : (a, Value.int w) :: L.filter (fun q => !(q.1 == a) && !(q.1 + 1 == a && q.2.category == 2)) = L') (k : J x M (pc + 1) L' st) : J x M pc L (.int v :: st) := fun H locs ls hP hD hS h => lv_istore_n C.1 C.2.1 d hi h (by rw [C.2.2.2.2.2.2.2.1]; exact hn) (e ▸ hl) (fun ls' h' => k H locs ls' hP hD hS h')
theorem r_istore (C : Ct x own cc n rm) {a : Nat} {v w : Int32} (L' : List (Nat × Value)) (d : decode cc pc = .ok (.istore a, 2)) (hn : a < n) (e : w = v) (hl : (a, Value.int w) :: L.filter (fun q => !(q.1 == a) && !(q.1 + 1 == a && q.2.category == 2)) = L') (k : J x M (pc + 2) L' st) : J x M pc L (.int v :: st) := fun H locs ls hP hD hS h => lv_istore C.1 C.2.1 d h (by rw [C.2.2.2.2.2.2.2.1]; exact hn) (e ▸ hl) (fun ls' h' => k H locs ls' hP hD hS h')
theorem r_lstore_n (C : Ct x own cc n rm) {i : Fin 4} {a : Nat} {v w : Int64} (L' : List (Nat × Value)) (d : decode cc pc = .ok (.lstore_n i, 1)) (hi : (i : Nat) = a) (hn : a + 1 < n) (e : w = v) (hl : (a, Value.long w) :: L.filter (fun q => !(q.1 == a) && (!(q.1 == a + 1) && !(q.1 + 1 == a && q.2.category == 2))) = L') (k : J x M (pc + 1) L' st) : J x M pc L (.long v :: st) := fun H locs ls hP hD hS h => lv_lstore_n C.1 C.2.1 d hi h (by rw [C.2.2.2.2.2.2.2.1]; exact hn) (e ▸ hl) (fun ls' h' => k H locs ls' hP hD hS h')
theorem r_lstore (C : Ct x own cc n rm) {a : Nat} {v w : Int64} (L' : List (Nat × Value)) (d : decode cc pc = .ok (.lstore a, 2)) (hn : a + 1 < n) (e : w = v) (hl : (a, Value.long w) :: L.filter (fun q => !(q.1 == a) && (!(q.1 == a + 1) && !(q.1 + 1 == a && q.2.category == 2))) = L') (k : J x M (pc + 2) L' st) : J x M pc L (.long v :: st) := fun H locs ls hP hD hS h => lv_lstore C.1 C.2.1 d h (by rw [C.2.2.2.2.2.2.2.1]; exact hn) (e ▸ hl) (fun ls' h' => k H locs ls' hP hD hS h')
theorem r_astore_n (C : Ct x own cc n rm) {i : Fin 4} {a v : Nat} (L' : List (Nat × Value)) (d : decode cc pc = .ok (.astore_n i, 1)) (hi : (i : Nat) = a) (hn : a < n) (hl : (a, Value.ref v) :: L.filter (fun q => !(q.1 == a) && !(q.1 + 1 == a && q.2.category == 2)) = L') (k : J x M (pc + 1) L' st) : J x M pc L (.ref v :: st) := fun H locs ls hP hD hS h => lv_astore_n C.1 C.2.1 d hi h (by rw [C.2.2.2.2.2.2.2.1]; exact hn) hl (fun ls' h' => k H locs ls' hP hD hS h')
theorem r_astore (C : Ct x own cc n rm) {a v : Nat} (L' : List (Nat × Value)) (d : decode cc pc = .ok (.astore a, 2)) (hn : a < n) (hl : (a, Value.ref v) :: L.filter (fun q => !(q.1 == a) && !(q.1 + 1 == a && q.2.category == 2)) = L') (k : J x M (pc + 2) L' st) : J x M pc L (.ref v :: st) := fun H locs ls hP hD hS h => lv_astore C.1 C.2.1 d h (by rw [C.2.2.2.2.2.2.2.1]; exact hn) hl (fun ls' h' => k H locs ls' hP hD hS h')
theorem r_iinc (C : Ct x own cc n rm) {a : Nat} {z : Int} {v w : Int32} (q : Nat) (L' : List (Nat × Value)) (d : decode cc pc = .ok (.iinc a z, 3)) (hq : L[q]? = some (a, .int v)) (e : w = v + Int32.ofInt z) (hn : a < n) (hl : (a, Value.int w) :: L.filter (fun q => !(q.1 == a) && !(q.1 + 1 == a && q.2.category == 2)) = L') (k : J x M (pc + 3) L' st) : J x M pc L st := fun H locs ls hP hD hS h => lv_iinc C.1 C.2.1 d h hq e.symm (by rw [C.2.2.2.2.2.2.2.1]; exact hn) hl (fun ls' h' => k H locs ls' hP hD hS h')
theorem r_iadd (C : Ct x own cc n rm) {a b : Int32} (d : decode cc pc = .ok (.iadd, 1)) (k : J x M (pc + 1) L (.int (a + b) :: st)) : J x M pc L (.int b :: .int a :: st) := fun H locs ls hP hD hS h => lv_iadd C.1 C.2.1 d (k H locs ls hP hD hS h)
theorem r_isub (C : Ct x own cc n rm) {a b : Int32} (d : decode cc pc = .ok (.isub, 1)) (k : J x M (pc + 1) L (.int (a - b) :: st)) : J x M pc L (.int b :: .int a :: st) := fun H locs ls hP hD hS h => lv_isub C.1 C.2.1 d (k H locs ls hP hD hS h)
theorem r_imul (C : Ct x own cc n rm) {a b : Int32} (d : decode cc pc = .ok (.imul, 1)) (k : J x M (pc + 1) L (.int (a * b) :: st)) : J x M pc L (.int b :: .int a :: st) := fun H locs ls hP hD hS h => lv_imul C.1 C.2.1 d (k H locs ls hP hD hS h)
theorem r_idiv (C : Ct x own cc n rm) {a b : Int32} (h0 : ¬ b = 0) (d : decode cc pc = .ok (.idiv, 1)) (k : J x M (pc + 1) L (.int (a / b) :: st)) : J x M pc L (.int b :: .int a :: st) := fun H locs ls hP hD hS h => lv_idiv C.1 C.2.1 d h0 (k H locs ls hP hD hS h)
theorem r_irem (C : Ct x own cc n rm) {a b : Int32} (h0 : ¬ b = 0) (d : decode cc pc = .ok (.irem, 1)) (k : J x M (pc + 1) L (.int (a - a / b * b) :: st)) : J x M pc L (.int b :: .int a :: st) := fun H locs ls hP hD hS h => lv_irem C.1 C.2.1 d h0 (k H locs ls hP hD hS h)
theorem r_ineg (C : Ct x own cc n rm) {a : Int32} (d : decode cc pc = .ok (.ineg, 1)) (k : J x M (pc + 1) L (.int (-a) :: st)) : J x M pc L (.int a :: st) := fun H locs ls hP hD hS h => lv_ineg C.1 C.2.1 d (k H locs ls hP hD hS h)
theorem r_ishl (C : Ct x own cc n rm) {a b : Int32} (d : decode cc pc = .ok (.ishl, 1)) (k : J x M (pc + 1) L (.int (a <<< (b &&& 31)) :: st)) : J x M pc L (.int b :: .int a :: st) := fun H locs ls hP hD hS h => lv_ishl C.1 C.2.1 d (k H locs ls hP hD hS h)
theorem r_ishr (C : Ct x own cc n rm) {a b : Int32} (d : decode cc pc = .ok (.ishr, 1)) (k : J x M (pc + 1) L (.int (a >>> (b &&& 31)) :: st)) : J x M pc L (.int b :: .int a :: st) := fun H locs ls hP hD hS h => lv_ishr C.1 C.2.1 d (k H locs ls hP hD hS h)
theorem r_iushr (C : Ct x own cc n rm) {a b : Int32} (d : decode cc pc = .ok (.iushr, 1)) (k : J x M (pc + 1) L (.int ((a.toUInt32 >>> (b.toUInt32 &&& Int32.toUInt32 31)).toInt32) :: st)) : J x M pc L (.int b :: .int a :: st) := fun H locs ls hP hD hS h => lv_iushr C.1 C.2.1 d rfl (k H locs ls hP hD hS h)
theorem r_iand (C : Ct x own cc n rm) {a b : Int32} (d : decode cc pc = .ok (.iand, 1)) (k : J x M (pc + 1) L (.int (a &&& b) :: st)) : J x M pc L (.int b :: .int a :: st) := fun H locs ls hP hD hS h => lv_iand C.1 C.2.1 d (k H locs ls hP hD hS h)
theorem r_ior (C : Ct x own cc n rm) {a b : Int32} (d : decode cc pc = .ok (.ior, 1)) (k : J x M (pc + 1) L (.int (a ||| b) :: st)) : J x M pc L (.int b :: .int a :: st) := fun H locs ls hP hD hS h => lv_ior C.1 C.2.1 d (k H locs ls hP hD hS h)
theorem r_i2l (C : Ct x own cc n rm) {a : Int32} (d : decode cc pc = .ok (.i2l, 1)) (k : J x M (pc + 1) L (.long a.toInt64 :: st)) : J x M pc L (.int a :: st) := fun H locs ls hP hD hS h => lv_i2l C.1 C.2.1 d rfl (k H locs ls hP hD hS h)
theorem r_l2i (C : Ct x own cc n rm) {a : Int64} (d : decode cc pc = .ok (.l2i, 1)) (k : J x M (pc + 1) L (.int a.toInt32 :: st)) : J x M pc L (.long a :: st) := fun H locs ls hP hD hS h => lv_l2i C.1 C.2.1 d rfl (k H locs ls hP hD hS h)
theorem r_ladd (C : Ct x own cc n rm) {a b : Int64} (d : decode cc pc = .ok (.ladd, 1)) (k : J x M (pc + 1) L (.long (a + b) :: st)) : J x M pc L (.long b :: .long a :: st) := fun H locs ls hP hD hS h => lv_ladd C.1 C.2.1 d (k H locs ls hP hD hS h)
theorem r_lsub (C : Ct x own cc n rm) {a b : Int64} (d : decode cc pc = .ok (.lsub, 1)) (k : J x M (pc + 1) L (.long (a - b) :: st)) : J x M pc L (.long b :: .long a :: st) := fun H locs ls hP hD hS h => lv_lsub C.1 C.2.1 d (k H locs ls hP hD hS h)
theorem r_lmul (C : Ct x own cc n rm) {a b : Int64} (d : decode cc pc = .ok (.lmul, 1)) (k : J x M (pc + 1) L (.long (a * b) :: st)) : J x M pc L (.long b :: .long a :: st) := fun H locs ls hP hD hS h => lv_lmul C.1 C.2.1 d (k H locs ls hP hD hS h)
theorem r_ldiv (C : Ct x own cc n rm) {a b : Int64} (h0 : ¬ b = 0) (d : decode cc pc = .ok (.ldiv, 1)) (k : J x M (pc + 1) L (.long (a / b) :: st)) : J x M pc L (.long b :: .long a :: st) := fun H locs ls hP hD hS h => lv_ldiv C.1 C.2.1 d h0 (k H locs ls hP hD hS h)
theorem r_lneg (C : Ct x own cc n rm) {a : Int64} (d : decode cc pc = .ok (.lneg, 1)) (k : J x M (pc + 1) L (.long (-a) :: st)) : J x M pc L (.long a :: st) := fun H locs ls hP hD hS h => lv_lneg C.1 C.2.1 d (k H locs ls hP hD hS h)
theorem r_lcmp (C : Ct x own cc n rm) {a b : Int64} (d : decode cc pc = .ok (.lcmp, 1)) (k : J x M (pc + 1) L (.int (lg_cmp a b) :: st)) : J x M pc L (.long b :: .long a :: st) := fun H locs ls hP hD hS h => W.lcmp C.1 C.2.1 d (k H locs ls hP hD hS h)
theorem r_dup (C : Ct x own cc n rm) {v : Value} (hv : v.category = 1) (d : decode cc pc = .ok (.dup, 1)) (k : J x M (pc + 1) L (v :: v :: st)) : J x M pc L (v :: st) := fun H locs ls hP hD hS h => lv_dup C.1 C.2.1 d hv (k H locs ls hP hD hS h)
theorem r_dup2 (C : Ct x own cc n rm) {v w : Value} (hv : v.category = 1) (hw : w.category = 1) (d : decode cc pc = .ok (.dup2, 1)) (k : J x M (pc + 1) L (v :: w :: v :: w :: st)) : J x M pc L (v :: w :: st) := fun H locs ls hP hD hS h => lv_dup2_11 C.1 C.2.1 d hv hw (k H locs ls hP hD hS h)
theorem r_dup_x1 (C : Ct x own cc n rm) {v w : Value} (hv : v.category = 1) (hw : w.category = 1) (d : decode cc pc = .ok (.dup_x1, 1)) (k : J x M (pc + 1) L (v :: w :: v :: st)) : J x M pc L (v :: w :: st) := fun H locs ls hP hD hS h => lv_dup_x1 C.1 C.2.1 d hv hw (k H locs ls hP hD hS h)
theorem r_pop (C : Ct x own cc n rm) {v : Value} (hv : v.category = 1) (d : decode cc pc = .ok (.pop, 1)) (k : J x M (pc + 1) L st) : J x M pc L (v :: st) := fun H locs ls hP hD hS h => lv_pop C.1 C.2.1 d hv (k H locs ls hP hD hS h)
theorem r_goto (C : Ct x own cc n rm) {off : Int} (tgt : Nat) (d : decode cc pc = .ok (.goto off, 3)) (ht : (pc : Int) + off = (tgt : Int)) (k : J x M tgt L st) : J x M pc L st := fun H locs ls hP hD hS h => lv_goto C.1 C.2.1 d ht (k H locs ls hP hD hS h)
theorem r_icmp_eq (C : Ct x own cc n rm) {a b : Int32} {off : Int} (tgt : Nat) (d : decode cc pc = .ok (.if_icmp .eq off, 3)) (ht : (pc : Int) + off = (tgt : Int)) (kt : a = b → J x M tgt L st) (kf : ¬ a = b → J x M (pc + 3) L st) : J x M pc L (.int b :: .int a :: st) := fun H locs ls hP hD hS h => lv_icmp_eq C.1 C.2.1 d ht (fun q => kt q H locs ls hP hD hS h) (fun q => kf q H locs ls hP hD hS h)
theorem r_if_eq (C : Ct x own cc n rm) {a : Int32} {off : Int} (tgt : Nat) (d : decode cc pc = .ok (.ifCond .eq off, 3)) (ht : (pc : Int) + off = (tgt : Int)) (kt : a = 0 → J x M tgt L st) (kf : ¬ a = 0 → J x M (pc + 3) L st) : J x M pc L (.int a :: st) := fun H locs ls hP hD hS h => lv_if_eq C.1 C.2.1 d ht (fun q => kt q H locs ls hP hD hS h) (fun q => kf q H locs ls hP hD hS h)
theorem r_icmp_ne (C : Ct x own cc n rm) {a b : Int32} {off : Int} (tgt : Nat) (d : decode cc pc = .ok (.if_icmp .ne off, 3)) (ht : (pc : Int) + off = (tgt : Int)) (kt : ¬ a = b → J x M tgt L st) (kf : a = b → J x M (pc + 3) L st) : J x M pc L (.int b :: .int a :: st) := fun H locs ls hP hD hS h => lv_icmp_ne C.1 C.2.1 d ht (fun q => kt q H locs ls hP hD hS h) (fun q => kf q H locs ls hP hD hS h)
theorem r_if_ne (C : Ct x own cc n rm) {a : Int32} {off : Int} (tgt : Nat) (d : decode cc pc = .ok (.ifCond .ne off, 3)) (ht : (pc : Int) + off = (tgt : Int)) (kt : ¬ a = 0 → J x M tgt L st) (kf : a = 0 → J x M (pc + 3) L st) : J x M pc L (.int a :: st) := fun H locs ls hP hD hS h => lv_if_ne C.1 C.2.1 d ht (fun q => kt q H locs ls hP hD hS h) (fun q => kf q H locs ls hP hD hS h)
theorem r_icmp_lt (C : Ct x own cc n rm) {a b : Int32} {off : Int} (tgt : Nat) (d : decode cc pc = .ok (.if_icmp .lt off, 3)) (ht : (pc : Int) + off = (tgt : Int)) (kt : a < b → J x M tgt L st) (kf : ¬ a < b → J x M (pc + 3) L st) : J x M pc L (.int b :: .int a :: st) := fun H locs ls hP hD hS h => lv_icmp_lt C.1 C.2.1 d ht (fun q => kt q H locs ls hP hD hS h) (fun q => kf q H locs ls hP hD hS h)
theorem r_if_lt (C : Ct x own cc n rm) {a : Int32} {off : Int} (tgt : Nat) (d : decode cc pc = .ok (.ifCond .lt off, 3)) (ht : (pc : Int) + off = (tgt : Int)) (kt : a < 0 → J x M tgt L st) (kf : ¬ a < 0 → J x M (pc + 3) L st) : J x M pc L (.int a :: st) := fun H locs ls hP hD hS h => lv_if_lt C.1 C.2.1 d ht (fun q => kt q H locs ls hP hD hS h) (fun q => kf q H locs ls hP hD hS h)
theorem r_icmp_ge (C : Ct x own cc n rm) {a b : Int32} {off : Int} (tgt : Nat) (d : decode cc pc = .ok (.if_icmp .ge off, 3)) (ht : (pc : Int) + off = (tgt : Int)) (kt : b ≤ a → J x M tgt L st) (kf : ¬ b ≤ a → J x M (pc + 3) L st) : J x M pc L (.int b :: .int a :: st) := fun H locs ls hP hD hS h => lv_icmp_ge C.1 C.2.1 d ht (fun q => kt q H locs ls hP hD hS h) (fun q => kf q H locs ls hP hD hS h)
theorem r_if_ge (C : Ct x own cc n rm) {a : Int32} {off : Int} (tgt : Nat) (d : decode cc pc = .ok (.ifCond .ge off, 3)) (ht : (pc : Int) + off = (tgt : Int)) (kt : 0 ≤ a → J x M tgt L st) (kf : ¬ 0 ≤ a → J x M (pc + 3) L st) : J x M pc L (.int a :: st) := fun H locs ls hP hD hS h => lv_if_ge C.1 C.2.1 d ht (fun q => kt q H locs ls hP hD hS h) (fun q => kf q H locs ls hP hD hS h)
theorem r_icmp_gt (C : Ct x own cc n rm) {a b : Int32} {off : Int} (tgt : Nat) (d : decode cc pc = .ok (.if_icmp .gt off, 3)) (ht : (pc : Int) + off = (tgt : Int)) (kt : b < a → J x M tgt L st) (kf : ¬ b < a → J x M (pc + 3) L st) : J x M pc L (.int b :: .int a :: st) := fun H locs ls hP hD hS h => lv_icmp_gt C.1 C.2.1 d ht (fun q => kt q H locs ls hP hD hS h) (fun q => kf q H locs ls hP hD hS h)
theorem r_if_gt (C : Ct x own cc n rm) {a : Int32} {off : Int} (tgt : Nat) (d : decode cc pc = .ok (.ifCond .gt off, 3)) (ht : (pc : Int) + off = (tgt : Int)) (kt : 0 < a → J x M tgt L st) (kf : ¬ 0 < a → J x M (pc + 3) L st) : J x M pc L (.int a :: st) := fun H locs ls hP hD hS h => lv_if_gt C.1 C.2.1 d ht (fun q => kt q H locs ls hP hD hS h) (fun q => kf q H locs ls hP hD hS h)
theorem r_icmp_le (C : Ct x own cc n rm) {a b : Int32} {off : Int} (tgt : Nat) (d : decode cc pc = .ok (.if_icmp .le off, 3)) (ht : (pc : Int) + off = (tgt : Int)) (kt : a ≤ b → J x M tgt L st) (kf : ¬ a ≤ b → J x M (pc + 3) L st) : J x M pc L (.int b :: .int a :: st) := fun H locs ls hP hD hS h => lv_icmp_le C.1 C.2.1 d ht (fun q => kt q H locs ls hP hD hS h) (fun q => kf q H locs ls hP hD hS h)
theorem r_if_le (C : Ct x own cc n rm) {a : Int32} {off : Int} (tgt : Nat) (d : decode cc pc = .ok (.ifCond .le off, 3)) (ht : (pc : Int) + off = (tgt : Int)) (kt : a ≤ 0 → J x M tgt L st) (kf : ¬ a ≤ 0 → J x M (pc + 3) L st) : J x M pc L (.int a :: st) := fun H locs ls hP hD hS h => lv_if_le C.1 C.2.1 d ht (fun q => kt q H locs ls hP hD hS h) (fun q => kf q H locs ls hP hD hS h)
theorem r_get (C : Ct x own cc n rm) {k0 ci idx : Nat} {fs : List Value} {Cn ref : String} {T : u_T} {N : Nat} (hk : k0 < x_K x) (hs : x_sh x k0 (M k0) = .inr (ci, fs)) (hc : vwCl[ci]? = some (Cn, T, N)) (hin : ∀ w ∈ u_ws Cn T N, w ∈ bW) (j : Nat) (hj : j < N) (hl : Cond.fieldLink own idx ref (T j).2.1 (T j).2.2.1 ∈ bW) (hr : (T j).1 = ref) {v : Value} (hv : fs[j]? = some v) (d : decode cc pc = .ok (.getfield idx, 3)) (k : J x M (pc + 3) L (v :: st)) : J x M pc L (.ref (x_ad x k0) :: st) := fun H locs ls hP hD hS h =>
  va_get C.1 C.2.1 C.2.2.2.2.1 hin C.2.2.2.1 C.2.2.2.2.2.1 hP k0 ((xW_get hk).trans (by rw [hs])) hc j hj (C.2.2.2.2.1 _ hl) (fun _ q => hr ▸ q) hv d (k H locs ls hP hD hS h)
theorem r_put (C : Ct x own cc n rm) {k0 ci idx : Nat} {F : (Nat → Int32) → List Value} {Cn ref : String} {T : u_T} {N : Nat} (ty0 : Nat → FieldType) (hty : ∀ k, k < N → parseFieldDescriptor (T k).2.2.1 = some (ty0 k)) (hnm : ∀ a, a < N → ∀ b, b < N → a ≠ b → (T a).2.1 ≠ (T b).2.1) (hk : k0 < x_K x) (hs : ∀ f, x_sh x k0 f = .inr (ci, F f)) (hc : vwCl[ci]? = some (Cn, T, N)) (hin : ∀ w ∈ u_ws Cn T N, w ∈ bW) (j : Nat) (hj : j < N) (hl : Cond.fieldLink own idx ref (T j).2.1 (T j).2.2.1 ∈ bW) (hr : (T j).1 = ref) (hfin : (T j).2.2.2 = false) {ty : FieldType} (ht : ty0 j = ty) {v : Int32} (hn : narrow ty (.int v) = .int v) (hfit : fits ty (.int v) = true) (hlen : j < (F (M k0)).length) (hF : (F (M k0)).set j (.int v) = F (upd (M k0) j v)) {M1 : xM} (eM : M1 = uM M k0 j v) (d : decode cc pc = .ok (.putfield idx, 3)) (k : J x M1 (pc + 3) L st) : J x M pc L (.int v :: .ref (x_ad x k0) :: st) := fun H locs ls hP hD hS h => by
  subst eM
  have he : (x_W x M)[k0]? = some (x_ad x k0, .inr (ci, F (M k0))) := (xW_get hk).trans (by rw [hs])
  have hset : (x_W x M).set k0 (x_ad x k0, .inr (ci, (F (M k0)).set j (.int v))) = x_W x (uM M k0 j v) := by
    have e9 := xW_set (ad := x_ad x) (sh := x_sh x) (M := M) (j := j) (v := v) hk
    rw [hs, ← hF] at e9
    exact e9
  exact va_put C.1 C.2.1 C.2.2.2.2.1 hin ty0 hty hnm C.2.2.2.1 C.2.2.2.2.2.1 hP hD hS k0 he hc j hj (C.2.2.2.2.1 _ hl) (fun _ q => hr ▸ q) hfin ((hty j hj).trans (by rw [ht])) hn hfit hlen d (fun H1 locs1 hP1 hD1 hS1 => k H1 locs1 ls (hset ▸ hP1) (hset ▸ hD1) hS1 h)
theorem r_iald (C : Ct x own cc n rm) {k0 n0 : Nat} {cA : ClassId} (hk : k0 < x_K x) (hs : ∀ f, x_sh x k0 f = .inl (cA, n0, .inl f)) (t0 : Nat) (ht : (x_t x)[t0]? = some (cA, .int)) {i : Int32} (hin : vp_in i n0) (d : decode cc pc = .ok (.iaload, 1)) (k : J x M (pc + 1) L (.int (M k0 i.toNatClampNeg) :: st)) : J x M pc L (.int i :: .ref (x_ad x k0) :: st) := fun H locs ls hP hD hS h =>
  va_iald C.1 C.2.1 C.2.2.2.2.2.1 hP k0 t0 ((xW_get hk).trans (by rw [hs])) ht hin d (k H locs ls hP hD hS h)
theorem r_zald (C : Ct x own cc n rm) {k0 n0 : Nat} {cA : ClassId} (hk : k0 < x_K x) (hs : ∀ f, x_sh x k0 f = .inl (cA, n0, .inl f)) (t0 : Nat) (ht : (x_t x)[t0]? = some (cA, .boolean)) {i : Int32} (hin : vp_in i n0) (d : decode cc pc = .ok (.baload, 1)) (k : J x M (pc + 1) L (.int (M k0 i.toNatClampNeg) :: st)) : J x M pc L (.int i :: .ref (x_ad x k0) :: st) := fun H locs ls hP hD hS h =>
  va_zald C.1 C.2.1 C.2.2.2.2.2.1 hP k0 t0 ((xW_get hk).trans (by rw [hs])) ht hin d (k H locs ls hP hD hS h)
theorem r_aldq (C : Ct x own cc n rm) {k0 n0 : Nat} {cA : ClassId} {E : String} {g : Nat → Option Nat} (hk : k0 < x_K x) (hs : ∀ f, x_sh x k0 f = .inl (cA, n0, .inr (.inr (.inr (.inr g))))) (t0 : Nat) (ht : (x_t x)[t0]? = some (cA, .object E)) {i : Int32} (hin : vp_in i n0) {y : Nat} (hy : g i.toNatClampNeg = some y) (d : decode cc pc = .ok (.aaload, 1)) (k : J x M (pc + 1) L (.ref y :: st)) : J x M pc L (.int i :: .ref (x_ad x k0) :: st) := fun H locs ls hP hD hS h =>
  va_aldq C.1 C.2.1 C.2.2.2.2.2.1 hP k0 t0 ((xW_get hk).trans (by rw [hs])) ht hin d (by rw [hy]; exact k H locs ls hP hD hS h)
theorem r_alen (C : Ct x own cc n rm) {k0 n0 : Nat} {cA : ClassId} (hk : k0 < x_K x) (hs : ∀ f, x_sh x k0 f = .inl (cA, n0, .inl f)) (t0 : Nat) (ht : (x_t x)[t0]? = some (cA, .int)) {v : Int32} (hv : Int32.ofNat n0 = v) (d : decode cc pc = .ok (.arraylength, 1)) (k : J x M (pc + 1) L (.int v :: st)) : J x M pc L (.ref (x_ad x k0) :: st) := fun H locs ls hP hD hS h =>
  va_alen C.1 C.2.1 C.2.2.2.2.2.1 hP k0 t0 (x := (n0, .inl (M k0))) ((xW_get hk).trans (by rw [hs])) ht hv d (k H locs ls hP hD hS h)
theorem r_iast (C : Ct x own cc n rm) {k0 n0 : Nat} {cA : ClassId} (hk : k0 < x_K x) (hs : ∀ f, x_sh x k0 f = .inl (cA, n0, .inl f)) (t0 : Nat) (ht : (x_t x)[t0]? = some (cA, .int)) {i v : Int32} (hin : vp_in i n0) {M1 : xM} (eM : M1 = uM M k0 i.toNatClampNeg v) (d : decode cc pc = .ok (.iastore, 1)) (k : J x M1 (pc + 1) L st) : J x M pc L (.int v :: .int i :: .ref (x_ad x k0) :: st) := fun H locs ls hP hD hS h => by
  subst eM
  have he : (x_W x M)[k0]? = some (x_ad x k0, .inl (cA, n0, .inl (M k0))) := (xW_get hk).trans (by rw [hs])
  have hset : (x_W x M).set k0 (x_ad x k0, .inl (cA, n0, .inl (upd (M k0) i.toNatClampNeg v))) = x_W x (uM M k0 i.toNatClampNeg v) := by
    have e9 := xW_set (ad := x_ad x) (sh := x_sh x) (M := M) (j := i.toNatClampNeg) (v := v) hk
    rw [hs] at e9
    exact e9
  exact va_iast C.1 C.2.1 C.2.2.2.2.2.1 hP hD hS k0 t0 he ht hin d (fun H1 locs1 hP1 hD1 hS1 => k H1 locs1 ls (hset ▸ hP1) (hset ▸ hD1) hS1 h)
theorem r_zast (C : Ct x own cc n rm) {k0 n0 : Nat} {cA : ClassId} (hk : k0 < x_K x) (hs : ∀ f, x_sh x k0 f = .inl (cA, n0, .inl f)) (t0 : Nat) (ht : (x_t x)[t0]? = some (cA, .boolean)) {i v : Int32} (hin : vp_in i n0) (hv : vp_nar .boolean v = v) {M1 : xM} (eM : M1 = uM M k0 i.toNatClampNeg v) (d : decode cc pc = .ok (.bastore, 1)) (k : J x M1 (pc + 1) L st) : J x M pc L (.int v :: .int i :: .ref (x_ad x k0) :: st) := fun H locs ls hP hD hS h => by
  subst eM
  have he : (x_W x M)[k0]? = some (x_ad x k0, .inl (cA, n0, .inl (M k0))) := (xW_get hk).trans (by rw [hs])
  have hset : (x_W x M).set k0 (x_ad x k0, .inl (cA, n0, .inl (upd (M k0) i.toNatClampNeg (vp_nar .boolean v)))) = x_W x (uM M k0 i.toNatClampNeg v) := by
    have e9 := xW_set (ad := x_ad x) (sh := x_sh x) (M := M) (j := i.toNatClampNeg) (v := v) hk
    rw [hs] at e9
    rw [hv]
    exact e9
  exact va_zast C.1 C.2.1 C.2.2.2.2.2.1 hP hD hS k0 t0 he ht hin d (fun H1 locs1 hP1 hD1 hS1 => k H1 locs1 ls (hset ▸ hP1) (hset ▸ hD1) hS1 h)
theorem r_qc {H : Heap} {locs : List Loc} {t : State} (hP : va_P (x_D x) vwCl (x_W x M) H) (hD : va_D (x_A x) (x_W x M)) (hS : va_S (x_A x) (x_s x).heap H locs) (ht : t.heap = H) (eM : x_M x = M) : xQ (x_D x) (x_t x) (x_ad x) (x_sh x) (x_K x) (x_rv x) (x_M x) (x_A x) (x_a x) (x_s x) (.returned (x_rv x)) t := ⟨rfl, by rw [ht, eM]; exact hP, by rw [eM]; exact hD, hS.F ht⟩
theorem r_iret (C : Ct x own cc n rm) (hr : (x_me x).sig.returnType = some .int) {v : Int32} (ev : x_rv x = some (.int v)) (eM : x_M x = M) (d : decode cc pc = .ok (.ireturn, 1)) : J x M pc L [.int v] := fun H locs ls hP hD hS h =>
  W.iret C.1 C.2.1 hr (fun t ht _ => by have q := r_qc hP hD hS ht eM; rw [show Outcome.returned (some (Value.int v)) = .returned (x_rv x) by rw [ev]]; exact q) hS.2.2 d C.2.2.2.2.2.2.1
theorem r_zret (C : Ct x own cc n rm) (hr : (x_me x).sig.returnType = some .boolean) {v : Int32} (hv : narrow .boolean (.int v) = .int v) (ev : x_rv x = some (.int v)) (eM : x_M x = M) (d : decode cc pc = .ok (.ireturn, 1)) : J x M pc L [.int v] := fun H locs ls hP hD hS h =>
  W.zret C.1 C.2.1 hr hv (fun t ht _ => by have q := r_qc hP hD hS ht eM; rw [show Outcome.returned (some (Value.int v)) = .returned (x_rv x) by rw [ev]]; exact q) hS.2.2 d C.2.2.2.2.2.2.1
theorem r_lret (C : Ct x own cc n rm) (hr : (x_me x).sig.returnType = some .long) {v : Int64} (ev : x_rv x = some (.long v)) (eM : x_M x = M) (d : decode cc pc = .ok (.lreturn, 1)) : J x M pc L [.long v] := fun H locs ls hP hD hS h =>
  W.lret C.1 C.2.1 hr (fun t ht _ => by have q := r_qc hP hD hS ht eM; rw [show Outcome.returned (some (Value.long v)) = .returned (x_rv x) by rw [ev]]; exact q) hS.2.2 d C.2.2.2.2.2.2.1
theorem r_vret (C : Ct x own cc n rm) (hr : (x_me x).sig.returnType = none) (ev : x_rv x = none) (eM : x_M x = M) (d : decode cc pc = .ok (.return_, 1)) : J x M pc L [] := fun H locs ls hP hD hS h =>
  W.vret C.1 C.2.1 hr (fun t ht _ => by have q := r_qc hP hD hS ht eM; rw [show Outcome.returned (none : Option Value) = .returned (x_rv x) by rw [ev]]; exact q) hS.2.2 d C.2.2.2.2.2.2.1
end RULES
