/-! more instruction rules over JK; bytes -/
theorem bV : ∀ v : Nat, v < 128 → vp_nar .byte (Int32.ofNat v) = Int32.ofNat v ∧ fits .byte (.int (Int32.ofNat v)) = true ∧ (Int32.ofNat v).toInt8.toInt32 = Int32.ofNat v ∧ ((Int32.ofNat v &&& 255).toUInt32 % 65536).toInt32 = Int32.ofNat v ∧ narrow .char (.int (Int32.ofNat v)) = .int (Int32.ofNat v) := by decide +kernel
theorem nfw : nativeFrameWords "java/lang/System" "arraycopy" 5 = 7 := by decide +kernel
section VCB
variable {p : Program} {l : Launch} {e : Env} {R : Room} {s : State} {m : MethodId} {args : Array Value} {below : List Frame} {meth : Method} {c : Code} {H : Heap} {locs : List Loc} {cells slots : Nat} {Q : State → Prop} {rest : List Value} {ls : Array Slot} {pc a : Nat} {D : va_G} {cl : List vw_C} {ws : va_W} {tys : List (ClassId × FieldType)} {A : Nat → Prop}
/-- System.arraycopy of bytes out of a row that stands outside (after the kit's row for ints) -/
theorem va_copyb {cc : ByteArray} (hexec : p.tables.exec = Jvm.exec) (hb : c.code = cc) (hml : c.maxLocals = ls.size) {own : String} {index : Nat} (hown : s.vm.findClass own = some m.cls) (hlink : (Cond.methodLink own index arraycopyName).before args s = true) (hnat : (Cond.native arraycopyName).before args s = true) (hstat : (Cond.static arraycopyName).before args s = true) (hini : (Cond.initialized "java/lang/System").before args s = true)
    (hK : va_K D cl tys s) (hP : va_P D cl ws H) (hD : va_D A ws) (hS : va_S A s.heap H locs) {b0 n0 : Nat} {f : Nat → Int32} (hX : va_T .byte b0 n0 (fun j => .int (f j)) A s s.heap) (q1 t1 : Nat) {c1 : ClassId} {n1 : Nat} {g : Nat → Int32} (ha1 : ws[q1]? = some (a, .inl (c1, n1, .inl g))) (ht1 : tys[t1]? = some (c1, .byte))
    {sp dp n : Int32} (h1 : ¬ sp < 0) (h2 : ¬ dp < 0) (h3 : ¬ n < 0) (h4 : sp.toNatClampNeg + n.toNatClampNeg ≤ n0) (h5 : dp.toNatClampNeg + n.toNatClampNeg ≤ n1) (hfit : ∀ i, i < n.toNatClampNeg → fits .byte (.int (f (sp.toNatClampNeg + i))) = true)
    (hframes : 1 ≤ R.frames) (hlocals : (rest.map fun v => v.category).sum + (nativeFrameWords "java/lang/System" "arraycopy" 5 + 11) ≤ R.locals) (hdg : decode cc pc = .ok (.invokestatic index, 3))
    (kk : ∀ (H1 : Heap) (locs1 : List Loc), va_P D cl (ws.set q1 (a, .inl (c1, n1, .inl (va_cpy f g sp.toNatClampNeg dp.toNatClampNeg n.toNatClampNeg)))) H1 → va_D A (ws.set q1 (a, .inl (c1, n1, .inl (va_cpy f g sp.toNatClampNeg dp.toNatClampNeg n.toNatClampNeg)))) → va_S A s.heap H1 locs1 → W p l e R s m args below meth c H1 locs1 cells slots Q (F0 m (pc + 3) ls rest)) : W p l e R s m args below meth c H locs cells slots Q (F0 m pc ls (.int n :: .int dp :: .ref a :: .int sp :: .ref b0 :: rest)) := by
  have nn : ∀ z : Int32, ¬ z < 0 → z.toInt = (z.toNatClampNeg : Int) := by
    intro z hz
    have hz0 : (0 : Int) ≤ z.toInt := by
      have := Int32.not_lt.mp hz
      simpa using Int32.le_iff_toInt_le.mp this
    show z.toInt = ((z.toInt.toNat : Nat) : Int)
    omega
  intro T hT X
  obtain ⟨scr, hs1, hs2, hs3, hs4, hs4', hs5, hbA⟩ := hX
  have hbl : b0 < s.heap.size := (Array.getElem?_eq_some_iff.mp hs1).1
  have hc0 : H[b0]? = some scr := by rw [hS.2.1 b0 hbl hbA]; exact hs1
  have hc1 : H[a]? = some (vp_cell c1 (n1, .inl g)) := hP q1 _ ha1
  obtain ⟨hs6, k0, hk0, cm0, hkk0⟩ := hs2
  obtain ⟨-, k1, hk1, cm1, hkk1⟩ := (hK.2 t1 _ ht1).1 n1 (fun j => .int (g j))
  obtain ⟨vm', X', step⟩ := X.arraycopy hexec hown hlink hnat hstat hini (src := b0) (dst := a) (cs := scr) (cd := vp_cell c1 (n1, .inl g)) (srcPos := sp) (destPos := dp) (n := n) (by rw [hT]; exact hc0) (by rw [hT]; exact hc1)
    hs6 (fun _ h => by cases h) hs3 (fun h => by cases h) hk0 hk1 hkk0 hkk1 (by simp [refKind]) h1 h2 h3
    (by rw [nn sp h1, nn n h3]; omega)
    (by rw [nn dp h2, nn n h3]; show ¬ _ > ((arrV c1 n1 (fun j => .int (g j))).slots.size : Int); rw [arrV_size]; omega)
    (fun vm₁ _ i hi => by
      have e : scr.slots.getD (sp.toNatClampNeg + i) .null = .int (f (sp.toNatClampNeg + i)) := by
        rw [Array.getD_eq_getD_getElem?, hs5 _ (by omega)]
        rfl
      refine ⟨?_, ?_⟩
      · rw [e]
        exact hfit i hi
      · rw [e]
        exact trivial)
    (g := F0 m pc ls (.int n :: .int dp :: .ref a :: .int sp :: .ref b0 :: rest)) rfl (by rw [hml]) (rest := rest) rfl (by rw [hb]; exact hdg) hframes (by show 2 * 0 + _ + _ ≤ _; omega)
  have e1 : copied scr (vp_cell c1 (n1, .inl g)) sp dp n = vp_cell c1 (n1, .inl (va_cpy f g sp.toNatClampNeg dp.toNatClampNeg n.toNatClampNeg)) := va_copiedX (fun z => .int z) scr c1 f g hs5 h4
  rw [e1] at X' step
  have hl : a < H.size := (Array.getElem?_eq_some_iff.mp hc1).1
  have hheap : ((T.setVm vm').setCell a (vp_cell c1 (n1, .inl (va_cpy f g sp.toNatClampNeg dp.toNatClampNeg n.toNatClampNeg)))).heap = H.setIfInBounds a (vp_cell c1 (n1, .inl (va_cpy f g sp.toNatClampNeg dp.toNatClampNeg n.toNatClampNeg))) := by rw [← hT]; rfl
  have oq : ∀ q : Nat, q ≠ a → (H.setIfInBounds a (vp_cell c1 (n1, .inl (va_cpy f g sp.toNatClampNeg dp.toNatClampNeg n.toNatClampNeg))))[q]? = H[q]? := fun q hq => by simp [Array.getElem?_setIfInBounds, Ne.symm hq]
  obtain ⟨t, a1, b1⟩ := kk _ _ (hP.set hD ha1 (show (H.setIfInBounds a _)[a]? = some _ by simp [Array.getElem?_setIfInBounds, hl]) oq) (hD.set ha1) ⟨by simp; exact hS.1, fun q g1 g2 => by
      rw [oq q (fun e => g2 (by rw [e]; exact hD.2 q1 _ ha1))]
      exact hS.2.1 q g1 g2, fun q hq => by
      rcases List.mem_append.mp hq with h | h
      · exact hS.2.2 q h
      · obtain ⟨z, -, hz⟩ := List.mem_map.mp h
        rw [← hz]
        exact hD.2 q1 _ ha1⟩ _ hheap X'
  exact ⟨t, step t a1, b1⟩
end VCB
section JRULES
variable {x : kC} {own : String} {cc : ByteArray} {n : Nat} {rm : Room} {cs ss : Nat} {es es1 : List va_E} {pc : Nat} {L : List (Nat × Value)} {st : List Value} {M : xM}
theorem k_iload (C : CtK x own cc n rm) {a : Nat} {v : Int32} (q : Nat) (d : decode cc pc = .ok (.iload a, 2)) (hq : L[q]? = some (a, .int v)) (k : JK x cs ss es (pc + 2) L (.int v :: st)) : JK x cs ss es pc L st := fun H locs ls hz hP hS h => lv_iload C.1 C.2.1 d (lv_at h q hq) (k H locs ls hz hP hS h)
theorem k_istoreE (C : CtK x own cc n rm) {a : Nat} {v w : Int32} (L' : List (Nat × Value)) (d : decode cc pc = .ok (.istore a, 2)) (hn : a < n) (e : w = v) (hl : (a, Value.int w) :: L.filter (fun q => !(q.1 == a) && !(q.1 + 1 == a && q.2.category == 2)) = L') (k : JK x cs ss es (pc + 2) L' st) : JK x cs ss es pc L (.int v :: st) := by subst e; exact k_istore C L' d hn hl k
theorem k_istore_nE (C : CtK x own cc n rm) {i : Fin 4} {a : Nat} {v w : Int32} (L' : List (Nat × Value)) (d : decode cc pc = .ok (.istore_n i, 1)) (hi : (i : Nat) = a) (hn : a < n) (e : w = v) (hl : (a, Value.int w) :: L.filter (fun q => !(q.1 == a) && !(q.1 + 1 == a && q.2.category == 2)) = L') (k : JK x cs ss es (pc + 1) L' st) : JK x cs ss es pc L (.int v :: st) := by subst e; exact k_istore_n C L' d hi hn hl k
theorem k_iadd (C : CtK x own cc n rm) {a b v : Int32} (d : decode cc pc = .ok (.iadd, 1)) (e : v = a + b) (k : JK x cs ss es (pc + 1) L (.int v :: st)) : JK x cs ss es pc L (.int b :: .int a :: st) := fun H locs ls hz hP hS h => lv_iadd C.1 C.2.1 d (e ▸ k H locs ls hz hP hS h)
theorem k_isub (C : CtK x own cc n rm) {a b v : Int32} (d : decode cc pc = .ok (.isub, 1)) (e : v = a - b) (k : JK x cs ss es (pc + 1) L (.int v :: st)) : JK x cs ss es pc L (.int b :: .int a :: st) := fun H locs ls hz hP hS h => lv_isub C.1 C.2.1 d (e ▸ k H locs ls hz hP hS h)
theorem k_imul (C : CtK x own cc n rm) {a b v : Int32} (d : decode cc pc = .ok (.imul, 1)) (e : v = a * b) (k : JK x cs ss es (pc + 1) L (.int v :: st)) : JK x cs ss es pc L (.int b :: .int a :: st) := fun H locs ls hz hP hS h => lv_imul C.1 C.2.1 d (e ▸ k H locs ls hz hP hS h)
theorem k_idiv (C : CtK x own cc n rm) {a b v : Int32} (h0 : ¬ b = 0) (d : decode cc pc = .ok (.idiv, 1)) (e : v = a / b) (k : JK x cs ss es (pc + 1) L (.int v :: st)) : JK x cs ss es pc L (.int b :: .int a :: st) := fun H locs ls hz hP hS h => lv_idiv C.1 C.2.1 d h0 (e ▸ k H locs ls hz hP hS h)
theorem k_ineg (C : CtK x own cc n rm) {a v : Int32} (d : decode cc pc = .ok (.ineg, 1)) (e : v = -a) (k : JK x cs ss es (pc + 1) L (.int v :: st)) : JK x cs ss es pc L (.int a :: st) := fun H locs ls hz hP hS h => lv_ineg C.1 C.2.1 d (e ▸ k H locs ls hz hP hS h)
theorem k_ishl (C : CtK x own cc n rm) {a b v : Int32} (d : decode cc pc = .ok (.ishl, 1)) (e : v = a <<< (b &&& 31)) (k : JK x cs ss es (pc + 1) L (.int v :: st)) : JK x cs ss es pc L (.int b :: .int a :: st) := fun H locs ls hz hP hS h => lv_ishl C.1 C.2.1 d (e ▸ k H locs ls hz hP hS h)
theorem k_ishr (C : CtK x own cc n rm) {a b v : Int32} (d : decode cc pc = .ok (.ishr, 1)) (e : v = a >>> (b &&& 31)) (k : JK x cs ss es (pc + 1) L (.int v :: st)) : JK x cs ss es pc L (.int b :: .int a :: st) := fun H locs ls hz hP hS h => lv_ishr C.1 C.2.1 d (e ▸ k H locs ls hz hP hS h)
theorem k_iand (C : CtK x own cc n rm) {a b v : Int32} (d : decode cc pc = .ok (.iand, 1)) (e : v = a &&& b) (k : JK x cs ss es (pc + 1) L (.int v :: st)) : JK x cs ss es pc L (.int b :: .int a :: st) := fun H locs ls hz hP hS h => lv_iand C.1 C.2.1 d (e ▸ k H locs ls hz hP hS h)
theorem k_i2b (C : CtK x own cc n rm) {a v : Int32} (d : decode cc pc = .ok (.i2b, 1)) (e : a.toInt8.toInt32 = v) (k : JK x cs ss es (pc + 1) L (.int v :: st)) : JK x cs ss es pc L (.int a :: st) := fun H locs ls hz hP hS h => lv_i2b C.1 C.2.1 d e (k H locs ls hz hP hS h)
theorem k_i2c (C : CtK x own cc n rm) {a v : Int32} (d : decode cc pc = .ok (.i2c, 1)) (e : (a.toUInt32 % 65536).toInt32 = v) (k : JK x cs ss es (pc + 1) L (.int v :: st)) : JK x cs ss es pc L (.int a :: st) := fun H locs ls hz hP hS h => lv_i2c C.1 C.2.1 d e (k H locs ls hz hP hS h)
theorem k_ldc (C : CtK x own cc n rm) {i : Nat} {v : Int32} (hw : Cond.constant own i v ∈ bW) (d : decode cc pc = .ok (.ldc i, 2)) (k : JK x cs ss es (pc + 2) L (.int v :: st)) : JK x cs ss es pc L st := fun H locs ls hz hP hS h => lv_ldc C.1 C.2.1 C.2.2.2.1 (C.2.2.2.2.1 _ hw) d (k H locs ls hz hP hS h)
theorem k_pop (C : CtK x own cc n rm) {v : Value} (hv : v.category = 1) (d : decode cc pc = .ok (.pop, 1)) (k : JK x cs ss es (pc + 1) L st) : JK x cs ss es pc L (v :: st) := fun H locs ls hz hP hS h => lv_pop C.1 C.2.1 d hv (k H locs ls hz hP hS h)
theorem k_dup_x1 (C : CtK x own cc n rm) {v w : Value} (hv : v.category = 1) (hw : w.category = 1) (d : decode cc pc = .ok (.dup_x1, 1)) (k : JK x cs ss es (pc + 1) L (v :: w :: v :: st)) : JK x cs ss es pc L (v :: w :: st) := fun H locs ls hz hP hS h => lv_dup_x1 C.1 C.2.1 d hv hw (k H locs ls hz hP hS h)
theorem k_ifnonnull (C : CtK x own cc n rm) {a : Nat} {off : Int} (tgt : Nat) (d : decode cc pc = .ok (.ifnonnull off, 3)) (ht : (pc : Int) + off = (tgt : Int)) (k : JK x cs ss es tgt L st) : JK x cs ss es pc L (.ref a :: st) := fun H locs ls hz hP hS h => lv_ifnonnull C.1 C.2.1 d ht (k H locs ls hz hP hS h)
theorem k_if_eqT (C : CtK x own cc n rm) {a : Int32} {off : Int} (tgt : Nat) (d : decode cc pc = .ok (.ifCond .eq off, 3)) (ht : (pc : Int) + off = (tgt : Int)) (c : a = 0) (k : JK x cs ss es tgt L st) : JK x cs ss es pc L (.int a :: st) := fun H locs ls hz hP hS h => lv_if_eq C.1 C.2.1 d ht (fun _ => k H locs ls hz hP hS h) (fun q => absurd c q)
theorem k_if_eqF (C : CtK x own cc n rm) {a : Int32} {off : Int} (d : decode cc pc = .ok (.ifCond .eq off, 3)) (c : ¬ a = 0) (ht : ∃ tgt : Nat, (pc : Int) + off = (tgt : Int)) (k : JK x cs ss es (pc + 3) L st) : JK x cs ss es pc L (.int a :: st) := fun H locs ls hz hP hS h => by
  obtain ⟨tgt, ht⟩ := ht
  exact lv_if_eq C.1 C.2.1 d ht (fun q => absurd q c) (fun _ => k H locs ls hz hP hS h)
theorem k_if_neT (C : CtK x own cc n rm) {a : Int32} {off : Int} (tgt : Nat) (d : decode cc pc = .ok (.ifCond .ne off, 3)) (ht : (pc : Int) + off = (tgt : Int)) (c : ¬ a = 0) (k : JK x cs ss es tgt L st) : JK x cs ss es pc L (.int a :: st) := fun H locs ls hz hP hS h => lv_if_ne C.1 C.2.1 d ht (fun _ => k H locs ls hz hP hS h) (fun q => absurd q c)
theorem k_if_neF (C : CtK x own cc n rm) {a : Int32} {off : Int} (d : decode cc pc = .ok (.ifCond .ne off, 3)) (c : a = 0) (ht : ∃ tgt : Nat, (pc : Int) + off = (tgt : Int)) (k : JK x cs ss es (pc + 3) L st) : JK x cs ss es pc L (.int a :: st) := fun H locs ls hz hP hS h => by
  obtain ⟨tgt, ht⟩ := ht
  exact lv_if_ne C.1 C.2.1 d ht (fun q => absurd c q) (fun _ => k H locs ls hz hP hS h)
theorem k_if_le (C : CtK x own cc n rm) {a : Int32} {off : Int} (tgt : Nat) (d : decode cc pc = .ok (.ifCond .le off, 3)) (ht : (pc : Int) + off = (tgt : Int)) (kt : a ≤ 0 → JK x cs ss es tgt L st) (kf : ¬ a ≤ 0 → JK x cs ss es (pc + 3) L st) : JK x cs ss es pc L (.int a :: st) := fun H locs ls hz hP hS h => lv_if_le C.1 C.2.1 d ht (fun q => kt q H locs ls hz hP hS h) (fun q => kf q H locs ls hz hP hS h)
theorem k_if_lt (C : CtK x own cc n rm) {a : Int32} {off : Int} (tgt : Nat) (d : decode cc pc = .ok (.ifCond .lt off, 3)) (ht : (pc : Int) + off = (tgt : Int)) (kt : a < 0 → JK x cs ss es tgt L st) (kf : ¬ a < 0 → JK x cs ss es (pc + 3) L st) : JK x cs ss es pc L (.int a :: st) := fun H locs ls hz hP hS h => lv_if_lt C.1 C.2.1 d ht (fun q => kt q H locs ls hz hP hS h) (fun q => kf q H locs ls hz hP hS h)
theorem k_if_ge (C : CtK x own cc n rm) {a : Int32} {off : Int} (tgt : Nat) (d : decode cc pc = .ok (.ifCond .ge off, 3)) (ht : (pc : Int) + off = (tgt : Int)) (kt : 0 ≤ a → JK x cs ss es tgt L st) (kf : ¬ 0 ≤ a → JK x cs ss es (pc + 3) L st) : JK x cs ss es pc L (.int a :: st) := fun H locs ls hz hP hS h => lv_if_ge C.1 C.2.1 d ht (fun q => kt q H locs ls hz hP hS h) (fun q => kf q H locs ls hz hP hS h)
theorem k_icmp_gt (C : CtK x own cc n rm) {a b : Int32} {off : Int} (tgt : Nat) (d : decode cc pc = .ok (.if_icmp .gt off, 3)) (ht : (pc : Int) + off = (tgt : Int)) (kt : b < a → JK x cs ss es tgt L st) (kf : ¬ b < a → JK x cs ss es (pc + 3) L st) : JK x cs ss es pc L (.int b :: .int a :: st) := fun H locs ls hz hP hS h => lv_icmp_gt C.1 C.2.1 d ht (fun q => kt q H locs ls hz hP hS h) (fun q => kf q H locs ls hz hP hS h)
theorem k_icmp_le (C : CtK x own cc n rm) {a b : Int32} {off : Int} (tgt : Nat) (d : decode cc pc = .ok (.if_icmp .le off, 3)) (ht : (pc : Int) + off = (tgt : Int)) (kt : a ≤ b → JK x cs ss es tgt L st) (kf : ¬ a ≤ b → JK x cs ss es (pc + 3) L st) : JK x cs ss es pc L (.int b :: .int a :: st) := fun H locs ls hz hP hS h => lv_icmp_le C.1 C.2.1 d ht (fun q => kt q H locs ls hz hP hS h) (fun q => kf q H locs ls hz hP hS h)
theorem k_icmp_lt (C : CtK x own cc n rm) {a b : Int32} {off : Int} (tgt : Nat) (d : decode cc pc = .ok (.if_icmp .lt off, 3)) (ht : (pc : Int) + off = (tgt : Int)) (kt : a < b → JK x cs ss es tgt L st) (kf : ¬ a < b → JK x cs ss es (pc + 3) L st) : JK x cs ss es pc L (.int b :: .int a :: st) := fun H locs ls hz hP hS h => lv_icmp_lt C.1 C.2.1 d ht (fun q => kt q H locs ls hz hP hS h) (fun q => kf q H locs ls hz hP hS h)
theorem k_icmp_eq (C : CtK x own cc n rm) {a b : Int32} {off : Int} (tgt : Nat) (d : decode cc pc = .ok (.if_icmp .eq off, 3)) (ht : (pc : Int) + off = (tgt : Int)) (kt : a = b → JK x cs ss es tgt L st) (kf : ¬ a = b → JK x cs ss es (pc + 3) L st) : JK x cs ss es pc L (.int b :: .int a :: st) := fun H locs ls hz hP hS h => lv_icmp_eq C.1 C.2.1 d ht (fun q => kt q H locs ls hz hP hS h) (fun q => kf q H locs ls hz hP hS h)
theorem k_icmp_ne (C : CtK x own cc n rm) {a b : Int32} {off : Int} (tgt : Nat) (d : decode cc pc = .ok (.if_icmp .ne off, 3)) (ht : (pc : Int) + off = (tgt : Int)) (kt : ¬ a = b → JK x cs ss es tgt L st) (kf : a = b → JK x cs ss es (pc + 3) L st) : JK x cs ss es pc L (.int b :: .int a :: st) := fun H locs ls hz hP hS h => lv_icmp_ne C.1 C.2.1 d ht (fun q => kt q H locs ls hz hP hS h) (fun q => kf q H locs ls hz hP hS h)
theorem g_gets (C : CtG M x own cc n rm) {Cn nn d ref : String} {idx : Nat} {v : Value} (hZ : va_Z Cn nn d v (k_A x) (k_s x) (k_s x).heap) (hl : Cond.fieldLink own idx ref nn d ∈ bW) (hr : Cn = ref) (dd : decode cc pc = .ok (.getstatic idx, 3)) (k : JK x cs ss es (pc + 3) L (v :: st)) : JK x cs ss es pc L st := fun H locs ls hz hP hS h => va_gets C.1.1 C.1.2.1 hZ hS C.1.2.2.2.1 (C.1.2.2.2.2.1 _ hl) (fun _ q => hr ▸ q) dd (k H locs ls hz hP hS h)
theorem g_getO (C : CtG M x own cc n rm) {o nn d ref : String} {idx q : Nat} {v : Value} (hE : va_OF o nn d v q (k_A x) (k_s x) (k_s x).heap) (hl : Cond.fieldLink own idx ref nn d ∈ bW) (hr : o = ref) (dd : decode cc pc = .ok (.getfield idx, 3)) (k : JK x cs ss es (pc + 3) L (v :: st)) : JK x cs ss es pc L (.ref q :: st) := fun H locs ls hz hP hS h => vk_getf C.1.1 C.1.2.1 hE hS C.1.2.2.2.1 (C.1.2.2.2.2.1 _ hl) (fun _ q => hr ▸ q) dd (k H locs ls hz hP hS h)
theorem g_tb (C : CtG M x own cc n rm) {t N : Nat} {f : Nat → Value} (hT : va_T .byte t N f (k_A x) (k_s x) (k_s x).heap) {i : Int32} (hin : vp_in i N) {v : Value} (hv : f i.toNatClampNeg = v) (d : decode cc pc = .ok (.baload, 1)) (k : JK x cs ss es (pc + 1) L (v :: st)) : JK x cs ss es pc L (.int i :: .ref t :: st) := fun H locs ls hz hP hS h => va_tb C.1.1 C.1.2.1 hT hS hin hv d (k H locs ls hz hP hS h)
theorem g_ti (C : CtG M x own cc n rm) {t N : Nat} {f : Nat → Value} (hT : va_T .int t N f (k_A x) (k_s x) (k_s x).heap) {i : Int32} (hin : vp_in i N) {v : Value} (hv : f i.toNatClampNeg = v) (d : decode cc pc = .ok (.iaload, 1)) (k : JK x cs ss es (pc + 1) L (v :: st)) : JK x cs ss es pc L (.int i :: .ref t :: st) := fun H locs ls hz hP hS h => va_ti C.1.1 C.1.2.1 hT hS hin hv d (k H locs ls hz hP hS h)
theorem g_alen (C : CtG M x own cc n rm) {i n0 : Nat} {f : Nat → Int32} (he : es[i]? = some (.inl ((k_D x).1 106, n0, .inl f))) {v : Int32} (hv : Int32.ofNat n0 = v) {a : Nat} (ha : a = k_b x + i) (d : decode cc pc = .ok (.arraylength, 1)) (k : JK x cs ss es (pc + 1) L (.int v :: st)) : JK x cs ss es pc L (.ref a :: st) := fun H locs ls hz hP hS h => by
  subst ha
  exact va_alen C.1.1 C.1.2.1 C.2.1 hP i 0 (x := (n0, .inl f)) (xl_at he) rfl hv d (k H locs ls hz hP hS h)
theorem g_bald (C : CtG M x own cc n rm) {i n0 : Nat} {f : Nat → Int32} (he : es[i]? = some (.inl ((k_D x).1 106, n0, .inl f))) {j v : Int32} (hin : vp_in j n0) (hv : f j.toNatClampNeg = v) {a : Nat} (ha : a = k_b x + i) (d : decode cc pc = .ok (.baload, 1)) (k : JK x cs ss es (pc + 1) L (.int v :: st)) : JK x cs ss es pc L (.int j :: .ref a :: st) := fun H locs ls hz hP hS h => by
  subst ha; subst hv
  exact va_bald C.1.1 C.1.2.1 C.2.1 hP i 0 (xl_at he) rfl hin d (k H locs ls hz hP hS h)
theorem g_bast (C : CtG M x own cc n rm) {i n0 : Nat} {f : Nat → Int32} (he : es[i]? = some (.inl ((k_D x).1 106, n0, .inl f))) {j v w : Int32} (hin : vp_in j n0) (hw : vp_nar .byte v = w) {a : Nat} (ha : a = k_b x + i) (e1 : es.set i (.inl ((k_D x).1 106, n0, .inl (upd f j.toNatClampNeg w))) = es1) (d : decode cc pc = .ok (.bastore, 1)) (k : JK x cs ss es1 (pc + 1) L st) : JK x cs ss es pc L (.int v :: .int j :: .ref a :: st) := fun H locs ls hz hP hS h => by
  subst e1; subst ha; subst hw
  refine va_bast C.1.1 C.1.2.1 C.2.1 hP (xl_D (A := k_A x) (fun q h => h)) hS i 0 (xl_at he) rfl hin d (fun H1 locs1 hP1 hD1 hS1 => ?_)
  exact k_wr he (by rw [List.length_set]) hz.2 (by rw [← xl_set]; exact hP1) hS1 h k
theorem g_newb (C : CtG M x own cc n rm) (harr : Cond.arrayClass .byte ∈ bW) {a : Int32} {N : Nat} (hn : ¬ a < 0) (hN : a.toNatClampNeg = N) (hb : N * componentBytes .byte ≤ 536870912) (hR : cs + 1 ≤ rm.cells ∧ ss + N ≤ rm.slots) (d : decode cc pc = .ok (.newarray .byte, 2))
    (k : JK x (cs + 1) (ss + N) (es ++ [.inl ((k_D x).1 106, N, .inl (fun _ => 0))]) (pc + 2) L (.ref (k_b x + es.length) :: st)) : JK x cs ss es pc L (.int a :: st) := fun H locs ls hz hP hS h => by
  refine va_newaK C.1.1 C.1.2.1 (atype := .byte) (C.1.2.2.2.2.1 _ harr) rfl d rfl hn hN hb (by rw [C.1.2.2.2.2.2.2.2.2.1]; exact hR.1) (by rw [C.1.2.2.2.2.2.2.2.2.1]; exact hR.2) hz.1 fun H1 cA' e1 z1 o1 hAr hNm => ?_
  have hcA : cA' = (k_D x).1 106 := Option.some.inj (hNm.symm.trans (C.2.1.2 0 _ rfl).2)
  subst hcA
  have o2 : ∀ q, q < H.size → H1[q]? = H[q]? := fun q hq => o1 q (by have := hz.1; omega)
  exact k H1 locs ls ⟨by rw [z1, List.length_append]; rfl, by have := hz.2; rw [List.length_append]; show _ + (cs + 1) = _ + (_ + 1); omega⟩ (k_push hz.1 hP (by show H1[_]? = some (vp_cell _ _); rw [e1]; rfl) o2) (k_S hS (by have := hz.1; omega) o2) h
/-- arraycopy of bytes between new rows -/
theorem g_copy (C : CtG M x own cc n rm) {idx i0 i1 n0 n1 : Nat} {f g : Nat → Int32} (hw : Cond.methodLink own idx arraycopyName ∈ bW ∧ Cond.native arraycopyName ∈ bW ∧ Cond.static arraycopyName ∈ bW ∧ Cond.initialized "java/lang/System" ∈ bW) (he0 : es[i0]? = some (.inl ((k_D x).1 106, n0, .inl f))) (he1 : es[i1]? = some (.inl ((k_D x).1 106, n1, .inl g)))
    {sp dp m : Int32} (h1 : ¬ sp < 0) (h2 : ¬ dp < 0) (h3 : ¬ m < 0) (h4 : sp.toNatClampNeg + m.toNatClampNeg ≤ n0) (h5 : dp.toNatClampNeg + m.toNatClampNeg ≤ n1) (hfit : sb_Fit f) {a0 a1 : Nat} (ha0 : a0 = k_b x + i0) (ha1 : a1 = k_b x + i1) (e1 : es.set i1 (.inl ((k_D x).1 106, n1, .inl (va_cpy f g sp.toNatClampNeg dp.toNatClampNeg m.toNatClampNeg))) = es1)
    (hfr : 1 ≤ rm.frames) (hlo : 26 ≤ rm.locals) (hcat : (st.map fun v => v.category).sum ≤ 8) (d : decode cc pc = .ok (.invokestatic idx, 3)) (k : JK x cs ss es1 (pc + 3) L st) : JK x cs ss es pc L (.int m :: .int dp :: .ref a1 :: .int sp :: .ref a0 :: st) := fun H locs ls hz hP hS h => by
  subst e1; subst ha0; subst ha1
  have CK := C.1
  refine va_copyi CK.1 CK.2.1 (CK.2.2.1.trans ((h.1.trans CK.2.2.2.2.2.2.2.1).symm)) CK.2.2.2.1 (CK.2.2.2.2.1 _ hw.1) (CK.2.2.2.2.1 _ hw.2.1) (CK.2.2.2.2.1 _ hw.2.2.1) (CK.2.2.2.2.1 _ hw.2.2.2) C.2.1 hP (xl_D (A := k_A x) (fun q h => h)) hS i0 i1 0 0 (ty := .byte) (xl_at he0) (xl_at he1) rfl rfl rfl h1 h2 h3 h4 h5 (fun i _ => hfit _) (by rw [CK.2.2.2.2.2.2.2.2.1]; exact hfr) (by rw [CK.2.2.2.2.2.2.2.2.1, nfw]; omega) d (fun H1 locs1 hP1 hD1 hS1 => ?_)
  exact k_wr he1 (by rw [List.length_set]) hz.2 (by rw [← xl_set]; exact hP1) hS1 h k
/-- out of a row that stands outside -/
theorem g_copyT (C : CtG M x own cc n rm) {idx t i1 n0 n1 : Nat} {f g : Nat → Int32} (hw : Cond.methodLink own idx arraycopyName ∈ bW ∧ Cond.native arraycopyName ∈ bW ∧ Cond.static arraycopyName ∈ bW ∧ Cond.initialized "java/lang/System" ∈ bW) (hT : va_T .byte t n0 (fun j => .int (f j)) (k_A x) (k_s x) (k_s x).heap) (he1 : es[i1]? = some (.inl ((k_D x).1 106, n1, .inl g)))
    {sp dp m : Int32} (h1 : ¬ sp < 0) (h2 : ¬ dp < 0) (h3 : ¬ m < 0) (h4 : sp.toNatClampNeg + m.toNatClampNeg ≤ n0) (h5 : dp.toNatClampNeg + m.toNatClampNeg ≤ n1) (hfit : ∀ i, i < m.toNatClampNeg → fits .byte (.int (f (sp.toNatClampNeg + i))) = true) {a1 : Nat} (ha1 : a1 = k_b x + i1) (e1 : es.set i1 (.inl ((k_D x).1 106, n1, .inl (va_cpy f g sp.toNatClampNeg dp.toNatClampNeg m.toNatClampNeg))) = es1)
    (hfr : 1 ≤ rm.frames) (hlo : 26 ≤ rm.locals) (hcat : (st.map fun v => v.category).sum ≤ 8) (d : decode cc pc = .ok (.invokestatic idx, 3)) (k : JK x cs ss es1 (pc + 3) L st) : JK x cs ss es pc L (.int m :: .int dp :: .ref a1 :: .int sp :: .ref t :: st) := fun H locs ls hz hP hS h => by
  subst e1; subst ha1
  have CK := C.1
  refine va_copyb CK.1 CK.2.1 (CK.2.2.1.trans ((h.1.trans CK.2.2.2.2.2.2.2.1).symm)) CK.2.2.2.1 (CK.2.2.2.2.1 _ hw.1) (CK.2.2.2.2.1 _ hw.2.1) (CK.2.2.2.2.1 _ hw.2.2.1) (CK.2.2.2.2.1 _ hw.2.2.2) C.2.1 hP (xl_D (A := k_A x) (fun q h => h)) hS hT i1 0 (xl_at he1) rfl h1 h2 h3 h4 h5 hfit (by rw [CK.2.2.2.2.2.2.2.2.1]; exact hfr) (by rw [CK.2.2.2.2.2.2.2.2.1, nfw]; omega) d (fun H1 locs1 hP1 hD1 hS1 => ?_)
  exact k_wr he1 (by rw [List.length_set]) hz.2 (by rw [← xl_set]; exact hP1) hS1 h k
theorem k_mmax (C : CtK x own cc n rm) {idx : Nat} (hw : Cond.methodLink own idx Lib.Math.max.name ∈ bW ∧ Cond.static Lib.Math.max.name ∈ bW ∧ Cond.initialized "java/lang/Math" ∈ bW ∧ Cond.code Lib.Math.max.name Lib.Math.max.code 2 (some .int) ∈ bW) (hfr : 1 ≤ rm.frames) (hlo : 21 ≤ rm.locals) (hf : cs ≤ rm.cells ∧ ss ≤ rm.slots) (hcat : (st.map fun v => v.category).sum ≤ 8) {a b v : Int32} (e : (if a < b then b else a) = v) (d : decode cc pc = .ok (.invokestatic idx, 3)) (k : JK x cs ss es (pc + 3) L (.int v :: st)) : JK x cs ss es pc L (.int b :: .int a :: st) := fun H locs ls hz hP hS h => by
  subst e
  exact va_mmax C.1 C.2.1 (C.2.2.1.trans ((h.1.trans C.2.2.2.2.2.2.2.1).symm)) C.2.2.2.1 (C.2.2.2.2.1 _ hw.1) (C.2.2.2.2.1 _ hw.2.1) (C.2.2.2.2.1 _ hw.2.2.1) (C.2.2.2.2.1 _ hw.2.2.2) (by rw [C.2.2.2.2.2.2.2.2.1]; exact hfr) (by rw [C.2.2.2.2.2.2.2.2.1]; omega) (by rw [C.2.2.2.2.2.2.2.2.1]; exact hf.1) (by rw [C.2.2.2.2.2.2.2.2.1]; exact hf.2) d (k H locs ls hz hP hS h)
theorem k_mmin (C : CtK x own cc n rm) {idx : Nat} (hw : Cond.methodLink own idx Lib.Math.min.name ∈ bW ∧ Cond.static Lib.Math.min.name ∈ bW ∧ Cond.initialized "java/lang/Math" ∈ bW ∧ Cond.code Lib.Math.min.name Lib.Math.min.code 2 (some .int) ∈ bW) (hfr : 1 ≤ rm.frames) (hlo : 21 ≤ rm.locals) (hf : cs ≤ rm.cells ∧ ss ≤ rm.slots) (hcat : (st.map fun v => v.category).sum ≤ 8) {a b v : Int32} (e : (if b < a then b else a) = v) (d : decode cc pc = .ok (.invokestatic idx, 3)) (k : JK x cs ss es (pc + 3) L (.int v :: st)) : JK x cs ss es pc L (.int b :: .int a :: st) := fun H locs ls hz hP hS h => by
  subst e
  exact va_mmin C.1 C.2.1 (C.2.2.1.trans ((h.1.trans C.2.2.2.2.2.2.2.1).symm)) C.2.2.2.1 (C.2.2.2.2.1 _ hw.1) (C.2.2.2.2.1 _ hw.2.1) (C.2.2.2.2.1 _ hw.2.2.1) (C.2.2.2.2.1 _ hw.2.2.2) (by rw [C.2.2.2.2.2.2.2.2.1]; exact hfr) (by rw [C.2.2.2.2.2.2.2.2.1]; omega) (by rw [C.2.2.2.2.2.2.2.2.1]; exact hf.1) (by rw [C.2.2.2.2.2.2.2.2.1]; exact hf.2) d (k H locs ls hz hP hS h)
-- ends
theorem g_vret (C : CtG M x own cc n rm) (hr : (k_me x).sig.returnType = none) (eQ : k_Q x = MQ (k_be x) (gQ (k_D x) (k_b x) none es) (k_a x) (k_s x) cs ss (k_A x)) (d : decode cc pc = .ok (.return_, 1)) : JK x cs ss es pc L [] := fun H locs ls hz hP hS h => by
  rw [eQ]
  exact W.vret C.1.1 C.1.2.1 hr (fun t ht _ => ⟨rfl, by rw [ht]; exact hz.1, by rw [ht]; exact hP, hS.F ht⟩) hS.2.2 d C.1.2.2.2.2.2.2.1
theorem g_nret (C : CtG M x own cc n rm) {ty : FieldType} {v : Int32} (hr : (k_me x).sig.returnType = some ty) (hv : narrow ty (.int v) = .int v) (eQ : k_Q x = MQ (k_be x) (gQ (k_D x) (k_b x) (some (.int v)) es) (k_a x) (k_s x) cs ss (k_A x)) (d : decode cc pc = .ok (.ireturn, 1)) : JK x cs ss es pc L [.int v] := fun H locs ls hz hP hS h => by
  rw [eQ]
  exact W.zret C.1.1 C.1.2.1 hr hv (fun t ht _ => ⟨rfl, by rw [ht]; exact hz.1, by rw [ht]; exact hP, hS.F ht⟩) hS.2.2 d C.1.2.2.2.2.2.2.1
theorem g_aret (C : CtG M x own cc n rm) {ty : FieldType} {a : Nat} (hr : (k_me x).sig.returnType = some ty) (ht0 : (∃ n, ty = .object n) ∨ ∃ t, ty = .array t) (eQ : k_Q x = MQ (k_be x) (gQ (k_D x) (k_b x) (some (.ref a)) es) (k_a x) (k_s x) cs ss (k_A x)) (d : decode cc pc = .ok (.areturn, 1)) : JK x cs ss es pc L [.ref a] := fun H locs ls hz hP hS h => by
  rw [eQ]
  exact W.aret C.1.1 C.1.2.1 hr ht0 (Or.inr ⟨a, rfl⟩) (fun t ht _ => ⟨rfl, by rw [ht]; exact hz.1, by rw [ht]; exact hP, hS.F ht⟩) hS.2.2 d C.1.2.2.2.2.2.2.1
end JRULES
