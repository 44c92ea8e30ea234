theorem kw_12 : (Jvm.Cond.initialized "java/lang/String") ∈ bW := bw_of 97 (by decide +kernel) (by decide +kernel)
theorem kw_13 : (Jvm.Cond.initialized "java/lang/StringLatin1") ∈ bW := bw_of 98 (by decide +kernel) (by decide +kernel)
theorem kw_14 : (Jvm.Cond.initialized "jdk/internal/util/Preconditions") ∈ bW := bw_of 99 (by decide +kernel) (by decide +kernel)
theorem kw_393 : (Jvm.Cond.methodLink "GuardRolls$Tape" (23 : Nat) ({ cls := "java/lang/String", name := "length", desc := "()I" } : Jvm.MethodName)) ∈ bW := bw_of 478 (by decide +kernel) (by decide +kernel)
theorem kw_394 : (Jvm.Cond.instanceMethod ({ cls := "java/lang/String", name := "length", desc := "()I" } : Jvm.MethodName)) ∈ bW := bw_of 479 (by decide +kernel) (by decide +kernel)
theorem kw_395 : (Jvm.Cond.selects "java/lang/String" ({ cls := "java/lang/String", name := "length", desc := "()I" } : Jvm.MethodName) ({ cls := "java/lang/String", name := "length", desc := "()I" } : Jvm.MethodName)) ∈ bW := bw_of 480 (by decide +kernel) (by decide +kernel)
theorem kw_396 : (Jvm.Cond.code ({ cls := "java/lang/String", name := "length", desc := "()I" } : Jvm.MethodName) prog_26_method_54_code (1 : Nat) (Option.some Jvm.ClassFile.FieldType.int)) ∈ bW := bw_of 481 (by decide +kernel) (by decide +kernel)
theorem kw_397 : (Jvm.Cond.methodLink "java/lang/String" (335 : Nat) ({ cls := "java/lang/String", name := "coder", desc := "()B" } : Jvm.MethodName)) ∈ bW := bw_of 482 (by decide +kernel) (by decide +kernel)
theorem kw_398 : (Jvm.Cond.instanceMethod ({ cls := "java/lang/String", name := "coder", desc := "()B" } : Jvm.MethodName)) ∈ bW := bw_of 483 (by decide +kernel) (by decide +kernel)
theorem kw_399 : (Jvm.Cond.selects "java/lang/String" ({ cls := "java/lang/String", name := "coder", desc := "()B" } : Jvm.MethodName) ({ cls := "java/lang/String", name := "coder", desc := "()B" } : Jvm.MethodName)) ∈ bW := bw_of 484 (by decide +kernel) (by decide +kernel)
theorem kw_400 : (Jvm.Cond.code ({ cls := "java/lang/String", name := "coder", desc := "()B" } : Jvm.MethodName) prog_26_method_152_code (1 : Nat) (Option.some Jvm.ClassFile.FieldType.byte)) ∈ bW := bw_of 485 (by decide +kernel) (by decide +kernel)
theorem kw_401 : (Jvm.Cond.fieldLink "java/lang/String" (38 : Nat) "java/lang/String" "COMPACT_STRINGS" "Z") ∈ bW := bw_of 486 (by decide +kernel) (by decide +kernel)
theorem kw_403 : (Jvm.Cond.methodLink "GuardRolls$Tape" (28 : Nat) ({ cls := "java/lang/String", name := "charAt", desc := "(I)C" } : Jvm.MethodName)) ∈ bW := bw_of 488 (by decide +kernel) (by decide +kernel)
theorem kw_404 : (Jvm.Cond.instanceMethod ({ cls := "java/lang/String", name := "charAt", desc := "(I)C" } : Jvm.MethodName)) ∈ bW := bw_of 489 (by decide +kernel) (by decide +kernel)
theorem kw_405 : (Jvm.Cond.selects "java/lang/String" ({ cls := "java/lang/String", name := "charAt", desc := "(I)C" } : Jvm.MethodName) ({ cls := "java/lang/String", name := "charAt", desc := "(I)C" } : Jvm.MethodName)) ∈ bW := bw_of 490 (by decide +kernel) (by decide +kernel)
theorem kw_406 : (Jvm.Cond.code ({ cls := "java/lang/String", name := "charAt", desc := "(I)C" } : Jvm.MethodName) prog_26_method_56_code (2 : Nat) (Option.some Jvm.ClassFile.FieldType.char)) ∈ bW := bw_of 491 (by decide +kernel) (by decide +kernel)
theorem kw_407 : (Jvm.Cond.methodLink "java/lang/String" (492 : Nat) ({ cls := "java/lang/String", name := "isLatin1", desc := "()Z" } : Jvm.MethodName)) ∈ bW := bw_of 492 (by decide +kernel) (by decide +kernel)
theorem kw_408 : (Jvm.Cond.instanceMethod ({ cls := "java/lang/String", name := "isLatin1", desc := "()Z" } : Jvm.MethodName)) ∈ bW := bw_of 493 (by decide +kernel) (by decide +kernel)
theorem kw_409 : (Jvm.Cond.selects "java/lang/String" ({ cls := "java/lang/String", name := "isLatin1", desc := "()Z" } : Jvm.MethodName) ({ cls := "java/lang/String", name := "isLatin1", desc := "()Z" } : Jvm.MethodName)) ∈ bW := bw_of 494 (by decide +kernel) (by decide +kernel)
theorem kw_410 : (Jvm.Cond.code ({ cls := "java/lang/String", name := "isLatin1", desc := "()Z" } : Jvm.MethodName) prog_26_method_154_code (1 : Nat) (Option.some Jvm.ClassFile.FieldType.boolean)) ∈ bW := bw_of 495 (by decide +kernel) (by decide +kernel)
theorem kw_411 : (Jvm.Cond.methodLink "java/lang/String" (495 : Nat) ({ cls := "java/lang/StringLatin1", name := "charAt", desc := "([BI)C" } : Jvm.MethodName)) ∈ bW := bw_of 496 (by decide +kernel) (by decide +kernel)
theorem kw_412 : (Jvm.Cond.static ({ cls := "java/lang/StringLatin1", name := "charAt", desc := "([BI)C" } : Jvm.MethodName)) ∈ bW := bw_of 497 (by decide +kernel) (by decide +kernel)
theorem kw_413 : (Jvm.Cond.code ({ cls := "java/lang/StringLatin1", name := "charAt", desc := "([BI)C" } : Jvm.MethodName) prog_28_method_2_code (2 : Nat) (Option.some Jvm.ClassFile.FieldType.char)) ∈ bW := bw_of 498 (by decide +kernel) (by decide +kernel)
theorem kw_414 : (Jvm.Cond.methodLink "java/lang/StringLatin1" (9 : Nat) ({ cls := "java/lang/String", name := "checkIndex", desc := "(II)V" } : Jvm.MethodName)) ∈ bW := bw_of 499 (by decide +kernel) (by decide +kernel)
theorem kw_415 : (Jvm.Cond.static ({ cls := "java/lang/String", name := "checkIndex", desc := "(II)V" } : Jvm.MethodName)) ∈ bW := bw_of 500 (by decide +kernel) (by decide +kernel)
theorem kw_416 : (Jvm.Cond.code ({ cls := "java/lang/String", name := "checkIndex", desc := "(II)V" } : Jvm.MethodName) prog_26_method_155_code (2 : Nat) (Option.none : Option Jvm.ClassFile.FieldType)) ∈ bW := bw_of 501 (by decide +kernel) (by decide +kernel)
theorem kw_417 : (Jvm.Cond.fieldLink "java/lang/String" (1053 : Nat) "jdk/internal/util/Preconditions" "SIOOBE_FORMATTER" "Ljava/util/function/BiFunction;") ∈ bW := bw_of 502 (by decide +kernel) (by decide +kernel)
theorem kw_419 : (Jvm.Cond.methodLink "java/lang/String" (1059 : Nat) ({ cls := "jdk/internal/util/Preconditions", name := "checkIndex", desc := "(IILjava/util/function/BiFunction;)I" } : Jvm.MethodName)) ∈ bW := bw_of 504 (by decide +kernel) (by decide +kernel)
theorem kw_420 : (Jvm.Cond.static ({ cls := "jdk/internal/util/Preconditions", name := "checkIndex", desc := "(IILjava/util/function/BiFunction;)I" } : Jvm.MethodName)) ∈ bW := bw_of 505 (by decide +kernel) (by decide +kernel)
theorem kw_421 : (Jvm.Cond.code ({ cls := "jdk/internal/util/Preconditions", name := "checkIndex", desc := "(IILjava/util/function/BiFunction;)I" } : Jvm.MethodName) prog_37_method_11_code (3 : Nat) (Option.some Jvm.ClassFile.FieldType.int)) ∈ bW := bw_of 506 (by decide +kernel) (by decide +kernel)
theorem kw_1402 : (Jvm.Cond.methodLink "GuardRollsModel" (104 : Nat) ({ cls := "java/lang/String", name := "length", desc := "()I" } : Jvm.MethodName)) ∈ bW := bw_of 1487 (by decide +kernel) (by decide +kernel)
theorem kw_1403 : (Jvm.Cond.methodLink "GuardRollsModel" (110 : Nat) ({ cls := "java/lang/String", name := "charAt", desc := "(I)C" } : Jvm.MethodName)) ∈ bW := bw_of 1488 (by decide +kernel) (by decide +kernel)
theorem kw_1872 : (Jvm.Cond.fieldLink "java/lang/String" (9 : Nat) "java/lang/String" "value" "[B") ∈ bW := bw_of 1957 (by decide +kernel) (by decide +kernel)
theorem kw_1873 : (Jvm.Cond.fieldLink "java/lang/String" (15 : Nat) "java/lang/String" "coder" "B") ∈ bW := bw_of 1958 (by decide +kernel) (by decide +kernel)
theorem dJ0_coder_7d493_0 : decode cJ0_coder_7d493 0 = .ok (.getstatic 38, 3) := by decide +kernel
theorem dJ0_coder_7d493_3 : decode cJ0_coder_7d493 3 = .ok (.ifCond .eq 10, 3) := by decide +kernel
theorem dJ0_coder_7d493_6 : decode cJ0_coder_7d493 6 = .ok (.aload_n 0, 1) := by decide +kernel
theorem dJ0_coder_7d493_7 : decode cJ0_coder_7d493 7 = .ok (.getfield 15, 3) := by decide +kernel
theorem dJ0_coder_7d493_10 : decode cJ0_coder_7d493 10 = .ok (.goto 4, 3) := by decide +kernel
theorem dJ0_coder_7d493_14 : decode cJ0_coder_7d493 14 = .ok (.ireturn, 1) := by decide +kernel
theorem dJ0_isLatin1_aae02_0 : decode cJ0_isLatin1_aae02 0 = .ok (.getstatic 38, 3) := by decide +kernel
theorem dJ0_isLatin1_aae02_3 : decode cJ0_isLatin1_aae02 3 = .ok (.ifCond .eq 14, 3) := by decide +kernel
theorem dJ0_isLatin1_aae02_6 : decode cJ0_isLatin1_aae02 6 = .ok (.aload_n 0, 1) := by decide +kernel
theorem dJ0_isLatin1_aae02_7 : decode cJ0_isLatin1_aae02 7 = .ok (.getfield 15, 3) := by decide +kernel
theorem dJ0_isLatin1_aae02_10 : decode cJ0_isLatin1_aae02 10 = .ok (.ifCond .ne 7, 3) := by decide +kernel
theorem dJ0_isLatin1_aae02_13 : decode cJ0_isLatin1_aae02 13 = .ok (.iconst 1, 1) := by decide +kernel
theorem dJ0_isLatin1_aae02_14 : decode cJ0_isLatin1_aae02 14 = .ok (.goto 4, 3) := by decide +kernel
theorem dJ0_isLatin1_aae02_18 : decode cJ0_isLatin1_aae02 18 = .ok (.ireturn, 1) := by decide +kernel
theorem dJ0_length_8abf5_0 : decode cJ0_length_8abf5 0 = .ok (.aload_n 0, 1) := by decide +kernel
theorem dJ0_length_8abf5_1 : decode cJ0_length_8abf5 1 = .ok (.getfield 9, 3) := by decide +kernel
theorem dJ0_length_8abf5_4 : decode cJ0_length_8abf5 4 = .ok (.arraylength, 1) := by decide +kernel
theorem dJ0_length_8abf5_5 : decode cJ0_length_8abf5 5 = .ok (.aload_n 0, 1) := by decide +kernel
theorem dJ0_length_8abf5_6 : decode cJ0_length_8abf5 6 = .ok (.invokevirtual 335, 3) := by decide +kernel
theorem dJ0_length_8abf5_9 : decode cJ0_length_8abf5 9 = .ok (.ishr, 1) := by decide +kernel
theorem dJ0_length_8abf5_10 : decode cJ0_length_8abf5 10 = .ok (.ireturn, 1) := by decide +kernel
theorem dJ0_charAt_5068e_0 : decode cJ0_charAt_5068e 0 = .ok (.aload_n 0, 1) := by decide +kernel
theorem dJ0_charAt_5068e_1 : decode cJ0_charAt_5068e 1 = .ok (.invokevirtual 492, 3) := by decide +kernel
theorem dJ0_charAt_5068e_4 : decode cJ0_charAt_5068e 4 = .ok (.ifCond .eq 12, 3) := by decide +kernel
theorem dJ0_charAt_5068e_7 : decode cJ0_charAt_5068e 7 = .ok (.aload_n 0, 1) := by decide +kernel
theorem dJ0_charAt_5068e_8 : decode cJ0_charAt_5068e 8 = .ok (.getfield 9, 3) := by decide +kernel
theorem dJ0_charAt_5068e_11 : decode cJ0_charAt_5068e 11 = .ok (.iload_n 1, 1) := by decide +kernel
theorem dJ0_charAt_5068e_12 : decode cJ0_charAt_5068e 12 = .ok (.invokestatic 495, 3) := by decide +kernel
theorem dJ0_charAt_5068e_15 : decode cJ0_charAt_5068e 15 = .ok (.ireturn, 1) := by decide +kernel
theorem dJ1_charAt_3b067_0 : decode cJ1_charAt_3b067 0 = .ok (.iload_n 1, 1) := by decide +kernel
theorem dJ1_charAt_3b067_1 : decode cJ1_charAt_3b067 1 = .ok (.aload_n 0, 1) := by decide +kernel
theorem dJ1_charAt_3b067_2 : decode cJ1_charAt_3b067 2 = .ok (.arraylength, 1) := by decide +kernel
theorem dJ1_charAt_3b067_3 : decode cJ1_charAt_3b067 3 = .ok (.invokestatic 9, 3) := by decide +kernel
theorem dJ1_charAt_3b067_6 : decode cJ1_charAt_3b067 6 = .ok (.aload_n 0, 1) := by decide +kernel
theorem dJ1_charAt_3b067_7 : decode cJ1_charAt_3b067 7 = .ok (.iload_n 1, 1) := by decide +kernel
theorem dJ1_charAt_3b067_8 : decode cJ1_charAt_3b067 8 = .ok (.baload, 1) := by decide +kernel
theorem dJ1_charAt_3b067_9 : decode cJ1_charAt_3b067 9 = .ok (.sipush 255, 3) := by decide +kernel
theorem dJ1_charAt_3b067_12 : decode cJ1_charAt_3b067 12 = .ok (.iand, 1) := by decide +kernel
theorem dJ1_charAt_3b067_13 : decode cJ1_charAt_3b067 13 = .ok (.i2c, 1) := by decide +kernel
theorem dJ1_charAt_3b067_14 : decode cJ1_charAt_3b067 14 = .ok (.ireturn, 1) := by decide +kernel
theorem dJ0_checkIndex_df160_0 : decode cJ0_checkIndex_df160 0 = .ok (.iload_n 0, 1) := by decide +kernel
theorem dJ0_checkIndex_df160_1 : decode cJ0_checkIndex_df160 1 = .ok (.iload_n 1, 1) := by decide +kernel
theorem dJ0_checkIndex_df160_2 : decode cJ0_checkIndex_df160 2 = .ok (.getstatic 1053, 3) := by decide +kernel
theorem dJ0_checkIndex_df160_5 : decode cJ0_checkIndex_df160 5 = .ok (.invokestatic 1059, 3) := by decide +kernel
theorem dJ0_checkIndex_df160_8 : decode cJ0_checkIndex_df160 8 = .ok (.pop, 1) := by decide +kernel
theorem dJ0_checkIndex_df160_9 : decode cJ0_checkIndex_df160 9 = .ok (.return_, 1) := by decide +kernel
theorem dJ3_checkIndex_8e157_0 : decode cJ3_checkIndex_8e157 0 = .ok (.iload_n 0, 1) := by decide +kernel
theorem dJ3_checkIndex_8e157_1 : decode cJ3_checkIndex_8e157 1 = .ok (.ifCond .lt 8, 3) := by decide +kernel
theorem dJ3_checkIndex_8e157_4 : decode cJ3_checkIndex_8e157 4 = .ok (.iload_n 0, 1) := by decide +kernel
theorem dJ3_checkIndex_8e157_5 : decode cJ3_checkIndex_8e157 5 = .ok (.iload_n 1, 1) := by decide +kernel
theorem dJ3_checkIndex_8e157_6 : decode cJ3_checkIndex_8e157 6 = .ok (.if_icmp .lt 10, 3) := by decide +kernel
theorem dJ3_checkIndex_8e157_16 : decode cJ3_checkIndex_8e157 16 = .ok (.iload_n 0, 1) := by decide +kernel
theorem dJ3_checkIndex_8e157_17 : decode cJ3_checkIndex_8e157 17 = .ok (.ireturn, 1) := by decide +kernel

theorem vp_lt0 {i : Int32} {n : Nat} (h : vp_in i n) : i.toNatClampNeg < n := Nat.not_le.mp fun q => h (Or.inr q)
theorem sByt_ok : ∀ i, i < 14 → ∀ j, j < sLen i → ((sByt i j &&& 255).toUInt32 % 65536).toInt32 = sByt i j ∧ narrow .char (.int (sByt i j)) = .int (sByt i j) := by decide +kernel
theorem sLen_ok : ∀ i, i < 14 → sLen i < 6 ∧ 0 < sLen i := by decide +kernel
section STR
variable {x : xC} {own : String} {cc : ByteArray} {n : Nat} {rm : Room} {M M1 : xM} {pc : Nat} {L : List (Nat × Value)} {st st0 : List Value}
theorem r_nret (C : Ct x own cc n rm) {ty : FieldType} (hr : (x_me x).sig.returnType = some ty) {v : Int32} (hv : narrow ty (.int v) = .int v) (ev : x_rv x = some (.int v)) (eM : x_M x = M) (d : decode cc pc = .ok (.ireturn, 1)) : J x M pc L [.int v] := fun H locs ls hP hD hS h =>
  W.zret C.1 C.2.1 hr hv (fun t ht _ => by have q := r_qc hP hD hS ht eM; rw [show Outcome.returned (some (Value.int v)) = .returned (x_rv x) by rw [ev]]; exact q) hS.2.2 d C.2.2.2.2.2.2.1
theorem r_getO (C : Ct x own cc n rm) {o nn d ref : String} {idx q : Nat} {v : Value} (hE : va_OF o nn d v q (x_A x) (x_s x) (x_s x).heap) (hl : Cond.fieldLink own idx ref nn d ∈ bW) (hr : o = ref) (dd : decode cc pc = .ok (.getfield idx, 3)) (k : J x M (pc + 3) L (v :: st)) : J x M pc L (.ref q :: st) := fun H locs ls hP hD hS h => vk_getf C.1 C.2.1 hE hS C.2.2.2.1 (C.2.2.2.2.1 _ hl) (fun _ q => hr ▸ q) dd (k H locs ls hP hD hS h)
theorem r_gets0 (C : Ct x own cc n rm) {Cn nn d ref : String} {idx : Nat} {v : Value} (hZ : va_Z Cn nn d v (x_A x) (x_s x) (x_s x).heap) (hl : Cond.fieldLink own idx ref nn d ∈ bW) (hr : Cn = ref) (dd : decode cc pc = .ok (.getstatic idx, 3)) (k : J x M (pc + 3) L (v :: st)) : J x M pc L st := fun H locs ls hP hD hS h => va_gets C.1 C.2.1 hZ hS C.2.2.2.1 (C.2.2.2.2.1 _ hl) (fun _ q => hr ▸ q) dd (k H locs ls hP hD hS h)
theorem r_tb (C : Ct x own cc n rm) {t N : Nat} {f : Nat → Value} (hT : va_T .byte t N f (x_A x) (x_s x) (x_s x).heap) {i : Int32} (hin : vp_in i N) {v : Value} (hv : f i.toNatClampNeg = v) (d : decode cc pc = .ok (.baload, 1)) (k : J x M (pc + 1) L (v :: st)) : J x M pc L (.int i :: .ref t :: st) := fun H locs ls hP hD hS h => va_tb C.1 C.2.1 hT hS hin hv d (k H locs ls hP hD hS h)
theorem r_tlen0 (C : Ct x own cc n rm) {t N : Nat} {f : Nat → Value} {ty : FieldType} (hT : va_T ty t N f (x_A x) (x_s x) (x_s x).heap) {v : Int32} (hv : Int32.ofNat N = v) (d : decode cc pc = .ok (.arraylength, 1)) (k : J x M (pc + 1) L (.int v :: st)) : J x M pc L (.ref t :: st) := fun H locs ls hP hD hS h => va_tlen C.1 C.2.1 hT hS hv d (k H locs ls hP hD hS h)
theorem r_i2c (C : Ct x own cc n rm) {a : Int32} (d : decode cc pc = .ok (.i2c, 1)) (k : J x M (pc + 1) L (.int ((a.toUInt32 % 65536).toInt32) :: st)) : J x M pc L (.int a :: st) := fun H locs ls hP hD hS h => lv_i2c C.1 C.2.1 d rfl (k H locs ls hP hD hS h)
theorem r_ldcS (C : Ct x own cc n rm) {tx : String} {idx q : Nat} (hZ : vk_R own idx tx q (x_s x)) (d : decode cc pc = .ok (.ldc idx, 2)) (k : J x M (pc + 2) L (.ref q :: st)) : J x M pc L st := fun H locs ls hP hD hS h => va_ldcS C.1 C.2.1 C.2.2.2.1 hZ d (k H locs ls hP hD hS h)
/-- a call on an object that stands outside the world -/
theorem r_callO (C : Ct x own cc n rm) (hN : NS x) {y : MethodName} {ccy : ByteArray} {ny idx nn t : Nat} {ret : Option FieldType} {rmy : Room} {As : List Value} {E : String} {rv : Option Value}
    (hM : xMet (x_l x) y ccy ny ret rmy (.ref t :: As) (x_D x) (x_t x) (x_ad x) (x_sh x) (x_K x) M rv M1)
    (hw : Cond.methodLink own idx y ∈ bW ∧ Cond.instanceMethod y ∈ bW ∧ Cond.selects E y y ∈ bW ∧ Cond.initialized E ∈ bW ∧ Cond.code y ccy ny ret ∈ bW) (hd : y.cls = E ∧ okD y nn) (hR : rmy.cells = 0 ∧ rmy.slots = 0 ∧ rmy.frames + 1 ≤ rm.frames ∧ 8 + (ny + 11) + rmy.locals ≤ rm.locals)
    (hO : va_O E t (x_A x) (x_s x) (x_s x).heap) (hn : As.length = nn) (hst : st0 = As.reverse ++ .ref t :: st) (hcat : (st.map fun v => v.category).sum ≤ 8) (d : decode cc pc = .ok (.invokevirtual idx, 3))
    (kk : J x M1 (pc + 3) L (rv.toList ++ st)) : J x M pc L st0 := by
  obtain ⟨w1, w2, w3, w4, w5⟩ := hw
  refine r_run rv (Value.ref t :: As).toArray (fun H locs ls hP hD hS hsz => ?_) kk
  exact va_runV (Ts := bW) (As := As) (rest := st) ⟨C.1, C.2.1, C.2.2.1, C.2.2.2.1, C.2.2.2.2.1⟩ (hM H.size) (cwV nn C.2.2.2.2.1 (bw_good (fun w h => by
    simp only [wsV, List.mem_append, List.mem_cons, List.not_mem_nil, or_false] at h
    rcases h with (rfl | rfl | rfl | rfl) | rfl | h <;> assumption)) rfl hR.1 hR.2.1 hd (by rw [C.2.2.2.2.2.2.2.2]; exact hR.2.2)) ⟨xPre_blind, (by
      obtain ⟨cell, h1, h2, h3, -⟩ := hO.kept hS.2.1
      exact ⟨cell, h1, h2, h3⟩), fun U hU hW => xPre_at C hN hS hP hD U hU hW⟩ rfl hn (hsz.trans C.2.2.2.2.2.2.2.1) hst (by simpa [JFrame.monitorRoom] using hcat) d ⟨Nat.zero_le _, Nat.zero_le _⟩
theorem r_callSO (C : Ct x own cc n rm) (hN : NS x) {y : MethodName} {ccy : ByteArray} {ny idx nn : Nat} {ret : Option FieldType} {rmy : Room} {As : List Value} {rv : Option Value}
    (hM : xMet (x_l x) y ccy ny ret rmy As (x_D x) (x_t x) (x_ad x) (x_sh x) (x_K x) M rv M1)
    (hw : Cond.methodLink own idx y ∈ bW ∧ Cond.static y ∈ bW ∧ Cond.initialized y.cls ∈ bW ∧ Cond.code y ccy ny ret ∈ bW) (hd : okD y nn) (hR : rmy.cells = 0 ∧ rmy.slots = 0 ∧ rmy.frames + 1 ≤ rm.frames ∧ 8 + (ny + 11) + rmy.locals ≤ rm.locals)
    (hn : As.length = nn) (hst : st0 = As.reverse ++ st) (hcat : (st.map fun v => v.category).sum ≤ 8) (d : decode cc pc = .ok (.invokestatic idx, 3))
    (kk : J x M1 (pc + 3) L (rv.toList ++ st)) : J x M pc L st0 := by
  obtain ⟨w1, w2, w3, w4⟩ := hw
  refine r_run rv As.toArray (fun H locs ls hP hD hS hsz => ?_) kk
  exact va_runS (Ts := bW) (As := As) (rest := st) ⟨C.1, C.2.1, C.2.2.1, C.2.2.2.1, C.2.2.2.2.1⟩ (hM H.size) (va_cwS nn C.2.2.2.2.1 (bw_good (fun w h => by
    simp only [va_wsS, List.mem_append, List.mem_cons, List.not_mem_nil, or_false] at h
    rcases h with (rfl | rfl | rfl) | rfl | h <;> assumption)) rfl hR.1 hR.2.1 hd (by rw [C.2.2.2.2.2.2.2.2]; exact hR.2.2)) ⟨xPre_blind, fun U hU hW => xPre_at C hN hS hP hD U hU hW⟩ rfl hn (hsz.trans C.2.2.2.2.2.2.2.1) hst (by simpa [JFrame.monitorRoom] using hcat) d ⟨Nat.zero_le _, Nat.zero_le _⟩
end STR
abbrev rmJ (f l : Nat) : Room := { frames := f, cells := 0, slots := 0, locals := l }
section STRM
variable (l : Launch) (D : va_G) (tys : List (ClassId × FieldType)) (ad : Nat → Nat) (sh : xH) (K : Nat) (M : xM)
theorem js_coder {i : Nat} (hi : i < 14) : xMet l yJ0_coder_7d493 cJ0_coder_7d493 1 (some .byte) (rmJ 0 0) [.ref (ad (1020 + i))] D tys ad sh K M (some (.int 0)) M := by
  refine xMet_of (own := RJ0) (by decide) rfl (Nat.le_of_ble_eq_true rfl) ?_
  intro x C hN e1 e2 e3 e4 e5 e6 ev eM hr
  subst e4
  refine r_sub (L := [(0, .ref (x_ad x (1020 + i)))]) (L' := [(0, .ref (x_ad x (1020 + i)))]) [0] rfl ?_
  refine r_gets0 C hN.2.2.2.2.2.2.2.2.2.2.1 kw_401 rfl dJ0_coder_7d493_0 ?_
  refine r_if_eq C 13 dJ0_coder_7d493_3 (by decide) (fun c => absurd c (by decide)) (fun c => ?_)
  refine r_aload_n C 0 dJ0_coder_7d493_6 rfl rfl ?_
  refine r_getO C (hN.2.2.2.2.2.2.2.2.1 i hi).2.1 kw_1873 rfl dJ0_coder_7d493_7 ?_
  refine r_goto C 14 dJ0_coder_7d493_10 (by decide) ?_
  exact r_nret C hr rfl ev eM dJ0_coder_7d493_14
theorem js_isLatin1 {i : Nat} (hi : i < 14) : xMet l yJ0_isLatin1_aae02 cJ0_isLatin1_aae02 1 (some .boolean) (rmJ 0 0) [.ref (ad (1020 + i))] D tys ad sh K M (some (.int 1)) M := by
  refine xMet_of (own := RJ0) (by decide) rfl (Nat.le_of_ble_eq_true rfl) ?_
  intro x C hN e1 e2 e3 e4 e5 e6 ev eM hr
  subst e4
  refine r_sub (L := [(0, .ref (x_ad x (1020 + i)))]) (L' := [(0, .ref (x_ad x (1020 + i)))]) [0] rfl ?_
  refine r_gets0 C hN.2.2.2.2.2.2.2.2.2.2.1 kw_401 rfl dJ0_isLatin1_aae02_0 ?_
  refine r_if_eq C 17 dJ0_isLatin1_aae02_3 (by decide) (fun c => absurd c (by decide)) (fun c => ?_)
  refine r_aload_n C 0 dJ0_isLatin1_aae02_6 rfl rfl ?_
  refine r_getO C (hN.2.2.2.2.2.2.2.2.1 i hi).2.1 kw_1873 rfl dJ0_isLatin1_aae02_7 ?_
  refine r_if_ne C 17 dJ0_isLatin1_aae02_10 (by decide) (fun c => absurd rfl c) (fun c => ?_)
  refine r_iconst (v := 1) C dJ0_isLatin1_aae02_13 rfl ?_
  refine r_goto C 18 dJ0_isLatin1_aae02_14 (by decide) ?_
  exact r_nret C hr rfl ev eM dJ0_isLatin1_aae02_18
theorem js_length {i : Nat} (hi : i < 14) : xMet l yJ0_length_8abf5 cJ0_length_8abf5 1 (some .int) (rmJ 1 20) [.ref (ad (1020 + i))] D tys ad sh K M (some (.int (Int32.ofNat (sLen i)))) M := by
  refine xMet_of (own := RJ0) (by decide) rfl (Nat.le_of_ble_eq_true rfl) ?_
  intro x C hN e1 e2 e3 e4 e5 e6 ev eM hr
  subst e4
  refine r_sub (L := [(0, .ref (x_ad x (1020 + i)))]) (L' := [(0, .ref (x_ad x (1020 + i)))]) [0] rfl ?_
  refine r_aload_n C 0 dJ0_length_8abf5_0 rfl rfl ?_
  refine r_getO C (hN.2.2.2.2.2.2.2.2.1 i hi).2.2.1 kw_1872 rfl dJ0_length_8abf5_1 ?_
  refine r_tlen0 C (hN.2.2.2.2.2.2.2.2.1 i hi).2.2.2 rfl dJ0_length_8abf5_4 ?_
  refine r_aload_n C 0 dJ0_length_8abf5_5 rfl rfl ?_
  refine r_callO C hN (As := []) (nn := 0) (js_coder _ _ _ _ _ _ M hi) ⟨kw_397, kw_398, kw_399, kw_12, kw_400⟩ ⟨rfl, by decide +kernel, by decide +kernel, by decide +kernel⟩ ⟨rfl, rfl, Nat.le_of_ble_eq_true rfl, Nat.le_of_ble_eq_true rfl⟩ (hN.2.2.2.2.2.2.2.2.1 i hi).1 rfl rfl (Nat.le_of_ble_eq_true rfl) dJ0_length_8abf5_6 ?_
  refine r_ishr C dJ0_length_8abf5_9 ?_
  have e : Int32.ofNat (sLen i) >>> ((0 : Int32) &&& 31) = Int32.ofNat (sLen i) := by
    have hl := (sLen_ok i hi).1
    generalize sLen i = z at hl
    revert z
    decide
  exact r_iret C hr (by rw [ev]; exact congrArg _ (congrArg _ e.symm)) eM dJ0_length_8abf5_10
end STRM


section STRC
variable (l : Launch) (D : va_G) (tys : List (ClassId × FieldType)) (ad : Nat → Nat) (sh : xH) (K : Nat) (M : xM)
theorem js_check0 (a b : Int32) (v : Value) (hv : v = .null ∨ ∃ t, v = .ref t) (h0 : ¬ a < 0) (h1 : a < b) : xMet l yJ3_checkIndex_8e157 cJ3_checkIndex_8e157 3 (some .int) (rmJ 0 0) [.int a, .int b, v] D tys ad sh K M (some (.int a)) M := by
  refine xMet_of (own := RJ3) (by decide) rfl (by rcases hv with rfl | ⟨t, rfl⟩ <;> exact Nat.le_of_ble_eq_true rfl) ?_
  intro x C hN e1 e2 e3 e4 e5 e6 ev eM hr
  refine r_sub (L' := [(0, .int a), (1, .int b)]) [0, 1] (by rcases hv with rfl | ⟨t, rfl⟩ <;> rfl) ?_
  refine r_iload_n C 0 dJ3_checkIndex_8e157_0 rfl rfl ?_
  refine r_if_lt C 9 dJ3_checkIndex_8e157_1 (by decide) (fun c => absurd c h0) (fun c => ?_)
  refine r_iload_n C 0 dJ3_checkIndex_8e157_4 rfl rfl ?_
  refine r_iload_n C 1 dJ3_checkIndex_8e157_5 rfl rfl ?_
  refine r_icmp_lt C 16 dJ3_checkIndex_8e157_6 (by decide) (fun c => ?_) (fun c => absurd h1 c)
  refine r_iload_n C 0 dJ3_checkIndex_8e157_16 rfl rfl ?_
  exact r_iret C hr ev eM dJ3_checkIndex_8e157_17
theorem js_check (a b : Int32) (h0 : ¬ a < 0) (h1 : a < b) : xMet l yJ0_checkIndex_df160 cJ0_checkIndex_df160 2 none (rmJ 1 22) [.int a, .int b] D tys ad sh K M none M := by
  refine xMet_of (own := RJ0) (by decide) rfl (Nat.le_of_ble_eq_true rfl) ?_
  intro x C hN e1 e2 e3 e4 e5 e6 ev eM hr
  refine r_sub (L := [(0, .int a), (1, .int b)]) (L' := [(0, .int a), (1, .int b)]) [0, 1] rfl ?_
  refine r_iload_n C 0 dJ0_checkIndex_df160_0 rfl rfl ?_
  refine r_iload_n C 1 dJ0_checkIndex_df160_1 rfl rfl ?_
  have key : ∀ v : Value, (v = .null ∨ ∃ t, v = .ref t) → va_Z "jdk/internal/util/Preconditions" "SIOOBE_FORMATTER" "Ljava/util/function/BiFunction;" v (x_A x) (x_s x) (x_s x).heap → J x M 2 [(0, .int a), (1, .int b)] [.int b, .int a] := by
    intro v hv hZ
    refine r_gets0 C hZ kw_417 rfl dJ0_checkIndex_df160_2 ?_
    refine r_callSO C hN (As := [.int a, .int b, v]) (nn := 3) (js_check0 _ _ _ _ _ _ M a b v hv h0 h1) ⟨kw_419, kw_420, kw_14, kw_421⟩ ⟨by decide +kernel, by decide +kernel, by decide +kernel⟩ ⟨rfl, rfl, Nat.le_of_ble_eq_true rfl, Nat.le_of_ble_eq_true rfl⟩ rfl rfl (Nat.le_of_ble_eq_true rfl) dJ0_checkIndex_df160_5 ?_
    refine r_pop C rfl dJ0_checkIndex_df160_8 ?_
    exact r_vret C hr ev eM dJ0_checkIndex_df160_9
  rcases hN.2.2.2.2.2.2.2.2.2.2.2 with h | ⟨t, h⟩
  · exact key _ (Or.inl rfl) h
  · exact key _ (Or.inr ⟨t, rfl⟩) h
theorem js_charAtL {i : Nat} (hi : i < 14) (k : Int32) (hk : vp_in k (sLen i)) : xMet l yJ1_charAt_3b067 cJ1_charAt_3b067 2 (some .char) (rmJ 2 43) [.ref (ad (1040 + i)), .int k] D tys ad sh K M (some (.int (sByt i k.toNatClampNeg))) M := by
  refine xMet_of (own := RJ1) (by decide) rfl (Nat.le_of_ble_eq_true rfl) ?_
  intro x C hN e1 e2 e3 e4 e5 e6 ev eM hr
  subst e4
  have hT := (hN.2.2.2.2.2.2.2.2.1 i hi).2.2.2
  obtain ⟨s1, s2⟩ := sByt_ok i hi k.toNatClampNeg (vp_lt0 hk)
  have hlt : k < Int32.ofNat (sLen i) := by
    obtain ⟨j, hj, rfl⟩ := vp_in_of hk (by have := (sLen_ok i hi).1; omega)
    exact nI_lt hj (by have := (sLen_ok i hi).1; omega)
  refine r_sub (L := [(0, .ref (x_ad x (1040 + i))), (1, .int k)]) (L' := [(0, .ref (x_ad x (1040 + i))), (1, .int k)]) [0, 1] rfl ?_
  refine r_iload_n C 1 dJ1_charAt_3b067_0 rfl rfl ?_
  refine r_aload_n C 0 dJ1_charAt_3b067_1 rfl rfl ?_
  refine r_tlen0 C hT rfl dJ1_charAt_3b067_2 ?_
  refine r_callSO C hN (As := [.int k, .int (Int32.ofNat (sLen i))]) (nn := 2) (js_check _ _ _ _ _ _ M k _ (fun z => hk (Or.inl z)) hlt) ⟨kw_414, kw_415, kw_12, kw_416⟩ ⟨by decide +kernel, by decide +kernel, by decide +kernel⟩ ⟨rfl, rfl, Nat.le_of_ble_eq_true rfl, Nat.le_of_ble_eq_true rfl⟩ rfl rfl (Nat.le_of_ble_eq_true rfl) dJ1_charAt_3b067_3 ?_
  refine r_aload_n C 0 dJ1_charAt_3b067_6 rfl rfl ?_
  refine r_iload_n C 1 dJ1_charAt_3b067_7 rfl rfl ?_
  refine r_tb C hT hk rfl dJ1_charAt_3b067_8 ?_
  refine r_sipush (v := 255) C dJ1_charAt_3b067_9 (by decide) ?_
  refine r_iand C dJ1_charAt_3b067_12 ?_
  refine r_i2c C dJ1_charAt_3b067_13 ?_
  rw [s1]
  exact r_nret C hr s2 ev eM dJ1_charAt_3b067_14
theorem js_charAt {i : Nat} (hi : i < 14) (k : Int32) (hk : vp_in k (sLen i)) : xMet l yJ0_charAt_5068e cJ0_charAt_5068e 2 (some .char) (rmJ 3 64) [.ref (ad (1020 + i)), .int k] D tys ad sh K M (some (.int (sByt i k.toNatClampNeg))) M := by
  refine xMet_of (own := RJ0) (by decide) rfl (Nat.le_of_ble_eq_true rfl) ?_
  intro x C hN e1 e2 e3 e4 e5 e6 ev eM hr
  subst e4
  obtain ⟨s1, s2⟩ := sByt_ok i hi k.toNatClampNeg (vp_lt0 hk)
  refine r_sub (L := [(0, .ref (x_ad x (1020 + i))), (1, .int k)]) (L' := [(0, .ref (x_ad x (1020 + i))), (1, .int k)]) [0, 1] rfl ?_
  refine r_aload_n C 0 dJ0_charAt_5068e_0 rfl rfl ?_
  refine r_callO C hN (As := []) (nn := 0) (js_isLatin1 _ _ _ _ _ _ M hi) ⟨kw_407, kw_408, kw_409, kw_12, kw_410⟩ ⟨rfl, by decide +kernel, by decide +kernel, by decide +kernel⟩ ⟨rfl, rfl, Nat.le_of_ble_eq_true rfl, Nat.le_of_ble_eq_true rfl⟩ (hN.2.2.2.2.2.2.2.2.1 i hi).1 rfl rfl (Nat.le_of_ble_eq_true rfl) dJ0_charAt_5068e_1 ?_
  refine r_if_eq C 16 dJ0_charAt_5068e_4 (by decide) (fun c => absurd c (by decide)) (fun c => ?_)
  refine r_aload_n C 0 dJ0_charAt_5068e_7 rfl rfl ?_
  refine r_getO C (hN.2.2.2.2.2.2.2.2.1 i hi).2.2.1 kw_1872 rfl dJ0_charAt_5068e_8 ?_
  refine r_iload_n C 1 dJ0_charAt_5068e_11 rfl rfl ?_
  refine r_callSO C hN (As := [.ref (x_ad x (1040 + i)), .int k]) (nn := 2) (js_charAtL _ _ _ _ _ _ M hi k hk) ⟨kw_411, kw_412, kw_13, kw_413⟩ ⟨by decide +kernel, by decide +kernel, by decide +kernel⟩ ⟨rfl, rfl, Nat.le_of_ble_eq_true rfl, Nat.le_of_ble_eq_true rfl⟩ rfl rfl (Nat.le_of_ble_eq_true rfl) dJ0_charAt_5068e_12 ?_
  exact r_nret C hr s2 ev eM dJ0_charAt_5068e_15
end STRC

