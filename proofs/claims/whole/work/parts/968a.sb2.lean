set_option maxRecDepth 20000 in
theorem sz_step {x : kC} {rm : Room} {M : xM} {cs ss : Nat} {es : List va_E} (C : CtG M x RJ6 cJ6_stringSize_0f7a4 4 rm) (i P v : Nat) (hi : i < 10) (hP : P < 2 ^ 31) (hv : v < 2 ^ 31) (kt : v < P → JK x cs ss es 30 [(3, .int (nI i)), (2, .int (-nI P)), (0, .int (-nI v)), (1, .int 0)] [.int (nI i)]) (kf : P ≤ v → JK x cs ss es 16 [(3, .int (nI (i + 1))), (2, .int (-nI (10 * P))), (0, .int (-nI v)), (1, .int 0)] []) : JK x cs ss es 16 [(3, .int (nI i)), (2, .int (-nI P)), (0, .int (-nI v)), (1, .int 0)] [] := by
  refine k_iload_n C.1 0 dJ6_stringSize_0f7a4_16 rfl rfl ?_
  refine k_bipush (v := 10) C.1 dJ6_stringSize_0f7a4_17 (by decide) ?_
  refine k_icmp_ge C.1 42 dJ6_stringSize_0f7a4_19 (by decide) (fun c => absurd (show nI 10 ≤ nI i from c) (nI_ge hi (by decide))) (fun _ => ?_)
  refine k_iload_n C.1 2 dJ6_stringSize_0f7a4_22 rfl rfl ?_
  refine k_iload_n C.1 1 dJ6_stringSize_0f7a4_23 rfl rfl ?_
  refine k_icmp_le C.1 31 dJ6_stringSize_0f7a4_24 (by decide) (fun c => ?_) (fun c => ?_)
  · have c : P ≤ v := (sb_nle hv hP).mp c
    refine k_bipush (v := 10) C.1 dJ6_stringSize_0f7a4_31 (by decide) ?_
    refine k_iload_n C.1 1 dJ6_stringSize_0f7a4_33 rfl rfl ?_
    refine k_imul C.1 (v := -nI (10 * P)) dJ6_stringSize_0f7a4_34 (nmul10 P) ?_
    refine k_istore_n C.1 [(2, .int (-nI (10 * P))), (3, .int (nI i)), (0, .int (-nI v)), (1, .int 0)] dJ6_stringSize_0f7a4_35 rfl (by decide) rfl ?_
    refine k_iinc C.1 1 [(3, .int (nI (i + 1))), (2, .int (-nI (10 * P))), (0, .int (-nI v)), (1, .int 0)] dJ6_stringSize_0f7a4_36 rfl (nI_1 i) (by decide) rfl ?_
    refine k_goto C.1 16 dJ6_stringSize_0f7a4_39 (by decide) ?_
    exact kf c
  · have c : v < P := Nat.lt_of_not_le (fun z => c ((sb_nle hv hP).mpr z))
    refine k_iload_n C.1 0 dJ6_stringSize_0f7a4_27 rfl rfl ?_
    refine k_iload_n C.1 3 dJ6_stringSize_0f7a4_28 rfl rfl ?_
    refine k_iadd C.1 (v := nI i) dJ6_stringSize_0f7a4_29 ((Int32.add_zero _).symm) ?_
    exact kt c
