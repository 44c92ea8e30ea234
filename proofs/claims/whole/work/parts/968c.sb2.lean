set_option maxRecDepth 20000 in
set_option maxHeartbeats 1000000 in
theorem gc_tail {x : kC} {rm : Room} {M : xM} {cs ss : Nat} {es : List va_E} (C : CtG M x RJ6 cJ6_getChars_ba4f3 7 rm) {i m u p n : Nat} {g : Nat → Int32} (he : es[i]? = some (.inl ((k_D x).1 106, m, .inl g))) (hu : u < 100) (hm : m ≤ 65536) (hp : p ≤ m) (hn : n + sb_dg u = p) (hr : (k_me x).sig.returnType = some .int)
    (eQ : k_Q x = MQ (k_be x) (gQ (k_D x) (k_b x) (some (.int (nI n))) (es.set i (.inl ((k_D x).1 106, m, .inl (gcA g p u))))) (k_a x) (k_s x) cs ss (k_A x)) : JK x cs ss es 72 [(0, .int (-nI u)), (5, .int (nI p)), (2, .ref (k_b x + i)), (6, .int 0)] [] := by
  have hd := sb_dg_in u
  have he2 : (es.set i (.inl ((k_D x).1 106, m, .inl (upd g (p - 1) (dOne u)))))[i]? = some (.inl ((k_D x).1 106, m, .inl (upd g (p - 1) (dOne u)))) := List.getElem?_set_self (xl_lt he)
  have hd2 : 10 ≤ u → sb_dg u = 2 := fun h => by rw [sb_dg, if_neg (by omega), if_pos hu]
  have hd1 : u < 10 → sb_dg u = 1 := fun h => if_pos h
  refine k_aload_n C.1 2 dJ6_getChars_ba4f3_72 rfl rfl ?_
  refine k_iinc C.1 1 [(5, .int (nI (p - 1))), (0, .int (-nI u)), (2, .ref (k_b x + i)), (6, .int 0)] dJ6_getChars_ba4f3_73 rfl (sb_m1 (by omega)) (by decide) rfl ?_
  refine k_iload C.1 0 dJ6_getChars_ba4f3_76 rfl ?_
  refine g_gets C (gF C).1.1 sw_1089 rfl dJ6_getChars_ba4f3_78 ?_
  refine k_iload_n C.1 1 dJ6_getChars_ba4f3_81 rfl rfl ?_
  refine k_ineg C.1 (v := nI u) dJ6_getChars_ba4f3_82 ((Int32.neg_neg).symm) ?_
  refine g_tb C (gF C).1.2 (pk_in (u) 100 (by omega) (rfl) (by decide)) (v := .int (dOne (u))) (by rw [pk_cl (u) (rfl) (by omega)]) dJ6_getChars_ba4f3_83 ?_
  refine g_bast C (i := i) he (pk_in (p - 1) _ (by omega) rfl (by omega)) (dNar.1 (u) (by omega)) rfl (es1 := es.set i (.inl ((k_D x).1 106, m, .inl (upd g (p - 1) (dOne u))))) (by rw [pk_cl (p - 1) rfl (by omega)]) dJ6_getChars_ba4f3_84 ?_
  refine k_iload_n C.1 1 dJ6_getChars_ba4f3_85 rfl rfl ?_
  refine k_bipush (v := -nI 9) C.1 dJ6_getChars_ba4f3_86 (by decide) ?_
  refine k_icmp_ge C.1 104 dJ6_getChars_ba4f3_88 (by decide) (fun c => ?_) (fun c => ?_)
  · have c : u ≤ 9 := (sb_nle (by decide) (by omega)).mp c
    have e : gcA g p u = upd g (p - 1) (dOne u) := if_pos (by omega)
    have e2 : n = p - 1 := by have := hd1 (by omega); omega
    rw [e, e2] at eQ
    refine k_iload C.1 3 dJ6_getChars_ba4f3_104 rfl ?_
    refine k_if_eqT C.1 118 dJ6_getChars_ba4f3_106 (by decide) rfl ?_
    refine k_iload C.1 0 dJ6_getChars_ba4f3_118 rfl ?_
    exact g_nret C hr rfl eQ dJ6_getChars_ba4f3_120
  · have c : 9 < u := Nat.lt_of_not_le (fun z => c ((sb_nle (by decide) (by omega)).mpr z))
    have hd3 := hd2 (by omega)
    have e : gcA g p u = upd (upd g (p - 1) (dOne u)) (p - 1 - 1) (dTen u) := if_neg (by omega)
    have e2 : n = p - 1 - 1 := by omega
    rw [e, e2] at eQ
    refine k_aload_n C.1 2 dJ6_getChars_ba4f3_91 rfl rfl ?_
    refine k_iinc C.1 0 [(5, .int (nI (p - 1 - 1))), (0, .int (-nI u)), (2, .ref (k_b x + i)), (6, .int 0)] dJ6_getChars_ba4f3_92 rfl (sb_m1 (by omega)) (by decide) rfl ?_
    refine k_iload C.1 0 dJ6_getChars_ba4f3_95 rfl ?_
    refine g_gets C (gF C).2.1.1 sw_1091 rfl dJ6_getChars_ba4f3_97 ?_
    refine k_iload_n C.1 1 dJ6_getChars_ba4f3_100 rfl rfl ?_
    refine k_ineg C.1 (v := nI u) dJ6_getChars_ba4f3_101 ((Int32.neg_neg).symm) ?_
    refine g_tb C (gF C).2.1.2 (pk_in (u) 100 (by omega) (rfl) (by decide)) (v := .int (dTen (u))) (by rw [pk_cl (u) (rfl) (by omega)]) dJ6_getChars_ba4f3_102 ?_
    refine g_bast C (i := i) he2 (pk_in (p - 1 - 1) _ (by omega) rfl (by omega)) (dNar.2 (u) (by omega)) rfl (es1 := es.set i (.inl ((k_D x).1 106, m, .inl (upd (upd g (p - 1) (dOne u)) (p - 1 - 1) (dTen u))))) (by rw [pk_cl (p - 1 - 1) rfl (by omega)]; exact List.set_set _) dJ6_getChars_ba4f3_103 ?_
    refine k_iload C.1 3 dJ6_getChars_ba4f3_104 rfl ?_
    refine k_if_eqT C.1 118 dJ6_getChars_ba4f3_106 (by decide) rfl ?_
    refine k_iload C.1 0 dJ6_getChars_ba4f3_118 rfl ?_
    exact g_nret C hr rfl eQ dJ6_getChars_ba4f3_120
