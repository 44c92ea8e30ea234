set_option maxRecDepth 20000 in
set_option maxHeartbeats 1000000 in
theorem sm_getChars (l : Launch) (D : va_G) (ad : Nat → Nat) (M : xM) (b : Nat) (es : List va_E) {i m v p n : Nat} {g : Nat → Int32} (he : es[i]? = some (.inl (D.1 106, m, .inl g))) (hv : v < 10000) (hm : m ≤ 65536) (hp : p ≤ m) (hn : n + sb_dg v = p) : gMet l yJ6_getChars_ba4f3 cJ6_getChars_ba4f3 7 (some .int) 0 0 [.int (nI v), .int (nI p), .ref (b + i)] D ad M b es (some (.int (nI n))) (es.set i (.inl (D.1 106, m, .inl (gcF g p v)))) 0 0 := by
  refine gMet_of (own := RJ6) (by decide) rfl (Nat.le_of_ble_eq_true rfl) ?_
  intro x C e1 e2 e3 e4 hr eQ
  subst e1; subst e2; subst e3; subst e4
  refine k_sub (L := [(0, .int (nI v)), (1, .int (nI p)), (2, .ref (k_b x + i))]) (L' := [(0, .int (nI v)), (1, .int (nI p)), (2, .ref (k_b x + i))]) [0, 1, 2] rfl ?_
  refine k_iload_n C.1 1 dJ6_getChars_ba4f3_0 rfl rfl ?_
  refine k_istore C.1 [(5, .int (nI p)), (0, .int (nI v)), (1, .int (nI p)), (2, .ref (k_b x + i))] dJ6_getChars_ba4f3_1 (by decide) rfl ?_
  refine k_iload_n C.1 1 dJ6_getChars_ba4f3_3 rfl rfl ?_
  refine k_if_ge C.1 11 dJ6_getChars_ba4f3_4 (by decide) (fun _ => ?_) (fun c => absurd (nI_pos' (by omega)) c)
  refine k_iconst (v := 0) C.1 dJ6_getChars_ba4f3_11 rfl ?_
  refine k_istore C.1 [(6, .int 0), (5, .int (nI p)), (0, .int (nI v)), (1, .int (nI p)), (2, .ref (k_b x + i))] dJ6_getChars_ba4f3_12 (by decide) rfl ?_
  refine k_iload C.1 0 dJ6_getChars_ba4f3_14 rfl ?_
  refine k_if_neF C.1 dJ6_getChars_ba4f3_16 (rfl) ⟨_, by first | exact (Int.toNat_of_nonneg (by decide)).symm⟩ ?_
  refine k_iload_n C.1 2 dJ6_getChars_ba4f3_19 rfl rfl ?_
  refine k_ineg C.1 (v := -nI v) dJ6_getChars_ba4f3_20 (rfl) ?_
  refine k_istore_n C.1 [(0, .int (-nI v)), (6, .int 0), (5, .int (nI p)), (1, .int (nI p)), (2, .ref (k_b x + i))] dJ6_getChars_ba4f3_21 rfl (by decide) rfl ?_
  refine k_iload_n C.1 0 dJ6_getChars_ba4f3_22 rfl rfl ?_
  refine k_bipush (v := -nI 100) C.1 dJ6_getChars_ba4f3_23 (by decide) ?_
  refine k_icmp_gt C.1 72 dJ6_getChars_ba4f3_25 (by decide) (fun c => ?_) (fun c => ?_)
  · have c : v < 100 := (sb_nlt (by decide) (by omega)).mp c
    have e : gcF g p v = gcA g p v := if_pos c
    rw [e] at eQ
    refine k_sub (L' := [(0, .int (-nI v)), (5, .int (nI p)), (2, .ref (k_b x + i)), (6, .int 0)]) [0, 2, 4, 1] rfl ?_
    exact gc_tail C he c hm hp hn hr eQ
  · have c : ¬ v < 100 := fun z => c ((sb_nlt (by decide) (by omega)).mpr z)
    have e : gcF g p v = gcA (upd (upd g (p - 1) (dOne (v % 100))) (p - 1 - 1) (dTen (v % 100))) (p - 1 - 1) (v / 100) := if_neg c
    have hd := sb_dg100 (w := v) (by omega) (by omega)
    have hd9 := sb_dg_in (v / 100)
    have he2 : (es.set i (.inl ((k_D x).1 106, m, .inl (upd g (p - 1) (dOne (v % 100))))))[i]? = some (.inl ((k_D x).1 106, m, .inl (upd g (p - 1) (dOne (v % 100))))) := List.getElem?_set_self (xl_lt he)
    have he3 : (es.set i (.inl ((k_D x).1 106, m, .inl (upd (upd g (p - 1) (dOne (v % 100))) (p - 1 - 1) (dTen (v % 100))))))[i]? = some (.inl ((k_D x).1 106, m, .inl (upd (upd g (p - 1) (dOne (v % 100))) (p - 1 - 1) (dTen (v % 100))))) := List.getElem?_set_self (xl_lt he)
    rw [e] at eQ
    refine k_iload_n C.1 0 dJ6_getChars_ba4f3_28 rfl rfl ?_
    refine k_bipush (v := 100) C.1 dJ6_getChars_ba4f3_29 (by decide) ?_
    refine k_idiv C.1 (v := -nI (v / 100)) (by decide) dJ6_getChars_ba4f3_31 ((sb_ndiv (by omega)).symm) ?_
    refine k_istore_n C.1 [(3, .int (-nI (v / 100))), (0, .int (-nI v)), (6, .int 0), (5, .int (nI p)), (1, .int (nI p)), (2, .ref (k_b x + i))] dJ6_getChars_ba4f3_32 rfl (by decide) rfl ?_
    refine k_iload_n C.1 0 dJ6_getChars_ba4f3_33 rfl rfl ?_
    refine k_bipush (v := 100) C.1 dJ6_getChars_ba4f3_34 (by decide) ?_
    refine k_imul C.1 (v := -nI (v / 100) * 100) dJ6_getChars_ba4f3_36 rfl ?_
    refine k_iload_n C.1 1 dJ6_getChars_ba4f3_37 rfl rfl ?_
    refine k_isub C.1 (v := nI (v % 100)) dJ6_getChars_ba4f3_38 ((sb_nrem (by omega)).symm) ?_
    refine k_istore C.1 [(4, .int (nI (v % 100))), (3, .int (-nI (v / 100))), (0, .int (-nI v)), (6, .int 0), (5, .int (nI p)), (1, .int (nI p)), (2, .ref (k_b x + i))] dJ6_getChars_ba4f3_39 (by decide) rfl ?_
    refine k_iload_n C.1 1 dJ6_getChars_ba4f3_41 rfl rfl ?_
    refine k_istore_n C.1 [(0, .int (-nI (v / 100))), (4, .int (nI (v % 100))), (3, .int (-nI (v / 100))), (6, .int 0), (5, .int (nI p)), (1, .int (nI p)), (2, .ref (k_b x + i))] dJ6_getChars_ba4f3_42 rfl (by decide) rfl ?_
    refine k_aload_n C.1 6 dJ6_getChars_ba4f3_43 rfl rfl ?_
    refine k_iinc C.1 4 [(5, .int (nI (p - 1))), (0, .int (-nI (v / 100))), (4, .int (nI (v % 100))), (3, .int (-nI (v / 100))), (6, .int 0), (1, .int (nI p)), (2, .ref (k_b x + i))] dJ6_getChars_ba4f3_44 rfl (sb_m1 (by omega)) (by decide) rfl ?_
    refine k_iload C.1 0 dJ6_getChars_ba4f3_47 rfl ?_
    refine g_gets C (gF C).1.1 sw_1089 rfl dJ6_getChars_ba4f3_49 ?_
    refine k_iload C.1 2 dJ6_getChars_ba4f3_52 rfl ?_
    refine g_tb C (gF C).1.2 (pk_in (v % 100) 100 (by omega) (rfl) (by decide)) (v := .int (dOne (v % 100))) (by rw [pk_cl (v % 100) (rfl) (by omega)]) dJ6_getChars_ba4f3_54 ?_
    refine g_bast C (i := i) he (pk_in (p - 1) _ (by omega) rfl (by omega)) (dNar.1 (v % 100) (by omega)) rfl (es1 := es.set i (.inl ((k_D x).1 106, m, .inl (upd g (p - 1) (dOne (v % 100)))))) (by rw [pk_cl (p - 1) rfl (by omega)]) dJ6_getChars_ba4f3_55 ?_
    refine k_aload_n C.1 6 dJ6_getChars_ba4f3_56 rfl rfl ?_
    refine k_iinc C.1 0 [(5, .int (nI (p - 1 - 1))), (0, .int (-nI (v / 100))), (4, .int (nI (v % 100))), (3, .int (-nI (v / 100))), (6, .int 0), (1, .int (nI p)), (2, .ref (k_b x + i))] dJ6_getChars_ba4f3_57 rfl (sb_m1 (by omega)) (by decide) rfl ?_
    refine k_iload C.1 0 dJ6_getChars_ba4f3_60 rfl ?_
    refine g_gets C (gF C).2.1.1 sw_1091 rfl dJ6_getChars_ba4f3_62 ?_
    refine k_iload C.1 2 dJ6_getChars_ba4f3_65 rfl ?_
    refine g_tb C (gF C).2.1.2 (pk_in (v % 100) 100 (by omega) (rfl) (by decide)) (v := .int (dTen (v % 100))) (by rw [pk_cl (v % 100) (rfl) (by omega)]) dJ6_getChars_ba4f3_67 ?_
    refine g_bast C (i := i) he2 (pk_in (p - 1 - 1) _ (by omega) rfl (by omega)) (dNar.2 (v % 100) (by omega)) rfl (es1 := es.set i (.inl ((k_D x).1 106, m, .inl (upd (upd g (p - 1) (dOne (v % 100))) (p - 1 - 1) (dTen (v % 100)))))) (by rw [pk_cl (p - 1 - 1) rfl (by omega)]; exact List.set_set _) dJ6_getChars_ba4f3_68 ?_
    refine k_goto C.1 22 dJ6_getChars_ba4f3_69 (by decide) ?_
    refine k_iload_n C.1 1 dJ6_getChars_ba4f3_22 rfl rfl ?_
    refine k_bipush (v := -nI 100) C.1 dJ6_getChars_ba4f3_23 (by decide) ?_
    refine k_icmp_gt C.1 72 dJ6_getChars_ba4f3_25 (by decide) (fun _ => ?_) (fun c => absurd ((sb_nlt (by decide) (by omega)).mpr (by omega)) c)
    refine k_sub (L' := [(0, .int (-nI (v / 100))), (5, .int (nI (p - 1 - 1))), (2, .ref (k_b x + i)), (6, .int 0)]) [1, 0, 6, 4] rfl ?_
    refine gc_tail C (n := n) he3 (by omega) hm (by omega) (by omega) hr ?_
    rw [List.set_set]; exact eQ
