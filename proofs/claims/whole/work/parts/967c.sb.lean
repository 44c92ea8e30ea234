set_option maxRecDepth 20000 in
set_option maxHeartbeats 2000000 in
theorem sm_newCap (l : Launch) (D : va_G) (ad : Nat → Nat) (M : xM) (b : Nat) (Z : List va_E) (m : Nat) (g : Nat → Int32) (n : Nat) {q : Nat} (h : m < q) (hc : sb_cap q m ≤ 65536) : gMet l yJ5_newCapacity_0f7a4 cJ5_newCapacity_0f7a4 6 (some .int) 2 60 [.ref b, .int (nI q)] D ad M b (wB D.1 b Z m g n) (some (.int (nI (sb_cap q m)))) (wB D.1 b Z m g n) 0 0 := by
  refine gMet_of (own := RJ5) (by decide) rfl (Nat.le_of_ble_eq_true rfl) ?_
  intro x C e1 e2 e3 e4 hr eQ
  subst e1; subst e2; subst e3; subst e4
  refine k_sub (L := [(0, .ref (k_b x)), (1, .int (nI q))]) (L' := [(0, .ref (k_b x)), (1, .int (nI q))]) [0, 1] rfl ?_
  refine k_aload_n C.1 0 dJ5_newCapacity_0f7a4_0 rfl rfl ?_
  refine k_get C.1 (i := 0) wB_0 rfl hin_J4 0 (by decide) sw_955 rfl rfl rfl dJ5_newCapacity_0f7a4_1 ?_
  refine g_alen C wB_a rfl rfl dJ5_newCapacity_0f7a4_4 ?_
  refine k_istore_n C.1 [(2, .int (nI m)), (0, .ref (k_b x)), (1, .int (nI q))] dJ5_newCapacity_0f7a4_5 rfl (by decide) rfl ?_
  refine k_iload_n C.1 2 dJ5_newCapacity_0f7a4_6 rfl rfl ?_
  refine k_aload_n C.1 1 dJ5_newCapacity_0f7a4_7 rfl rfl ?_
  refine k_get C.1 (i := 0) wB_0 rfl hin_J4 1 (by decide) sw_956 rfl rfl rfl dJ5_newCapacity_0f7a4_8 ?_
  refine k_ishl C.1 (v := nI q) dJ5_newCapacity_0f7a4_11 ((sb_shl0 _).symm) ?_
  refine k_istore_n C.1 [(3, .int (nI q)), (2, .int (nI m)), (0, .ref (k_b x)), (1, .int (nI q))] dJ5_newCapacity_0f7a4_12 rfl (by decide) rfl ?_
  refine k_iload_n C.1 0 dJ5_newCapacity_0f7a4_13 rfl rfl ?_
  refine k_iload_n C.1 1 dJ5_newCapacity_0f7a4_14 rfl rfl ?_
  refine k_isub C.1 (v := nI (q - m)) dJ5_newCapacity_0f7a4_15 ((pk_sub (by omega)).symm) ?_
  refine k_istore C.1 [(4, .int (nI (q - m))), (3, .int (nI q)), (2, .int (nI m)), (0, .ref (k_b x)), (1, .int (nI q))] dJ5_newCapacity_0f7a4_16 (by decide) rfl ?_
  refine k_iload_n C.1 2 dJ5_newCapacity_0f7a4_18 rfl rfl ?_
  refine k_iload C.1 0 dJ5_newCapacity_0f7a4_19 rfl ?_
  refine k_iload_n C.1 2 dJ5_newCapacity_0f7a4_21 rfl rfl ?_
  refine k_iconst (v := 2) C.1 dJ5_newCapacity_0f7a4_22 rfl ?_
  refine k_aload_n C.1 3 dJ5_newCapacity_0f7a4_23 rfl rfl ?_
  refine k_get C.1 (i := 0) wB_0 rfl hin_J4 1 (by decide) sw_956 rfl rfl rfl dJ5_newCapacity_0f7a4_24 ?_
  refine k_ishl C.1 (v := 2) dJ5_newCapacity_0f7a4_27 (by decide) ?_
  refine k_iadd C.1 (v := nI (m + 2)) dJ5_newCapacity_0f7a4_28 ((nI_add m 2).symm) ?_
  refine g_callS C (As := [.int (nI m), .int (nI (q - m)), .int (nI (m + 2))]) (nn := 3) (rfl) (sm_newLength _ _ _ M _ _ h hc) ⟨sw_983, sw_984, sw_25, sw_985⟩ ⟨by decide +kernel, by decide +kernel, by decide +kernel⟩ ⟨Nat.le_of_ble_eq_true rfl, Nat.le_of_ble_eq_true rfl⟩ ⟨Nat.zero_le _, Nat.zero_le _⟩ rfl rfl (Nat.le_of_ble_eq_true rfl) dJ5_newCapacity_0f7a4_29 ?_
  refine k_istore C.1 [(5, .int (nI (sb_cap q m))), (4, .int (nI (q - m))), (3, .int (nI q)), (2, .int (nI m)), (0, .ref (k_b x)), (1, .int (nI q))] dJ5_newCapacity_0f7a4_32 (by decide) rfl ?_
  refine k_iload C.1 0 dJ5_newCapacity_0f7a4_34 rfl ?_
  refine k_ldc C.1 (v := 2147483647) sw_991 dJ5_newCapacity_0f7a4_36 ?_
  refine k_icmp_ne C.1 51 dJ5_newCapacity_0f7a4_38 (by decide) (fun _ => ?_) (fun z => absurd ((nI_eq (by omega) (by decide)).mp (show nI (sb_cap q m) = nI 2147483647 from z)) (by omega))
  refine k_iload C.1 0 dJ5_newCapacity_0f7a4_51 rfl ?_
  refine k_aload_n C.1 4 dJ5_newCapacity_0f7a4_53 rfl rfl ?_
  refine k_get C.1 (i := 0) wB_0 rfl hin_J4 1 (by decide) sw_956 rfl rfl rfl dJ5_newCapacity_0f7a4_54 ?_
  refine k_ishr C.1 (v := nI (sb_cap q m)) dJ5_newCapacity_0f7a4_57 ((sb_shr0 _).symm) ?_
  exact g_nret C hr rfl eQ dJ5_newCapacity_0f7a4_58
