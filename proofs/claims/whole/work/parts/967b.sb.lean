set_option maxRecDepth 20000 in
set_option maxHeartbeats 2000000 in
theorem sm_newLength (l : Launch) (D : va_G) (ad : Nat → Nat) (M : xM) (b : Nat) (es : List va_E) {q m : Nat} (h : m < q) (hc : sb_cap q m ≤ 65536) : gMet l yJ8_newLength_cabcc cJ8_newLength_cabcc 4 (some .int) 1 30 [.int (nI m), .int (nI (q - m)), .int (nI (m + 2))] D ad M b es (some (.int (nI (sb_cap q m)))) es 0 0 := by
  refine gMet_of (own := RJ8) (by decide) rfl (Nat.le_of_ble_eq_true rfl) ?_
  intro x C e1 e2 e3 e4 hr eQ
  subst e1; subst e2; subst e3; subst e4
  refine k_sub (L := [(0, .int (nI m)), (1, .int (nI (q - m))), (2, .int (nI (m + 2)))]) (L' := [(0, .int (nI m)), (1, .int (nI (q - m))), (2, .int (nI (m + 2)))]) [0, 1, 2] rfl ?_
  refine k_iload_n C.1 0 dJ8_newLength_cabcc_0 rfl rfl ?_
  refine k_iload_n C.1 1 dJ8_newLength_cabcc_1 rfl rfl ?_
  refine k_iload_n C.1 2 dJ8_newLength_cabcc_2 rfl rfl ?_
  refine k_mmax C.1 ⟨sw_986, sw_587, sw_16, sw_588⟩ (Nat.le_of_ble_eq_true rfl) (Nat.le_of_ble_eq_true rfl) ⟨Nat.zero_le _, Nat.zero_le _⟩ (Nat.le_of_ble_eq_true rfl) (cap_mx h hc) dJ8_newLength_cabcc_3 ?_
  refine k_iadd C.1 (v := nI (sb_cap q m)) dJ8_newLength_cabcc_6 (by rw [nI_add]; congr 1; have := sb_cap_gem q m; omega) ?_
  refine k_istore_n C.1 [(3, .int (nI (sb_cap q m))), (0, .int (nI m)), (1, .int (nI (q - m))), (2, .int (nI (m + 2)))] dJ8_newLength_cabcc_7 rfl (by decide) rfl ?_
  refine k_iconst (v := 0) C.1 dJ8_newLength_cabcc_8 rfl ?_
  refine k_iload_n C.1 0 dJ8_newLength_cabcc_9 rfl rfl ?_
  refine k_icmp_ge C.1 21 dJ8_newLength_cabcc_10 (by decide) (fun c => absurd c (nI_nle (by have := sb_cap_ge q m; omega) (by omega))) (fun _ => ?_)
  refine k_iload_n C.1 0 dJ8_newLength_cabcc_13 rfl rfl ?_
  refine k_ldc C.1 (v := 2147483639) sw_987 dJ8_newLength_cabcc_14 ?_
  refine k_icmp_gt C.1 21 dJ8_newLength_cabcc_16 (by decide) (fun c => absurd (show nI 2147483639 < nI (sb_cap q m) from c) (nI_nlt (by omega) (by decide))) (fun _ => ?_)
  refine k_iload_n C.1 0 dJ8_newLength_cabcc_19 rfl rfl ?_
  exact g_nret C hr rfl eQ dJ8_newLength_cabcc_20
