set_option maxRecDepth 20000 in
set_option maxHeartbeats 2000000 in
theorem sm_aI (l : Launch) (D : va_G) (ad : Nat → Nat) (M : xM) (b : Nat) (Z : List va_E) (m : Nat) (g : Nat → Int32) (n : Nat) {v : Nat} (hv : v < 10000) (hm : m ≤ 65536) (hn : n ≤ m) (hc : sb_cap (n + sb_dg v) m ≤ 65536) (hf : sb_Fit g) : gMet l yJ5_append_c97b9 cJ5_append_c97b9 4 (some (.object RJ5)) 4 120 [.ref b, .int (nI v)] D ad M b (wB D.1 b Z m g n) (some (.ref b)) (wB D.1 b (eZ D.1 Z m g (n + sb_dg v)) (sb_cap (n + sb_dg v) m) (gcF (eG g m (n + sb_dg v)) (n + sb_dg v) v) (n + sb_dg v)) (eK (n + sb_dg v) m) (eL (n + sb_dg v) m) := by
  refine gMet_of (own := RJ5) (by decide) rfl (Nat.le_of_ble_eq_true rfl) ?_
  intro x C e1 e2 e3 e4 hr eQ
  subst e1; subst e2; subst e3; subst e4
  have hd := sb_dg_in v
  refine k_sub (L := [(0, .ref (k_b x)), (1, .int (nI v))]) (L' := [(0, .ref (k_b x)), (1, .int (nI v))]) [0, 1] rfl ?_
  refine k_aload_n C.1 0 dJ5_append_c97b9_0 rfl rfl ?_
  refine k_get C.1 (i := 0) wB_0 rfl hin_J4 3 (by decide) sw_957 rfl rfl rfl dJ5_append_c97b9_1 ?_
  refine k_istore_n C.1 [(2, .int (nI n)), (0, .ref (k_b x)), (1, .int (nI v))] dJ5_append_c97b9_4 rfl (by decide) rfl ?_
  refine k_iload_n C.1 0 dJ5_append_c97b9_5 rfl rfl ?_
  refine k_iload_n C.1 2 dJ5_append_c97b9_6 rfl rfl ?_
  refine g_callS C (As := [.int (nI v)]) (nn := 1) (rfl) (sm_size _ _ _ M _ _ hv) ⟨sw_1083, sw_1084, sw_27, sw_1085⟩ ⟨by decide +kernel, by decide +kernel, by decide +kernel⟩ ⟨Nat.le_of_ble_eq_true rfl, Nat.le_of_ble_eq_true rfl⟩ ⟨by show _ ≤ (eK (n + sb_dg v) m); omega, by show _ ≤ (eL (n + sb_dg v) m); omega⟩ rfl rfl (Nat.le_of_ble_eq_true rfl) dJ5_append_c97b9_7 ?_
  refine k_iadd C.1 (v := nI (n + sb_dg v)) dJ5_append_c97b9_10 ((nI_add _ _).symm) ?_
  refine k_istore_n C.1 [(3, .int (nI (n + sb_dg v))), (2, .int (nI n)), (0, .ref (k_b x)), (1, .int (nI v))] dJ5_append_c97b9_11 rfl (by decide) rfl ?_
  refine k_aload_n C.1 2 dJ5_append_c97b9_12 rfl rfl ?_
  refine k_iload_n C.1 0 dJ5_append_c97b9_13 rfl rfl ?_
  refine g_callU C (i := 0) (As := [.int (nI (n + sb_dg v))]) (nn := 1) (eLen) (sm_ensure _ _ _ M _ _ _ _ _ hm (by have := sb_cap_ge (n + sb_dg v) m; omega) hc hf) wB_0 rfl ⟨sw_975, sw_1842, sw_977, sw_23, sw_978⟩ (C.2.2.2 _ (List.mem_of_getElem? (i := 0) rfl)) rfl ⟨by decide +kernel, by decide +kernel, by decide +kernel⟩ ⟨Nat.le_of_ble_eq_true rfl, Nat.le_of_ble_eq_true rfl⟩ ⟨by show _ ≤ (eK (n + sb_dg v) m); omega, by show _ ≤ (eL (n + sb_dg v) m); omega⟩ rfl rfl (Nat.le_of_ble_eq_true rfl) dJ5_append_c97b9_14 ?_
  refine k_aload_n C.1 2 dJ5_append_c97b9_17 rfl rfl ?_
  refine g_callU C (i := 0) (As := []) (nn := 0) (rfl) (sm_isLatin1 _ _ _ M _ _ _ _ _) wB_0 rfl ⟨sw_1004, sw_1006, sw_1005, sw_23, sw_1008⟩ (C.1.2.2.2.2.1 _ sw_1007) rfl ⟨by decide +kernel, by decide +kernel, by decide +kernel⟩ ⟨Nat.le_of_ble_eq_true rfl, Nat.le_of_ble_eq_true rfl⟩ ⟨by show _ ≤ (eK (n + sb_dg v) m); omega, by show _ ≤ (eL (n + sb_dg v) m); omega⟩ rfl rfl (Nat.le_of_ble_eq_true rfl) dJ5_append_c97b9_18 ?_
  refine k_if_eqF C.1 dJ5_append_c97b9_21 (by decide) ⟨_, by first | exact (Int.toNat_of_nonneg (by decide)).symm⟩ ?_
  refine k_iload_n C.1 3 dJ5_append_c97b9_24 rfl rfl ?_
  refine k_iload_n C.1 0 dJ5_append_c97b9_25 rfl rfl ?_
  refine k_aload_n C.1 2 dJ5_append_c97b9_26 rfl rfl ?_
  refine k_get C.1 (i := 0) wB_0 rfl hin_J4 0 (by decide) sw_955 rfl rfl rfl dJ5_append_c97b9_27 ?_
  refine g_callS C (As := [.int (nI v), .int (nI (n + sb_dg v)), .ref (k_b x + ((eZ (k_D x).1 Z m g (n + sb_dg v)).length + 1))]) (nn := 3) (by rw [List.length_set]; rfl) (sm_getChars _ _ _ M _ _ wB_a hv hc (by have := sb_cap_ge (n + sb_dg v) m; omega) rfl) ⟨sw_1086, sw_1087, sw_27, sw_1088⟩ ⟨by decide +kernel, by decide +kernel, by decide +kernel⟩ ⟨Nat.le_of_ble_eq_true rfl, Nat.le_of_ble_eq_true rfl⟩ ⟨by show _ ≤ (eK (n + sb_dg v) m); omega, by show _ ≤ (eL (n + sb_dg v) m); omega⟩ rfl rfl (Nat.le_of_ble_eq_true rfl) dJ5_append_c97b9_30 ?_
  refine k_pop C.1 rfl dJ5_append_c97b9_33 ?_
  refine k_nm (es2 := (wB (k_D x).1 (k_b x) (eZ (k_D x).1 Z m g (n + sb_dg v)) (sb_cap (n + sb_dg v) m) (gcF (eG g m (n + sb_dg v)) (n + sb_dg v) v) n)) wB_g rfl rfl rfl ?_
  refine k_goto C.1 48 dJ5_append_c97b9_34 (by decide) ?_
  refine k_aload_n C.1 2 dJ5_append_c97b9_48 rfl rfl ?_
  refine k_iload_n C.1 0 dJ5_append_c97b9_49 rfl rfl ?_
  refine k_put C.1 (i := 0) tyJ4 tyJ4_ok nmJ4 wB_0 rfl hin_J4 3 (by decide) sw_957 rfl rfl (ht := rfl) rfl rfl (Nat.le_of_ble_eq_true rfl) rfl (es1 := (wB (k_D x).1 (k_b x) (eZ (k_D x).1 Z m g (n + sb_dg v)) (sb_cap (n + sb_dg v) m) (gcF (eG g m (n + sb_dg v)) (n + sb_dg v) v) (n + sb_dg v))) (rfl) dJ5_append_c97b9_50 ?_
  refine k_aload_n C.1 2 dJ5_append_c97b9_53 rfl rfl ?_
  refine k_nm (cs2 := eK (n + sb_dg v) m) (ss2 := eL (n + sb_dg v) m) rfl rfl (by omega) (by omega) ?_
  exact g_aret C hr (Or.inl ⟨_, rfl⟩) eQ dJ5_append_c97b9_54
