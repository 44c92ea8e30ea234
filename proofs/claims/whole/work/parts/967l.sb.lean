set_option maxRecDepth 20000 in
set_option maxHeartbeats 2000000 in
theorem sm_aS (l : Launch) (D : va_G) (ad : Nat → Nat) (M : xM) (b : Nat) (Z : List va_E) (m : Nat) (g : Nat → Int32) (n : Nat) {i : Nat} (hi : i < 14) (hm : m ≤ 65536) (hn : n ≤ m) (hc : sb_cap (n + sLen i) m ≤ 65536) (hf : sb_Fit g) : gMet l yJ5_append_cf1ce cJ5_append_cf1ce 3 (some (.object RJ5)) 4 120 [.ref b, .ref (ad (1020 + i))] D ad M b (wB D.1 b Z m g n) (some (.ref b)) (wB D.1 b (eZ D.1 Z m g (n + sLen i)) (sb_cap (n + sLen i) m) (va_cpy (sByt i) (eG g m (n + sLen i)) 0 n (sLen i)) (n + sLen i)) (eK (n + sLen i) m) (eL (n + sLen i) m) := by
  refine gMet_of (own := RJ5) (by decide) rfl (Nat.le_of_ble_eq_true rfl) ?_
  intro x C e1 e2 e3 e4 hr eQ
  subst e1; subst e2; subst e3; subst e4
  have hl := sLen_ok i hi
  refine k_sub (L := [(0, .ref (k_b x)), (1, .ref (k_ad x (1020 + i)))]) (L' := [(0, .ref (k_b x)), (1, .ref (k_ad x (1020 + i)))]) [0, 1] rfl ?_
  refine k_aload_n C.1 1 dJ5_append_cf1ce_0 rfl rfl ?_
  refine k_ifnonnull C.1 9 dJ5_append_cf1ce_1 (by decide) ?_
  refine k_aload_n C.1 1 dJ5_append_cf1ce_9 rfl rfl ?_
  refine g_callX C (As := []) (nn := 0) (js_length (l := _) (D := _) (tys := _) (ad := _) (sh := fun _ _ => .inr (0, [])) (K := 0) (M := fun _ _ => 0) hi) ⟨sw_1060, sw_394, sw_395, sw_12, sw_396⟩ ⟨rfl, by decide +kernel, by decide +kernel, by decide +kernel⟩ ⟨rfl, rfl, Nat.le_of_ble_eq_true rfl, Nat.le_of_ble_eq_true rfl⟩ ⟨by show _ ≤ (eK (n + sLen i) m); omega, by show _ ≤ (eL (n + sLen i) m); omega⟩ ((gS C).2.2.2.2.2.2.2.1 i hi).1 rfl rfl (Nat.le_of_ble_eq_true rfl) dJ5_append_cf1ce_10 ?_
  refine k_istore_n C.1 [(2, .int (nI (sLen i))), (0, .ref (k_b x)), (1, .ref (k_ad x (1020 + i)))] dJ5_append_cf1ce_13 rfl (by decide) rfl ?_
  refine k_aload_n C.1 1 dJ5_append_cf1ce_14 rfl rfl ?_
  refine k_aload_n C.1 1 dJ5_append_cf1ce_15 rfl rfl ?_
  refine k_get C.1 (i := 0) wB_0 rfl hin_J4 3 (by decide) sw_957 rfl rfl rfl dJ5_append_cf1ce_16 ?_
  refine k_iload_n C.1 0 dJ5_append_cf1ce_19 rfl rfl ?_
  refine k_iadd C.1 (v := nI (n + sLen i)) dJ5_append_cf1ce_20 ((nI_add _ _).symm) ?_
  refine g_callU C (i := 0) (As := [.int (nI (n + sLen i))]) (nn := 1) (eLen) (sm_ensure _ _ _ M _ _ _ _ _ hm (by have := sb_cap_ge (n + sLen i) m; omega) hc hf) wB_0 rfl ⟨sw_975, sw_1842, sw_977, sw_23, sw_978⟩ (C.2.2.2 _ (List.mem_of_getElem? (i := 0) rfl)) rfl ⟨by decide +kernel, by decide +kernel, by decide +kernel⟩ ⟨Nat.le_of_ble_eq_true rfl, Nat.le_of_ble_eq_true rfl⟩ ⟨by show _ ≤ (eK (n + sLen i) m); omega, by show _ ≤ (eL (n + sLen i) m); omega⟩ rfl rfl (Nat.le_of_ble_eq_true rfl) dJ5_append_cf1ce_21 ?_
  refine k_aload_n C.1 1 dJ5_append_cf1ce_24 rfl rfl ?_
  refine k_aload_n C.1 1 dJ5_append_cf1ce_25 rfl rfl ?_
  refine k_get C.1 (i := 0) wB_0 rfl hin_J4 3 (by decide) sw_957 rfl rfl rfl dJ5_append_cf1ce_26 ?_
  refine k_aload_n C.1 2 dJ5_append_cf1ce_29 rfl rfl ?_
  refine g_callU C (i := 0) (As := [.int (nI n), .ref (k_ad x (1020 + i))]) (nn := 2) (by rw [wB_len, wB_len]) (sm_putStr _ _ _ M _ _ _ _ _ hi (by omega) (by have := sb_cap_ge (n + sLen i) m; omega)) wB_0 rfl ⟨sw_1061, sw_1847, sw_1063, sw_23, sw_1064⟩ (C.2.2.2 _ (List.mem_of_getElem? (i := 2) rfl)) rfl ⟨by decide +kernel, by decide +kernel, by decide +kernel⟩ ⟨Nat.le_of_ble_eq_true rfl, Nat.le_of_ble_eq_true rfl⟩ ⟨by show _ ≤ (eK (n + sLen i) m); omega, by show _ ≤ (eL (n + sLen i) m); omega⟩ rfl rfl (Nat.le_of_ble_eq_true rfl) dJ5_append_cf1ce_30 ?_
  refine k_aload_n C.1 1 dJ5_append_cf1ce_33 rfl rfl ?_
  refine k_dup C.1 dJ5_append_cf1ce_34 ?_
  refine k_get C.1 (i := 0) wB_0 rfl hin_J4 3 (by decide) sw_957 rfl rfl rfl dJ5_append_cf1ce_35 ?_
  refine k_iload_n C.1 0 dJ5_append_cf1ce_38 rfl rfl ?_
  refine k_iadd C.1 (v := nI (n + sLen i)) dJ5_append_cf1ce_39 ((nI_add _ _).symm) ?_
  refine k_put C.1 (i := 0) tyJ4 tyJ4_ok nmJ4 wB_0 rfl hin_J4 3 (by decide) sw_957 rfl rfl (ht := rfl) rfl rfl (Nat.le_of_ble_eq_true rfl) rfl (es1 := (wB (k_D x).1 (k_b x) (eZ (k_D x).1 Z m g (n + sLen i)) (sb_cap (n + sLen i) m) (va_cpy (sByt i) (eG g m (n + sLen i)) 0 n (sLen i)) (n + sLen i))) (rfl) dJ5_append_cf1ce_40 ?_
  refine k_aload_n C.1 1 dJ5_append_cf1ce_43 rfl rfl ?_
  refine k_nm (cs2 := eK (n + sLen i) m) (ss2 := eL (n + sLen i) m) rfl rfl (by omega) (by omega) ?_
  exact g_aret C hr (Or.inl ⟨_, rfl⟩) eQ dJ5_append_cf1ce_44
