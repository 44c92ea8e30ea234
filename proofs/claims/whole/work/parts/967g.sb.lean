set_option maxRecDepth 20000 in
set_option maxHeartbeats 2000000 in
theorem sm_aC (l : Launch) (D : va_G) (ad : Nat → Nat) (M : xM) (b : Nat) (Z : List va_E) (m : Nat) (g : Nat → Int32) (n : Nat) {v : Nat} (hv : v < 128) (hm : m ≤ 65536) (hn : n ≤ m) (hc : sb_cap (n + 1) m ≤ 65536) (hf : sb_Fit g) : gMet l yJ5_append_3fe6f cJ5_append_3fe6f 2 (some (.object RJ5)) 4 120 [.ref b, .int (nI v)] D ad M b (wB D.1 b Z m g n) (some (.ref b)) (wB D.1 b (eZ D.1 Z m g (n + 1)) (sb_cap (n + 1) m) (upd (eG g m (n + 1)) n (nI v)) (n + 1)) (eK (n + 1) m) (eL (n + 1) m) := by
  refine gMet_of (own := RJ5) (by decide) rfl (Nat.le_of_ble_eq_true rfl) ?_
  intro x C e1 e2 e3 e4 hr eQ
  subst e1; subst e2; subst e3; subst e4
  refine k_sub (L := [(0, .ref (k_b x)), (1, .int (nI v))]) (L' := [(0, .ref (k_b x)), (1, .int (nI v))]) [0, 1] rfl ?_
  refine k_aload_n C.1 0 dJ5_append_3fe6f_0 rfl rfl ?_
  refine k_aload_n C.1 0 dJ5_append_3fe6f_1 rfl rfl ?_
  refine k_get C.1 (i := 0) wB_0 rfl hin_J4 3 (by decide) sw_957 rfl rfl rfl dJ5_append_3fe6f_2 ?_
  refine k_iconst (v := 1) C.1 dJ5_append_3fe6f_5 rfl ?_
  refine k_iadd C.1 (v := nI (n + 1)) dJ5_append_3fe6f_6 ((nI_1 n).symm) ?_
  refine g_callU C (i := 0) (As := [.int (nI (n + 1))]) (nn := 1) (eLen) (sm_ensure _ _ _ M _ _ _ _ _ hm (by have := sb_cap_ge (n + 1) m; omega) hc hf) wB_0 rfl ⟨sw_975, sw_1842, sw_977, sw_23, sw_978⟩ (C.2.2.2 _ (List.mem_of_getElem? (i := 0) rfl)) rfl ⟨by decide +kernel, by decide +kernel, by decide +kernel⟩ ⟨Nat.le_of_ble_eq_true rfl, Nat.le_of_ble_eq_true rfl⟩ ⟨by show _ ≤ (eK (n + 1) m); omega, by show _ ≤ (eL (n + 1) m); omega⟩ rfl rfl (Nat.le_of_ble_eq_true rfl) dJ5_append_3fe6f_7 ?_
  refine k_aload_n C.1 0 dJ5_append_3fe6f_10 rfl rfl ?_
  refine g_callU C (i := 0) (As := []) (nn := 0) (rfl) (sm_isLatin1 _ _ _ M _ _ _ _ _) wB_0 rfl ⟨sw_1004, sw_1006, sw_1005, sw_23, sw_1008⟩ (C.1.2.2.2.2.1 _ sw_1007) rfl ⟨by decide +kernel, by decide +kernel, by decide +kernel⟩ ⟨Nat.le_of_ble_eq_true rfl, Nat.le_of_ble_eq_true rfl⟩ ⟨by show _ ≤ (eK (n + 1) m); omega, by show _ ≤ (eL (n + 1) m); omega⟩ rfl rfl (Nat.le_of_ble_eq_true rfl) dJ5_append_3fe6f_11 ?_
  refine k_if_eqF C.1 dJ5_append_3fe6f_14 (by decide) ⟨_, by first | exact (Int.toNat_of_nonneg (by decide)).symm⟩ ?_
  refine k_iload_n C.1 1 dJ5_append_3fe6f_17 rfl rfl ?_
  refine g_callS C (As := [.int (nI v)]) (nn := 1) (rfl) (sm_canEncode _ _ _ M _ _ hv) ⟨sw_1009, sw_1010, sw_13, sw_1011⟩ ⟨by decide +kernel, by decide +kernel, by decide +kernel⟩ ⟨Nat.le_of_ble_eq_true rfl, Nat.le_of_ble_eq_true rfl⟩ ⟨by show _ ≤ (eK (n + 1) m); omega, by show _ ≤ (eL (n + 1) m); omega⟩ rfl rfl (Nat.le_of_ble_eq_true rfl) dJ5_append_3fe6f_18 ?_
  refine k_if_eqF C.1 dJ5_append_3fe6f_21 (by decide) ⟨_, by first | exact (Int.toNat_of_nonneg (by decide)).symm⟩ ?_
  refine k_aload_n C.1 0 dJ5_append_3fe6f_24 rfl rfl ?_
  refine k_get C.1 (i := 0) wB_0 rfl hin_J4 0 (by decide) sw_955 rfl rfl rfl dJ5_append_3fe6f_25 ?_
  refine k_aload_n C.1 0 dJ5_append_3fe6f_28 rfl rfl ?_
  refine k_dup C.1 dJ5_append_3fe6f_29 ?_
  refine k_get C.1 (i := 0) wB_0 rfl hin_J4 3 (by decide) sw_957 rfl rfl rfl dJ5_append_3fe6f_30 ?_
  refine k_dup_x1 C.1 rfl rfl dJ5_append_3fe6f_33 ?_
  refine k_iconst (v := 1) C.1 dJ5_append_3fe6f_34 rfl ?_
  refine k_iadd C.1 (v := nI (n + 1)) dJ5_append_3fe6f_35 ((nI_1 n).symm) ?_
  refine k_put C.1 (i := 0) tyJ4 tyJ4_ok nmJ4 wB_0 rfl hin_J4 3 (by decide) sw_957 rfl rfl (ht := rfl) rfl rfl (Nat.le_of_ble_eq_true rfl) rfl (es1 := (wB (k_D x).1 (k_b x) (eZ (k_D x).1 Z m g (n + 1)) (sb_cap (n + 1) m) (eG g m (n + 1)) (n + 1))) (rfl) dJ5_append_3fe6f_36 ?_
  refine k_iload_n C.1 1 dJ5_append_3fe6f_39 rfl rfl ?_
  refine k_i2b C.1 (v := nI v) dJ5_append_3fe6f_40 ((bV v hv).2.2.1) ?_
  refine g_bast C (i := (eZ (k_D x).1 Z m g (n + 1)).length + 1) wB_a (pk_in n _ (by have := sb_cap_ge (n + 1) m; omega) rfl (by omega)) (bV v hv).1 rfl (es1 := (wB (k_D x).1 (k_b x) (eZ (k_D x).1 Z m g (n + 1)) (sb_cap (n + 1) m) (upd (eG g m (n + 1)) n (nI v)) (n + 1))) (by rw [nI_clamp (by omega)]; exact wB_g) dJ5_append_3fe6f_41 ?_
  refine k_goto C.1 75 dJ5_append_3fe6f_42 (by decide) ?_
  refine k_aload_n C.1 0 dJ5_append_3fe6f_75 rfl rfl ?_
  refine k_nm (cs2 := eK (n + 1) m) (ss2 := eL (n + 1) m) rfl rfl (by omega) (by omega) ?_
  exact g_aret C hr (Or.inl ⟨_, rfl⟩) eQ dJ5_append_3fe6f_76
