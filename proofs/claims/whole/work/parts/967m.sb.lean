set_option maxRecDepth 20000 in
set_option maxHeartbeats 2000000 in
theorem sm_S (l : Launch) (D : va_G) (ad : Nat → Nat) (M : xM) (b : Nat) (Z : List va_E) (m : Nat) (g : Nat → Int32) (n : Nat) {i : Nat} (hi : i < 14) (hm : m ≤ 65536) (hn : n ≤ m) (hc : sb_cap (n + sLen i) m ≤ 65536) (hf : sb_Fit g) : gMet l yJ4_append_15ec4 cJ4_append_15ec4 2 (some (.object RJ4)) 5 150 [.ref b, .ref (ad (1020 + i))] D ad M b (wB D.1 b Z m g n) (some (.ref b)) (wB D.1 b (eZ D.1 Z m g (n + sLen i)) (sb_cap (n + sLen i) m) (va_cpy (sByt i) (eG g m (n + sLen i)) 0 n (sLen i)) (n + sLen i)) (eK (n + sLen i) m) (eL (n + sLen i) m) := by
  refine gMet_of (own := RJ4) (by decide) rfl (Nat.le_of_ble_eq_true rfl) ?_
  intro x C e1 e2 e3 e4 hr eQ
  subst e1; subst e2; subst e3; subst e4
  refine k_sub (L := [(0, .ref (k_b x)), (1, .ref (k_ad x (1020 + i)))]) (L' := [(0, .ref (k_b x)), (1, .ref (k_ad x (1020 + i)))]) [0, 1] rfl ?_
  refine k_aload_n C.1 0 dJ4_append_15ec4_0 rfl rfl ?_
  refine k_aload_n C.1 1 dJ4_append_15ec4_1 rfl rfl ?_
  refine g_callSU C (i := 0) (As := [.ref (k_ad x (1020 + i))]) (nn := 1) (eLen) (sm_aS _ _ _ M _ _ _ _ _ hi hm hn hc hf) wB_0 rfl rfl ⟨sw_1041, sw_1845, sw_966, sw_1042, sw_23, sw_1043⟩ ⟨by decide +kernel, by decide +kernel⟩ ⟨Nat.le_of_ble_eq_true rfl, Nat.le_of_ble_eq_true rfl⟩ ⟨by show _ ≤ (eK (n + sLen i) m); omega, by show _ ≤ (eL (n + sLen i) m); omega⟩ rfl rfl (Nat.le_of_ble_eq_true rfl) dJ4_append_15ec4_2 ?_
  refine k_pop C.1 rfl dJ4_append_15ec4_5 ?_
  refine k_aload_n C.1 0 dJ4_append_15ec4_6 rfl rfl ?_
  refine k_nm (cs2 := eK (n + sLen i) m) (ss2 := eL (n + sLen i) m) rfl rfl (by omega) (by omega) ?_
  exact g_aret C hr (Or.inl ⟨_, rfl⟩) eQ dJ4_append_15ec4_7
