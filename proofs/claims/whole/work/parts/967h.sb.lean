set_option maxRecDepth 20000 in
set_option maxHeartbeats 2000000 in
theorem sm_C (l : Launch) (D : va_G) (ad : Nat → Nat) (M : xM) (b : Nat) (Z : List va_E) (m : Nat) (g : Nat → Int32) (n : Nat) {v : Nat} (hv : v < 128) (hm : m ≤ 65536) (hn : n ≤ m) (hc : sb_cap (n + 1) m ≤ 65536) (hf : sb_Fit g) : gMet l yJ4_append_cf468 cJ4_append_cf468 2 (some (.object RJ4)) 5 150 [.ref b, .int (nI v)] D ad M b (wB D.1 b Z m g n) (some (.ref b)) (wB D.1 b (eZ D.1 Z m g (n + 1)) (sb_cap (n + 1) m) (upd (eG g m (n + 1)) n (nI v)) (n + 1)) (eK (n + 1) m) (eL (n + 1) m) := by
  refine gMet_of (own := RJ4) (by decide) rfl (Nat.le_of_ble_eq_true rfl) ?_
  intro x C e1 e2 e3 e4 hr eQ
  subst e1; subst e2; subst e3; subst e4
  refine k_sub (L := [(0, .ref (k_b x)), (1, .int (nI v))]) (L' := [(0, .ref (k_b x)), (1, .int (nI v))]) [0, 1] rfl ?_
  refine k_aload_n C.1 0 dJ4_append_cf468_0 rfl rfl ?_
  refine k_iload_n C.1 1 dJ4_append_cf468_1 rfl rfl ?_
  refine g_callSU C (i := 0) (As := [.int (nI v)]) (nn := 1) (eLen) (sm_aC _ _ _ M _ _ _ _ _ hv hm hn hc hf) wB_0 rfl rfl ⟨sw_972, sw_1841, sw_966, sw_973, sw_23, sw_974⟩ ⟨by decide +kernel, by decide +kernel⟩ ⟨Nat.le_of_ble_eq_true rfl, Nat.le_of_ble_eq_true rfl⟩ ⟨by show _ ≤ (eK (n + 1) m); omega, by show _ ≤ (eL (n + 1) m); omega⟩ rfl rfl (Nat.le_of_ble_eq_true rfl) dJ4_append_cf468_2 ?_
  refine k_pop C.1 rfl dJ4_append_cf468_5 ?_
  refine k_aload_n C.1 0 dJ4_append_cf468_6 rfl rfl ?_
  refine k_nm (cs2 := eK (n + 1) m) (ss2 := eL (n + 1) m) rfl rfl (by omega) (by omega) ?_
  exact g_aret C hr (Or.inl ⟨_, rfl⟩) eQ dJ4_append_cf468_7
