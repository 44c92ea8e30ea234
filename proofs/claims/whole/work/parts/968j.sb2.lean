set_option maxRecDepth 20000 in
set_option maxHeartbeats 2000000 in
theorem sm_len (l : Launch) (D : va_G) (ad : Nat → Nat) (M : xM) (b : Nat) (Z : List va_E) (m : Nat) (g : Nat → Int32) (n : Nat) : gMet l yJ4_length_8abf5 cJ4_length_8abf5 1 (some .int) 1 30 [.ref b] D ad M b (wB D.1 b Z m g n) (some (.int (nI n))) (wB D.1 b Z m g n) 0 0 := by
  refine gMet_of (own := RJ4) (by decide) rfl (Nat.le_of_ble_eq_true rfl) ?_
  intro x C e1 e2 e3 e4 hr eQ
  subst e1; subst e2; subst e3; subst e4
  refine k_sub (L := [(0, .ref (k_b x))]) (L' := [(0, .ref (k_b x))]) [0] rfl ?_
  refine k_aload_n C.1 0 dJ4_length_8abf5_0 rfl rfl ?_
  refine g_callSU C (i := 0) (As := []) (nn := 0) (rfl) (sm_len0 _ _ _ M _ _ _ _ _) wB_0 rfl rfl ⟨sw_1105, sw_1850, sw_966, sw_1106, sw_23, sw_1107⟩ ⟨by decide +kernel, by decide +kernel⟩ ⟨Nat.le_of_ble_eq_true rfl, Nat.le_of_ble_eq_true rfl⟩ ⟨Nat.zero_le _, Nat.zero_le _⟩ rfl rfl (Nat.le_of_ble_eq_true rfl) dJ4_length_8abf5_1 ?_
  exact g_nret C hr rfl eQ dJ4_length_8abf5_4
