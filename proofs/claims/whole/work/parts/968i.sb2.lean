set_option maxRecDepth 20000 in
set_option maxHeartbeats 2000000 in
theorem sm_len0 (l : Launch) (D : va_G) (ad : Nat → Nat) (M : xM) (b : Nat) (Z : List va_E) (m : Nat) (g : Nat → Int32) (n : Nat) : gMet l yJ5_length_8abf5 cJ5_length_8abf5 1 (some .int) 0 0 [.ref b] D ad M b (wB D.1 b Z m g n) (some (.int (nI n))) (wB D.1 b Z m g n) 0 0 := by
  refine gMet_of (own := RJ5) (by decide) rfl (Nat.le_of_ble_eq_true rfl) ?_
  intro x C e1 e2 e3 e4 hr eQ
  subst e1; subst e2; subst e3; subst e4
  refine k_sub (L := [(0, .ref (k_b x))]) (L' := [(0, .ref (k_b x))]) [0] rfl ?_
  refine k_aload_n C.1 0 dJ5_length_8abf5_0 rfl rfl ?_
  refine k_get C.1 (i := 0) wB_0 rfl hin_J4 3 (by decide) sw_957 rfl rfl rfl dJ5_length_8abf5_1 ?_
  exact g_nret C hr rfl eQ dJ5_length_8abf5_4
