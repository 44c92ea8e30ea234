set_option maxRecDepth 20000 in
set_option maxHeartbeats 2000000 in
theorem sm_init (l : Launch) (D : va_G) (ad : Nat → Nat) (M : xM) (b : Nat) : gMet l yJ4_init_da8c8 cJ4_init_da8c8 1 none 2 60 [.ref b] D ad M b [.inr (0, [.null, .int 0, .int 0, .int 0])] none (wB D.1 b [] 16 (fun _ => 0) 0) 1 16 := by
  refine gMet_of (own := RJ4) (by decide) rfl (Nat.le_of_ble_eq_true rfl) ?_
  intro x C e1 e2 e3 e4 hr eQ
  subst e1; subst e2; subst e3; subst e4
  refine k_sub (L := [(0, .ref (k_b x))]) (L' := [(0, .ref (k_b x))]) [0] rfl ?_
  refine k_aload_n C.1 0 dJ4_init_da8c8_0 rfl rfl ?_
  refine k_bipush (v := 16) C.1 dJ4_init_da8c8_1 (by decide) ?_
  refine g_callI C (i := 0) (As := [.int 16]) (nn := 1) (rfl) (sm_init0 _ _ _ M _) ⟨sw_943, sw_944, sw_23, sw_945⟩ rfl ⟨by decide +kernel, by decide +kernel, by decide +kernel⟩ ⟨Nat.le_of_ble_eq_true rfl, Nat.le_of_ble_eq_true rfl⟩ ⟨Nat.le_refl 1, Nat.le_refl 16⟩ rfl rfl (Nat.le_of_ble_eq_true rfl) dJ4_init_da8c8_3 ?_
  exact g_vret C hr eQ dJ4_init_da8c8_6
