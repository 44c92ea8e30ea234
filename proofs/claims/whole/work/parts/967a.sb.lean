set_option maxRecDepth 20000 in
set_option maxHeartbeats 2000000 in
theorem sm_isLatin1 (l : Launch) (D : va_G) (ad : Nat → Nat) (M : xM) (b : Nat) (Z : List va_E) (m : Nat) (g : Nat → Int32) (n : Nat) : gMet l yJ5_isLatin1_aae02 cJ5_isLatin1_aae02 1 (some .boolean) 0 0 [.ref b] D ad M b (wB D.1 b Z m g n) (some (.int 1)) (wB D.1 b Z m g n) 0 0 := by
  refine gMet_of (own := RJ5) (by decide) rfl (Nat.le_of_ble_eq_true rfl) ?_
  intro x C e1 e2 e3 e4 hr eQ
  subst e1; subst e2; subst e3; subst e4
  refine k_sub (L := [(0, .ref (k_b x))]) (L' := [(0, .ref (k_b x))]) [0] rfl ?_
  refine g_gets C (gS C).2.2.2.2.2.2.2.2.2.1 sw_947 rfl dJ5_isLatin1_aae02_0 ?_
  refine k_if_eqF C.1 dJ5_isLatin1_aae02_3 (by decide) ⟨_, by first | exact (Int.toNat_of_nonneg (by decide)).symm⟩ ?_
  refine k_aload_n C.1 0 dJ5_isLatin1_aae02_6 rfl rfl ?_
  refine k_get C.1 (i := 0) wB_0 rfl hin_J4 1 (by decide) sw_956 rfl rfl rfl dJ5_isLatin1_aae02_7 ?_
  refine k_if_neF C.1 dJ5_isLatin1_aae02_10 (rfl) ⟨_, by first | exact (Int.toNat_of_nonneg (by decide)).symm⟩ ?_
  refine k_iconst (v := 1) C.1 dJ5_isLatin1_aae02_13 rfl ?_
  refine k_goto C.1 18 dJ5_isLatin1_aae02_14 (by decide) ?_
  exact g_nret C hr rfl eQ dJ5_isLatin1_aae02_18
