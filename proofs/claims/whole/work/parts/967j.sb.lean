set_option maxRecDepth 20000 in
set_option maxHeartbeats 2000000 in
theorem sm_inflateIf (l : Launch) (D : va_G) (ad : Nat → Nat) (M : xM) (b : Nat) (Z : List va_E) (m : Nat) (g : Nat → Int32) (n : Nat) {i : Nat} (hi : i < 14) : gMet l yJ5_inflateIfNeededFor_a7421 cJ5_inflateIfNeededFor_a7421 2 none 1 30 [.ref b, .ref (ad (1020 + i))] D ad M b (wB D.1 b Z m g n) none (wB D.1 b Z m g n) 0 0 := by
  refine gMet_of (own := RJ5) (by decide) rfl (Nat.le_of_ble_eq_true rfl) ?_
  intro x C e1 e2 e3 e4 hr eQ
  subst e1; subst e2; subst e3; subst e4
  refine k_sub (L := [(0, .ref (k_b x)), (1, .ref (k_ad x (1020 + i)))]) (L' := [(0, .ref (k_b x)), (1, .ref (k_ad x (1020 + i)))]) [0, 1] rfl ?_
  refine g_gets C (gS C).2.2.2.2.2.2.2.2.2.1 sw_947 rfl dJ5_inflateIfNeededFor_a7421_0 ?_
  refine k_if_eqF C.1 dJ5_inflateIfNeededFor_a7421_3 (by decide) ⟨_, by first | exact (Int.toNat_of_nonneg (by decide)).symm⟩ ?_
  refine k_aload_n C.1 0 dJ5_inflateIfNeededFor_a7421_6 rfl rfl ?_
  refine k_get C.1 (i := 0) wB_0 rfl hin_J4 1 (by decide) sw_956 rfl rfl rfl dJ5_inflateIfNeededFor_a7421_7 ?_
  refine k_aload_n C.1 1 dJ5_inflateIfNeededFor_a7421_10 rfl rfl ?_
  refine g_callX C (As := []) (nn := 0) (js_coder (l := _) (D := _) (tys := _) (ad := _) (sh := fun _ _ => .inr (0, [])) (K := 0) (M := fun _ _ => 0) hi) ⟨sw_1069, sw_398, sw_399, sw_12, sw_400⟩ ⟨rfl, by decide +kernel, by decide +kernel, by decide +kernel⟩ ⟨rfl, rfl, Nat.le_of_ble_eq_true rfl, Nat.le_of_ble_eq_true rfl⟩ ⟨Nat.zero_le _, Nat.zero_le _⟩ ((gS C).2.2.2.2.2.2.2.1 i hi).1 rfl rfl (Nat.le_of_ble_eq_true rfl) dJ5_inflateIfNeededFor_a7421_11 ?_
  refine k_icmp_eq C.1 21 dJ5_inflateIfNeededFor_a7421_14 (by decide) (fun _ => ?_) (fun z => absurd rfl z)
  exact g_vret C hr eQ dJ5_inflateIfNeededFor_a7421_21
