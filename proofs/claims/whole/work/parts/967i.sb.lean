set_option maxRecDepth 20000 in
set_option maxHeartbeats 2000000 in
theorem sm_getBytes (l : Launch) (D : va_G) (ad : Nat → Nat) (M : xM) (b : Nat) (Z : List va_E) (m : Nat) (g : Nat → Int32) (n : Nat) {i : Nat} (hi : i < 14) (hm : m ≤ 65536) (hn : n + sLen i ≤ m) : gMet l yJ0_getBytes_840e7 cJ0_getBytes_840e7 4 none 2 40 [.ref (ad (1020 + i)), .ref (b + (Z.length + 1)), .int (nI n), .int 0] D ad M b (wB D.1 b Z m g n) none (wB D.1 b Z m (va_cpy (sByt i) g 0 n (sLen i)) n) 0 0 := by
  refine gMet_of (own := RJ0) (by decide) rfl (Nat.le_of_ble_eq_true rfl) ?_
  intro x C e1 e2 e3 e4 hr eQ
  subst e1; subst e2; subst e3; subst e4
  have hl := sLen_ok i hi
  refine k_sub (L := [(0, .ref (k_ad x (1020 + i))), (1, .ref (k_b x + (Z.length + 1))), (2, .int (nI n)), (3, .int 0)]) (L' := [(0, .ref (k_ad x (1020 + i))), (1, .ref (k_b x + (Z.length + 1))), (2, .int (nI n)), (3, .int 0)]) [0, 1, 2, 3] rfl ?_
  refine k_aload_n C.1 0 dJ0_getBytes_840e7_0 rfl rfl ?_
  refine g_callX C (As := []) (nn := 0) (js_coder (l := _) (D := _) (tys := _) (ad := _) (sh := fun _ _ => .inr (0, [])) (K := 0) (M := fun _ _ => 0) hi) ⟨sw_397, sw_398, sw_399, sw_12, sw_400⟩ ⟨rfl, by decide +kernel, by decide +kernel, by decide +kernel⟩ ⟨rfl, rfl, Nat.le_of_ble_eq_true rfl, Nat.le_of_ble_eq_true rfl⟩ ⟨Nat.zero_le _, Nat.zero_le _⟩ ((gS C).2.2.2.2.2.2.2.1 i hi).1 rfl rfl (Nat.le_of_ble_eq_true rfl) dJ0_getBytes_840e7_1 ?_
  refine k_iload_n C.1 3 dJ0_getBytes_840e7_4 rfl rfl ?_
  refine k_icmp_ne C.1 28 dJ0_getBytes_840e7_5 (by decide) (fun z => absurd rfl z) (fun _ => ?_)
  refine k_aload_n C.1 0 dJ0_getBytes_840e7_8 rfl rfl ?_
  refine g_getO C ((gS C).2.2.2.2.2.2.2.1 i hi).2.2.1 sw_1872 rfl dJ0_getBytes_840e7_9 ?_
  refine k_iconst (v := 0) C.1 dJ0_getBytes_840e7_12 rfl ?_
  refine k_aload_n C.1 1 dJ0_getBytes_840e7_13 rfl rfl ?_
  refine k_iload_n C.1 2 dJ0_getBytes_840e7_14 rfl rfl ?_
  refine k_iload_n C.1 3 dJ0_getBytes_840e7_15 rfl rfl ?_
  refine k_ishl C.1 (v := nI n) dJ0_getBytes_840e7_16 ((sb_shl0 _).symm) ?_
  refine k_aload_n C.1 0 dJ0_getBytes_840e7_17 rfl rfl ?_
  refine g_getO C ((gS C).2.2.2.2.2.2.2.1 i hi).2.2.1 sw_1872 rfl dJ0_getBytes_840e7_18 ?_
  refine k_tlen C.1 ((gS C).2.2.2.2.2.2.2.1 i hi).2.2.2 (v := nI (sLen i)) rfl dJ0_getBytes_840e7_21 ?_
  refine g_copyT C (es1 := wB (k_D x).1 (k_b x) Z m (va_cpy (sByt i) g 0 n (sLen i)) n) ⟨sw_1074, sw_460, sw_459, sw_17⟩ ((gS C).2.2.2.2.2.2.2.1 i hi).2.2.2 wB_a (by decide) (nI_pos (by omega)) (nI_pos (by omega)) (by rw [sb_cl0, nI_clamp (by omega)]; omega) (by rw [nI_clamp (by omega), nI_clamp (by omega)]; omega) (fun j _ => sByt_fit i hi _) rfl (by rw [sb_cl0, nI_clamp (by omega), nI_clamp (by omega)]; exact wB_g) (Nat.le_of_ble_eq_true rfl) (Nat.le_of_ble_eq_true rfl) (Nat.le_of_ble_eq_true rfl) dJ0_getBytes_840e7_22 ?_
  refine k_goto C.1 43 dJ0_getBytes_840e7_25 (by decide) ?_
  exact g_vret C hr eQ dJ0_getBytes_840e7_43
