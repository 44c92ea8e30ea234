set_option maxRecDepth 20000 in
set_option maxHeartbeats 2000000 in
theorem sm_putStr (l : Launch) (D : va_G) (ad : Nat → Nat) (M : xM) (b : Nat) (Z : List va_E) (m : Nat) (g : Nat → Int32) (n : Nat) {i : Nat} (hi : i < 14) (hm : m ≤ 65536) (hn : n + sLen i ≤ m) : gMet l yJ5_putStringAt_47b60 cJ5_putStringAt_47b60 3 none 3 70 [.ref b, .int (nI n), .ref (ad (1020 + i))] D ad M b (wB D.1 b Z m g n) none (wB D.1 b Z m (va_cpy (sByt i) g 0 n (sLen i)) n) 0 0 := by
  refine gMet_of (own := RJ5) (by decide) rfl (Nat.le_of_ble_eq_true rfl) ?_
  intro x C e1 e2 e3 e4 hr eQ
  subst e1; subst e2; subst e3; subst e4
  refine k_sub (L := [(0, .ref (k_b x)), (1, .int (nI n)), (2, .ref (k_ad x (1020 + i)))]) (L' := [(0, .ref (k_b x)), (1, .int (nI n)), (2, .ref (k_ad x (1020 + i)))]) [0, 1, 2] rfl ?_
  refine k_aload_n C.1 0 dJ5_putStringAt_47b60_0 rfl rfl ?_
  refine k_aload_n C.1 2 dJ5_putStringAt_47b60_1 rfl rfl ?_
  refine g_callU C (i := 0) (As := [.ref (k_ad x (1020 + i))]) (nn := 1) (rfl) (sm_inflateIf _ _ _ M _ _ _ _ _ hi) wB_0 rfl ⟨sw_1065, sw_1848, sw_1067, sw_23, sw_1068⟩ (C.2.2.2 _ (List.mem_of_getElem? (i := 3) rfl)) rfl ⟨by decide +kernel, by decide +kernel, by decide +kernel⟩ ⟨Nat.le_of_ble_eq_true rfl, Nat.le_of_ble_eq_true rfl⟩ ⟨Nat.zero_le _, Nat.zero_le _⟩ rfl rfl (Nat.le_of_ble_eq_true rfl) dJ5_putStringAt_47b60_2 ?_
  refine k_aload_n C.1 2 dJ5_putStringAt_47b60_5 rfl rfl ?_
  refine k_aload_n C.1 0 dJ5_putStringAt_47b60_6 rfl rfl ?_
  refine k_get C.1 (i := 0) wB_0 rfl hin_J4 0 (by decide) sw_955 rfl rfl rfl dJ5_putStringAt_47b60_7 ?_
  refine k_iload_n C.1 1 dJ5_putStringAt_47b60_10 rfl rfl ?_
  refine k_aload_n C.1 0 dJ5_putStringAt_47b60_11 rfl rfl ?_
  refine k_get C.1 (i := 0) wB_0 rfl hin_J4 1 (by decide) sw_956 rfl rfl rfl dJ5_putStringAt_47b60_12 ?_
  refine g_callO C (As := [.ref (k_b x + (Z.length + 1)), .int (nI n), .int 0]) (nn := 3) (E := RJ0) (by rw [wB_len, wB_len]) (sm_getBytes _ _ _ M _ _ _ _ _ hi hm hn) ((gS C).2.2.2.2.2.2.2.1 i hi).1 ⟨sw_1070, sw_1071, sw_1072, sw_12, sw_1073⟩ ⟨rfl, by decide +kernel, by decide +kernel, by decide +kernel⟩ ⟨Nat.le_of_ble_eq_true rfl, Nat.le_of_ble_eq_true rfl⟩ ⟨Nat.zero_le _, Nat.zero_le _⟩ rfl rfl (Nat.le_of_ble_eq_true rfl) dJ5_putStringAt_47b60_15 ?_
  exact g_vret C hr eQ dJ5_putStringAt_47b60_18
