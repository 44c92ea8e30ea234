set_option maxRecDepth 20000 in
set_option maxHeartbeats 2000000 in
theorem sm_chr (l : Launch) (D : va_G) (ad : Nat → Nat) (M : xM) (b : Nat) (Z : List va_E) (m : Nat) (g : Nat → Int32) (n : Nat) (hm : m ≤ 65536) (hn : n ≤ m) {j u : Nat} (hj : j < n) (hu : u < 128) (hg : g j = nI u) : gMet l yJ4_charAt_5068e cJ4_charAt_5068e 2 (some .char) 3 90 [.ref b, .int (nI j)] D ad M b (wB D.1 b Z m g n) (some (.int (nI u))) (wB D.1 b Z m g n) 0 0 := by
  refine gMet_of (own := RJ4) (by decide) rfl (Nat.le_of_ble_eq_true rfl) ?_
  intro x C e1 e2 e3 e4 hr eQ
  subst e1; subst e2; subst e3; subst e4
  refine k_sub (L := [(0, .ref (k_b x)), (1, .int (nI j))]) (L' := [(0, .ref (k_b x)), (1, .int (nI j))]) [0, 1] rfl ?_
  refine k_aload_n C.1 0 dJ4_charAt_5068e_0 rfl rfl ?_
  refine k_iload_n C.1 1 dJ4_charAt_5068e_1 rfl rfl ?_
  refine g_callSU C (i := 0) (As := [.int (nI j)]) (nn := 1) (rfl) (sm_chr0 _ _ _ M _ _ _ _ _ hm hn hj hu hg) wB_0 rfl rfl ⟨sw_1112, sw_1851, sw_966, sw_1113, sw_23, sw_1114⟩ ⟨by decide +kernel, by decide +kernel⟩ ⟨Nat.le_of_ble_eq_true rfl, Nat.le_of_ble_eq_true rfl⟩ ⟨Nat.zero_le _, Nat.zero_le _⟩ rfl rfl (Nat.le_of_ble_eq_true rfl) dJ4_charAt_5068e_2 ?_
  exact g_nret C hr (bV u hu).2.2.2.2 eQ dJ4_charAt_5068e_5
