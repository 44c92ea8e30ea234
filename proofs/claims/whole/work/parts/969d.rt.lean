set_option maxRecDepth 20000 in
set_option maxHeartbeats 4000000 in
theorem sm_written (l : Launch) (D : va_G) (ad : Nat → Nat) (M : xM) (b : Nat) {R : Nat → Nat} (hR : ∀ k, k < 7 → M 18 k = nI (R k) ∧ R k < 10000) (a : Int32) {T : Nat → Nat} (hT : ∀ j, j < (bAll D.1 R 7).2.2.2 → (bAll D.1 R 7).2.2.1 j = nI (T j) ∧ T j < 128) {r : Int32}
    (h1 : a = -1 → r = nI (bAll D.1 R 7).2.2.2) (h2 : ¬ a = -1 → (a < 0 ∨ nI (bAll D.1 R 7).2.2.2 ≤ a) → r = -1) (h3 : ∀ j, j < (bAll D.1 R 7).2.2.2 → a = nI j → r = nI (T j)) :
    gMet l yX10_written cX10_written 3 (some .int) 7 210 [.ref (ad 0), .int a] D ad M b [] (some (.int r)) (bWd D.1 b (bAll D.1 R 7)) (k1 (bAll D.1 R 7)) (k2 (bAll D.1 R 7)) := by
  refine gMet_of (own := RX10) (by decide) rfl (Nat.le_of_ble_eq_true rfl) ?_
  intro x C e1 e2 e3 e4 hr eQ
  subst e1; subst e2; subst e3; subst e4
  have iA := bAll_ok (k_D x).1 R (fun k hk => (hR k hk).2) 7 (by decide)
  have nA : (bAll (k_D x).1 R 7).2.2.2 ≤ 77 := iA.1
  refine k_sub (L := [(0, .ref (k_ad x 0)), (1, .int a)]) (L' := [(0, .ref (k_ad x 0)), (1, .int a)]) [0, 1] rfl ?_
  refine k_aload_n C.1 0 dX10_written_0 rfl rfl ?_
  refine g_getO C (gF C).2.2.2.1 sw_316 rfl dX10_written_1 ?_
  refine g_callO C (As := []) (nn := 0) (E := RX1) (by rw [bWd, wB_len]; exact (Nat.zero_add _).symm) (sm_rules _ _ _ M _ hR) (gF C).2.2.1 ⟨sw_934, sw_935, sw_936, sw_4, sw_937⟩ ⟨rfl, by decide +kernel, by decide +kernel, by decide +kernel⟩ ⟨Nat.le_of_ble_eq_true rfl, Nat.le_of_ble_eq_true rfl⟩ ⟨by show _ ≤ k1 (bAll (k_D x).1 R 7); omega, by show _ ≤ k2 (bAll (k_D x).1 R 7); omega⟩ rfl rfl (Nat.le_of_ble_eq_true rfl) dX10_written_4 ?_
  refine k_nm (es2 := (bWd (k_D x).1 (k_b x) (bAll (k_D x).1 R 7))) (cs2 := k1 (bAll (k_D x).1 R 7)) (ss2 := k2 (bAll (k_D x).1 R 7)) rfl rfl (Nat.zero_add _) (Nat.zero_add _) ?_
  refine k_astore_n C.1 [(2, .ref (k_b x)), (0, .ref (k_ad x 0)), (1, .int a)] dX10_written_7 rfl (by decide) rfl ?_
  refine k_iload_n C.1 2 dX10_written_8 rfl rfl ?_
  refine k_iconst (v := -1) C.1 dX10_written_9 rfl ?_
  refine k_icmp_ne C.1 18 dX10_written_10 (by decide) (fun c => ?_) (fun c => ?_)
  · have c : ¬ a = -1 := c
    refine k_iload_n C.1 2 dX10_written_18 rfl rfl ?_
    refine k_if_lt C.1 30 dX10_written_19 (by decide) (fun c2 => ?_) (fun c2 => ?_)
    · rw [h2 c (Or.inl c2)] at eQ
      refine k_iconst (v := -1) C.1 dX10_written_30 rfl ?_
      refine k_goto C.1 39 dX10_written_31 (by decide) ?_
      exact g_nret C hr rfl eQ dX10_written_39
    · refine k_iload_n C.1 2 dX10_written_22 rfl rfl ?_
      refine k_aload_n C.1 0 dX10_written_23 rfl rfl ?_
      refine g_callV C (i := 0) (As := []) (nn := 0) (rfl) (sm_len _ _ _ M _ _ _ _ _) wB_0 rfl ⟨sw_1101, sw_1102, sw_1103, sw_24, sw_1104⟩ ⟨rfl, by decide +kernel, by decide +kernel, by decide +kernel⟩ ⟨Nat.le_of_ble_eq_true rfl, Nat.le_of_ble_eq_true rfl⟩ ⟨by show _ ≤ k1 (bAll (k_D x).1 R 7); omega, by show _ ≤ k2 (bAll (k_D x).1 R 7); omega⟩ rfl rfl (Nat.le_of_ble_eq_true rfl) dX10_written_24 ?_
      refine k_icmp_lt C.1 34 dX10_written_27 (by decide) (fun c3 => ?_) (fun c3 => ?_)
      · obtain ⟨j, hj, rfl⟩ := nI_of c2
        have hjn : j < (bAll (k_D x).1 R 7).2.2.2 := (nI_ltI hj (by omega)).mp c3
        obtain ⟨hg, hu⟩ := hT j hjn
        have e3 := h3 j hjn rfl
        generalize hu9 : T j = u at hg hu e3
        subst e3
        have h3 := hjn
        refine k_aload_n C.1 0 dX10_written_34 rfl rfl ?_
        refine k_iload_n C.1 2 dX10_written_35 rfl rfl ?_
        refine g_callV C (i := 0) (As := [.int (nI j)]) (nn := 1) (rfl) (sm_chr _ _ _ M _ _ _ _ _ (Nat.le_trans iA.2.2.1 (by decide)) iA.2.1 h3 hu hg) wB_0 rfl ⟨sw_1108, sw_1109, sw_1110, sw_24, sw_1111⟩ ⟨rfl, by decide +kernel, by decide +kernel, by decide +kernel⟩ ⟨Nat.le_of_ble_eq_true rfl, Nat.le_of_ble_eq_true rfl⟩ ⟨by show _ ≤ k1 (bAll (k_D x).1 R 7); omega, by show _ ≤ k2 (bAll (k_D x).1 R 7); omega⟩ rfl rfl (Nat.le_of_ble_eq_true rfl) dX10_written_36 ?_
        exact g_nret C hr rfl eQ dX10_written_39
      · rw [h2 c (Or.inr (Int32.not_lt.mp c3))] at eQ
        refine k_iconst (v := -1) C.1 dX10_written_30 rfl ?_
        refine k_goto C.1 39 dX10_written_31 (by decide) ?_
        exact g_nret C hr rfl eQ dX10_written_39
  · rw [h1 c] at eQ
    refine k_aload_n C.1 0 dX10_written_13 rfl rfl ?_
    refine g_callV C (i := 0) (As := []) (nn := 0) (rfl) (sm_len _ _ _ M _ _ _ _ _) wB_0 rfl ⟨sw_1101, sw_1102, sw_1103, sw_24, sw_1104⟩ ⟨rfl, by decide +kernel, by decide +kernel, by decide +kernel⟩ ⟨Nat.le_of_ble_eq_true rfl, Nat.le_of_ble_eq_true rfl⟩ ⟨by show _ ≤ k1 (bAll (k_D x).1 R 7); omega, by show _ ≤ k2 (bAll (k_D x).1 R 7); omega⟩ rfl rfl (Nat.le_of_ble_eq_true rfl) dX10_written_14 ?_
    exact g_nret C hr rfl eQ dX10_written_17
