set_option maxRecDepth 20000 in
set_option maxHeartbeats 2000000 in
theorem sm_chr0 (l : Launch) (D : va_G) (ad : Nat → Nat) (M : xM) (b : Nat) (Z : List va_E) (m : Nat) (g : Nat → Int32) (n : Nat) (hm : m ≤ 65536) (hn : n ≤ m) {j u : Nat} (hj : j < n) (hu : u < 128) (hg : g j = nI u) : gMet l yJ5_charAt_5068e cJ5_charAt_5068e 5 (some .char) 2 60 [.ref b, .int (nI j)] D ad M b (wB D.1 b Z m g n) (some (.int (nI u))) (wB D.1 b Z m g n) 0 0 := by
  refine gMet_of (own := RJ5) (by decide) rfl (Nat.le_of_ble_eq_true rfl) ?_
  intro x C e1 e2 e3 e4 hr eQ
  subst e1; subst e2; subst e3; subst e4
  refine k_sub (L := [(0, .ref (k_b x)), (1, .int (nI j))]) (L' := [(0, .ref (k_b x)), (1, .int (nI j))]) [0, 1] rfl ?_
  refine k_aload_n C.1 0 dJ5_charAt_5068e_0 rfl rfl ?_
  refine k_get C.1 (i := 0) wB_0 rfl hin_J4 1 (by decide) sw_956 rfl rfl rfl dJ5_charAt_5068e_1 ?_
  refine k_istore_n C.1 [(2, .int 0), (0, .ref (k_b x)), (1, .int (nI j))] dJ5_charAt_5068e_4 rfl (by decide) rfl ?_
  refine k_aload_n C.1 1 dJ5_charAt_5068e_5 rfl rfl ?_
  refine k_get C.1 (i := 0) wB_0 rfl hin_J4 0 (by decide) sw_955 rfl rfl rfl dJ5_charAt_5068e_6 ?_
  refine k_astore_n C.1 [(3, .ref (k_b x + (Z.length + 1))), (2, .int 0), (0, .ref (k_b x)), (1, .int (nI j))] dJ5_charAt_5068e_9 rfl (by decide) rfl ?_
  refine k_aload_n C.1 2 dJ5_charAt_5068e_10 rfl rfl ?_
  refine k_get C.1 (i := 0) wB_0 rfl hin_J4 3 (by decide) sw_957 rfl rfl rfl dJ5_charAt_5068e_11 ?_
  refine k_aload_n C.1 0 dJ5_charAt_5068e_14 rfl rfl ?_
  refine g_alen C wB_a rfl rfl dJ5_charAt_5068e_15 ?_
  refine k_iload_n C.1 1 dJ5_charAt_5068e_16 rfl rfl ?_
  refine k_ishr C.1 (v := nI m) dJ5_charAt_5068e_17 ((sb_shr0 _).symm) ?_
  refine k_mmin C.1 ⟨sw_1115, sw_583, sw_16, sw_584⟩ (Nat.le_of_ble_eq_true rfl) (Nat.le_of_ble_eq_true rfl) ⟨Nat.le_refl 0, Nat.le_refl 0⟩ (Nat.le_of_ble_eq_true rfl) (v := nI n) (if_neg (nI_nlt hn (by omega))) dJ5_charAt_5068e_18 ?_
  refine k_istore C.1 [(4, .int (nI n)), (3, .ref (k_b x + (Z.length + 1))), (2, .int 0), (0, .ref (k_b x)), (1, .int (nI j))] dJ5_charAt_5068e_21 (by decide) rfl ?_
  refine k_iload_n C.1 4 dJ5_charAt_5068e_23 rfl rfl ?_
  refine k_iload C.1 0 dJ5_charAt_5068e_24 rfl ?_
  refine g_callXS C (As := [.int (nI j), .int (nI n)]) (nn := 2) (rmy := rmJ 1 22) (js_check (l := _) (D := _) (tys := _) (ad := _) (sh := fun _ _ => .inr (0, [])) (K := 0) (M := fun _ _ => 0) (nI j) (nI n) (nI_pos (by omega)) (nI_lt hj (by omega))) ⟨sw_1116, sw_415, sw_12, sw_416⟩ ⟨by decide +kernel, by decide +kernel, by decide +kernel⟩ ⟨rfl, rfl, Nat.le_of_ble_eq_true rfl, Nat.le_of_ble_eq_true rfl⟩ ⟨Nat.le_refl 0, Nat.le_refl 0⟩ rfl rfl (Nat.le_of_ble_eq_true rfl) dJ5_charAt_5068e_26 ?_
  refine k_iload_n C.1 2 dJ5_charAt_5068e_29 rfl rfl ?_
  refine k_if_neF C.1 dJ5_charAt_5068e_30 (rfl) ⟨_, by first | exact (Int.toNat_of_nonneg (by decide)).symm⟩ ?_
  refine k_aload_n C.1 1 dJ5_charAt_5068e_33 rfl rfl ?_
  refine k_iload_n C.1 4 dJ5_charAt_5068e_34 rfl rfl ?_
  refine g_bald C wB_a (pk_in j _ (by omega) rfl (by omega)) (v := nI u) (by rw [nI_clamp (by omega)]; exact hg) rfl dJ5_charAt_5068e_35 ?_
  refine k_sipush (v := 255) C.1 dJ5_charAt_5068e_36 (by decide) ?_
  refine k_iand C.1 (v := nI u &&& 255) dJ5_charAt_5068e_39 (rfl) ?_
  refine k_i2c C.1 (v := nI u) dJ5_charAt_5068e_40 ((bV u hu).2.2.2.1) ?_
  exact g_nret C hr (bV u hu).2.2.2.2 eQ dJ5_charAt_5068e_41
