set_option maxRecDepth 20000 in
set_option maxHeartbeats 4000000 in
theorem rt_line {x : kC} {M : xM} {R : Nat → Nat} (C : CtG M x RX1 cX1_rulesAsText 3 { frames := 6, cells := k1 (bAll (k_D x).1 R 7), slots := k2 (bAll (k_D x).1 R 7), locals := 180 }) (hR : ∀ k, k < 7 → M 18 k = nI (R k) ∧ R k < 10000) {k : Nat} (hk : k < 7)
    (iE : bOk (11 * k + 1) (bSep (k_D x).1 k (bAll (k_D x).1 R k))) (iS : bOk (11 * k + 1 + 5) (bS (k_D x).1 k (bSep (k_D x).1 k (bAll (k_D x).1 R k)))) (iP : bOk (11 * k + 1 + 5 + 1) (bC (k_D x).1 32 (bS (k_D x).1 k (bSep (k_D x).1 k (bAll (k_D x).1 R k))))) (bI9 : le2 (bAll (k_D x).1 R (k + 1)) (bAll (k_D x).1 R 7)) (bP9 : le2 (bC (k_D x).1 32 (bS (k_D x).1 k (bSep (k_D x).1 k (bAll (k_D x).1 R k)))) (bAll (k_D x).1 R 7)) (bS9 : le2 (bS (k_D x).1 k (bSep (k_D x).1 k (bAll (k_D x).1 R k))) (bAll (k_D x).1 R 7)) (bE9 : le2 (bSep (k_D x).1 k (bAll (k_D x).1 R k)) (bAll (k_D x).1 R 7))
    (kk : JK x (k1 (bAll (k_D x).1 R (k + 1))) (k2 (bAll (k_D x).1 R (k + 1))) (bWd (k_D x).1 (k_b x) (bAll (k_D x).1 R (k + 1))) 10 [(2, .int (nI (k + 1))), (1, .ref (k_b x)), (0, .ref (k_ad x 17))] []) :
    JK x (k1 (bSep (k_D x).1 k (bAll (k_D x).1 R k))) (k2 (bSep (k_D x).1 k (bAll (k_D x).1 R k))) (bWd (k_D x).1 (k_b x) (bSep (k_D x).1 k (bAll (k_D x).1 R k))) 29 [(2, .int (nI k)), (1, .ref (k_b x)), (0, .ref (k_ad x 17))] [] := by
  refine k_aload_n C.1 1 dX1_rulesAsText_29 rfl rfl ?_
  refine k_getsN C.1 (host := RX10) ((gS C).2.2.2.1.1) (by decide) rfl dX1_rulesAsText_30 ?_
  refine k_iload_n C.1 0 dX1_rulesAsText_33 rfl rfl ?_
  refine k_tq C.1 (gS C).2.2.2.1.2 (pk_in k 7 hk rfl (by decide)) (v := .ref (k_ad x (1010 + k))) (by rw [nI_clamp (by omega)]) dX1_rulesAsText_34 ?_
  refine k_getX C.1 (N := 7) (i := k) (v := fun j => .ref (k_ad x (1020 + j))) (ad := fun j => k_ad x (1010 + j)) (gS C).2.2.2.2.2.2.2.2.1 hk sw_1876 rfl dX1_rulesAsText_35 ?_
  refine g_callV C (i := 0) (As := [.ref (k_ad x (1020 + k))]) (nn := 1) (len_S) (sm_S _ _ _ M _ _ _ _ _ (i := k) (by omega) (Nat.le_trans iE.2.2.1 (by decide)) iE.2.1 (iE.cap (by have := iE.1; have := (sLen_ok k (by omega)).1; omega)) iE.2.2.2.1) wB_0 rfl ⟨sw_1037, sw_1038, sw_1039, sw_24, sw_1040⟩ ⟨rfl, by decide +kernel, by decide +kernel, by decide +kernel⟩ ⟨Nat.le_of_ble_eq_true rfl, Nat.le_of_ble_eq_true rfl⟩ ⟨by rw [← len_k1S]; exact bS9.1, by rw [← len_k2S]; exact bS9.2⟩ rfl rfl (Nat.le_of_ble_eq_true rfl) dX1_rulesAsText_38 ?_
  refine k_nm (es2 := (bWd (k_D x).1 (k_b x) (bS (k_D x).1 k (bSep (k_D x).1 k (bAll (k_D x).1 R k))))) (cs2 := k1 (bS (k_D x).1 k (bSep (k_D x).1 k (bAll (k_D x).1 R k)))) (ss2 := k2 (bS (k_D x).1 k (bSep (k_D x).1 k (bAll (k_D x).1 R k)))) rfl rfl (len_k1S.symm) (len_k2S.symm) ?_
  refine k_bipush (v := 32) C.1 dX1_rulesAsText_41 (by decide) ?_
  refine g_callV C (i := 0) (As := [.int 32]) (nn := 1) (len_C) (sm_C _ _ _ M _ _ _ _ _ (v := 32) (by decide) (Nat.le_trans (iS).2.2.1 (by decide)) (iS).2.1 ((iS).cap (by have := (iS).1; omega)) (iS).2.2.2.1) wB_0 rfl ⟨sw_968, sw_969, sw_970, sw_24, sw_971⟩ ⟨rfl, by decide +kernel, by decide +kernel, by decide +kernel⟩ ⟨Nat.le_of_ble_eq_true rfl, Nat.le_of_ble_eq_true rfl⟩ ⟨by rw [← len_k1C]; exact (bP9).1, by rw [← len_k2C]; exact (bP9).2⟩ rfl rfl (Nat.le_of_ble_eq_true rfl) dX1_rulesAsText_43 ?_
  refine k_nm (es2 := (bWd (k_D x).1 (k_b x) (bC (k_D x).1 32 (bS (k_D x).1 k (bSep (k_D x).1 k (bAll (k_D x).1 R k)))))) (cs2 := k1 (bC (k_D x).1 32 (bS (k_D x).1 k (bSep (k_D x).1 k (bAll (k_D x).1 R k))))) (ss2 := k2 (bC (k_D x).1 32 (bS (k_D x).1 k (bSep (k_D x).1 k (bAll (k_D x).1 R k))))) rfl rfl (len_k1C.symm) (len_k2C.symm) ?_
  refine k_aload_n C.1 2 dX1_rulesAsText_46 rfl rfl ?_
  refine g_getO C (gF C).2.2.2.2.1 sw_208 rfl dX1_rulesAsText_47 ?_
  refine k_iload_n C.1 0 dX1_rulesAsText_50 rfl rfl ?_
  refine g_ti C (gF C).2.2.2.2.2 (pk_in k 7 hk rfl (by decide)) (v := .int (nI (R k))) (by rw [nI_clamp (by omega), (hR k hk).1]) dX1_rulesAsText_51 ?_
  refine g_callV C (i := 0) (As := [.int (nI (R k))]) (nn := 1) (len_I) (sm_I _ _ _ M _ _ _ _ _ (v := R k) (hR k hk).2 (Nat.le_trans iP.2.2.1 (by decide)) iP.2.1 (iP.cap (by have := iP.1; have := dg4 (hR k hk).2; omega)) iP.2.2.2.1) wB_0 rfl ⟨sw_1076, sw_1077, sw_1078, sw_24, sw_1079⟩ ⟨rfl, by decide +kernel, by decide +kernel, by decide +kernel⟩ ⟨Nat.le_of_ble_eq_true rfl, Nat.le_of_ble_eq_true rfl⟩ ⟨by rw [← len_k1I]; exact bI9.1, by rw [← len_k2I]; exact bI9.2⟩ rfl rfl (Nat.le_of_ble_eq_true rfl) dX1_rulesAsText_52 ?_
  refine k_nm (es2 := (bWd (k_D x).1 (k_b x) (bI (k_D x).1 (R k) (bC (k_D x).1 32 (bS (k_D x).1 k (bSep (k_D x).1 k (bAll (k_D x).1 R k))))))) (cs2 := k1 (bI (k_D x).1 (R k) (bC (k_D x).1 32 (bS (k_D x).1 k (bSep (k_D x).1 k (bAll (k_D x).1 R k)))))) (ss2 := k2 (bI (k_D x).1 (R k) (bC (k_D x).1 32 (bS (k_D x).1 k (bSep (k_D x).1 k (bAll (k_D x).1 R k)))))) rfl rfl (len_k1I.symm) (len_k2I.symm) ?_
  refine k_pop C.1 rfl dX1_rulesAsText_55 ?_
  refine k_iinc C.1 0 [(2, .int (nI (k + 1))), (1, .ref (k_b x)), (0, .ref (k_ad x 17))] dX1_rulesAsText_56 rfl (nI_1 k) (by decide) rfl ?_
  refine k_goto C.1 10 dX1_rulesAsText_59 (by decide) ?_
  exact kk
