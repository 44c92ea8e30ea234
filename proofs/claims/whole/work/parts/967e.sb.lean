set_option maxRecDepth 20000 in
set_option maxHeartbeats 2000000 in
theorem sm_ensure (l : Launch) (D : va_G) (ad : Nat → Nat) (M : xM) (b : Nat) (Z : List va_E) (m : Nat) (g : Nat → Int32) (n : Nat) {q : Nat} (hm : m ≤ 65536) (hq : q ≤ 65536) (hc : sb_cap q m ≤ 65536) (hf : sb_Fit g) : gMet l yJ5_ensureCapacityInternal_d00df cJ5_ensureCapacityInternal_d00df 3 none 3 90 [.ref b, .int (nI q)] D ad M b (wB D.1 b Z m g n) none (wB D.1 b (eZ D.1 Z m g q) (sb_cap q m) (eG g m q) n) (eK q m) (eL q m) := by
  refine gMet_of (own := RJ5) (by decide) rfl (Nat.le_of_ble_eq_true rfl) ?_
  intro x C e1 e2 e3 e4 hr eQ
  subst e1; subst e2; subst e3; subst e4
  refine k_sub (L := [(0, .ref (k_b x)), (1, .int (nI q))]) (L' := [(0, .ref (k_b x)), (1, .int (nI q))]) [0, 1] rfl ?_
  refine k_aload_n C.1 0 dJ5_ensureCapacityInternal_d00df_0 rfl rfl ?_
  refine k_get C.1 (i := 0) wB_0 rfl hin_J4 0 (by decide) sw_955 rfl rfl rfl dJ5_ensureCapacityInternal_d00df_1 ?_
  refine g_alen C wB_a rfl rfl dJ5_ensureCapacityInternal_d00df_4 ?_
  refine k_aload_n C.1 0 dJ5_ensureCapacityInternal_d00df_5 rfl rfl ?_
  refine k_get C.1 (i := 0) wB_0 rfl hin_J4 1 (by decide) sw_956 rfl rfl rfl dJ5_ensureCapacityInternal_d00df_6 ?_
  refine k_ishr C.1 (v := nI m) dJ5_ensureCapacityInternal_d00df_9 ((sb_shr0 _).symm) ?_
  refine k_istore_n C.1 [(2, .int (nI m)), (0, .ref (k_b x)), (1, .int (nI q))] dJ5_ensureCapacityInternal_d00df_10 rfl (by decide) rfl ?_
  refine k_iload_n C.1 2 dJ5_ensureCapacityInternal_d00df_11 rfl rfl ?_
  refine k_iload_n C.1 0 dJ5_ensureCapacityInternal_d00df_12 rfl rfl ?_
  refine k_isub C.1 (v := nI q - nI m) dJ5_ensureCapacityInternal_d00df_13 (rfl) ?_
  refine k_if_le C.1 38 dJ5_ensureCapacityInternal_d00df_14 (by decide) (fun c => ?_) (fun c => ?_)
  · have h : q ≤ m := by
      rw [Int32.le_iff_toInt_le, pk_sub_toInt (by omega) (by omega), Int32.toInt_zero] at c; omega
    rw [eZ, eG, eK, eL, if_pos h, if_pos h, if_pos h, if_pos h, show sb_cap q m = m from if_pos h] at eQ
    exact g_vret C hr eQ dJ5_ensureCapacityInternal_d00df_38
  · have h : m < q := by
      rw [Int32.le_iff_toInt_le, pk_sub_toInt (by omega) (by omega), Int32.toInt_zero] at c; omega
    have hh : ¬ q ≤ m := by omega
    rw [eZ, eG, eK, eL, if_neg hh, if_neg hh, if_neg hh, if_neg hh] at eQ
    refine k_aload_n C.1 1 dJ5_ensureCapacityInternal_d00df_17 rfl rfl ?_
    refine k_aload_n C.1 1 dJ5_ensureCapacityInternal_d00df_18 rfl rfl ?_
    refine k_get C.1 (i := 0) wB_0 rfl hin_J4 0 (by decide) sw_955 rfl rfl rfl dJ5_ensureCapacityInternal_d00df_19 ?_
    refine k_aload_n C.1 1 dJ5_ensureCapacityInternal_d00df_22 rfl rfl ?_
    refine k_iload_n C.1 2 dJ5_ensureCapacityInternal_d00df_23 rfl rfl ?_
    refine g_callU C (i := 0) (As := [.int (nI q)]) (nn := 1) (rfl) (sm_newCap _ _ _ M _ _ _ _ _ h hc) wB_0 rfl ⟨sw_979, sw_1843, sw_981, sw_23, sw_982⟩ (C.2.2.2 _ (List.mem_of_getElem? (i := 1) rfl)) rfl ⟨by decide +kernel, by decide +kernel, by decide +kernel⟩ ⟨Nat.le_of_ble_eq_true rfl, Nat.le_of_ble_eq_true rfl⟩ ⟨Nat.zero_le _, Nat.zero_le _⟩ rfl rfl (Nat.le_of_ble_eq_true rfl) dJ5_ensureCapacityInternal_d00df_24 ?_
    refine k_aload_n C.1 1 dJ5_ensureCapacityInternal_d00df_27 rfl rfl ?_
    refine k_get C.1 (i := 0) wB_0 rfl hin_J4 1 (by decide) sw_956 rfl rfl rfl dJ5_ensureCapacityInternal_d00df_28 ?_
    refine k_ishl C.1 (v := nI (sb_cap q m)) dJ5_ensureCapacityInternal_d00df_31 ((sb_shl0 _).symm) ?_
    refine g_callS C (As := [.ref (k_b x + (Z.length + 1)), .int (nI (sb_cap q m))]) (nn := 2) (by rw [List.length_append]; rfl) (sm_copyOf _ _ _ M _ _ wB_a hf (by have := sb_cap_ge q m; omega) hc) ⟨sw_992, sw_993, sw_18, sw_994⟩ ⟨by decide +kernel, by decide +kernel, by decide +kernel⟩ ⟨Nat.le_of_ble_eq_true rfl, Nat.le_of_ble_eq_true rfl⟩ ⟨by rw [eK, if_neg (by omega)]; exact Nat.le_refl 1, by show 0 + 0 + sb_cap q m ≤ eL q m; rw [eL, if_neg (by omega)]; omega⟩ rfl rfl (Nat.le_of_ble_eq_true rfl) dJ5_ensureCapacityInternal_d00df_32 ?_
    refine k_put C.1 (i := 0) tyJ4 tyJ4_ok nmJ4 (wB_0x _) rfl hin_J4 0 (by decide) sw_955 rfl rfl (ht := rfl) rfl rfl (Nat.le_of_ble_eq_true rfl) rfl (es1 := wB (k_D x).1 (k_b x) (Z ++ [.inl ((k_D x).1 106, m, .inl g)]) (sb_cap q m) (va_cpy g (fun _ => 0) 0 0 m) n) wB_grow dJ5_ensureCapacityInternal_d00df_35 ?_
    refine k_nm (cs2 := 1) (ss2 := sb_cap q m) rfl rfl rfl (by omega) ?_
    exact g_vret C hr eQ dJ5_ensureCapacityInternal_d00df_38
