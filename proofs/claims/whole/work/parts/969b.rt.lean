set_option maxRecDepth 20000 in
set_option maxHeartbeats 4000000 in
theorem rt_loop {x : kC} {M : xM} {R : Nat → Nat} (C : CtG M x RX1 cX1_rulesAsText 3 { frames := 6, cells := k1 (bAll (k_D x).1 R 7), slots := k2 (bAll (k_D x).1 R 7), locals := 180 }) (hR : ∀ k, k < 7 → M 18 k = nI (R k) ∧ R k < 10000) (hr : (k_me x).sig.returnType = some (.object RJ4))
    (eQ : k_Q x = MQ (k_be x) (gQ (k_D x) (k_b x) (some (.ref (k_b x))) (bWd (k_D x).1 (k_b x) (bAll (k_D x).1 R 7))) (k_a x) (k_s x) (k1 (bAll (k_D x).1 R 7)) (k2 (bAll (k_D x).1 R 7)) (k_A x)) :
    ∀ r k : Nat, r + k = 7 → JK x (k1 (bAll (k_D x).1 R k)) (k2 (bAll (k_D x).1 R k)) (bWd (k_D x).1 (k_b x) (bAll (k_D x).1 R k)) 10 [(2, .int (nI k)), (1, .ref (k_b x)), (0, .ref (k_ad x 17))] [] := by
  intro r
  induction r with
  | zero =>
    intro k e
    obtain rfl : k = 7 := by omega
    refine k_iload_n C.1 0 dX1_rulesAsText_10 rfl rfl ?_
    refine k_getsN C.1 (host := RX10) ((gS C).2.2.2.1.1) (by decide) rfl dX1_rulesAsText_11 ?_
    refine k_tlen C.1 (gS C).2.2.2.1.2 (v := nI 7) rfl dX1_rulesAsText_14 ?_
    refine k_icmp_ge C.1 62 dX1_rulesAsText_15 (by decide) (fun _ => ?_) (fun c => absurd (nI_le (Nat.le_refl 7) (by decide)) c)
    refine k_aload_n C.1 1 dX1_rulesAsText_62 rfl rfl ?_
    exact g_aret C hr (Or.inl ⟨_, rfl⟩) eQ dX1_rulesAsText_63
  | succ r ih =>
    intro k e
    have hk : k < 7 := by omega
    have iK := bAll_ok (k_D x).1 R (fun k hk => (hR k hk).2) k (by omega)
    have iE := bSep_ok (k_D x).1 k iK
    have iS := bS_ok (k_D x).1 k (by omega) iE
    have iP := bC_ok (k_D x).1 32 (by decide) iS
    have bI9 := bAll_mono (k_D x).1 R (a := k + 1) (b := 7) (by omega)
    have bP9 := le2_trans (bI_le (k_D x).1 (R k) (bC (k_D x).1 32 (bS (k_D x).1 k (bSep (k_D x).1 k (bAll (k_D x).1 R k))))) bI9
    have bS9 := le2_trans (bC_le (k_D x).1 32 (bS (k_D x).1 k (bSep (k_D x).1 k (bAll (k_D x).1 R k)))) bP9
    have bE9 := le2_trans (bS_le (k_D x).1 k (bSep (k_D x).1 k (bAll (k_D x).1 R k))) bS9
    refine k_iload_n C.1 0 dX1_rulesAsText_10 rfl rfl ?_
    refine k_getsN C.1 (host := RX10) ((gS C).2.2.2.1.1) (by decide) rfl dX1_rulesAsText_11 ?_
    refine k_tlen C.1 (gS C).2.2.2.1.2 (v := nI 7) rfl dX1_rulesAsText_14 ?_
    refine k_icmp_ge C.1 62 dX1_rulesAsText_15 (by decide) (fun c => absurd c (nI_ge (by omega) (by decide))) (fun _ => ?_)
    refine k_iload_n C.1 0 dX1_rulesAsText_18 rfl rfl ?_
    refine k_if_le C.1 29 dX1_rulesAsText_19 (by decide) (fun c => ?_) (fun c => ?_)
    rotate_left
    · have h0 : ¬ k = 0 := fun z => by subst z; exact c (by decide)
      have eS : bSep (k_D x).1 k (bAll (k_D x).1 R k) = bC (k_D x).1 59 (bAll (k_D x).1 R k) := if_neg h0
      have bE59 : le2 (bC (k_D x).1 59 (bAll (k_D x).1 R k)) (bAll (k_D x).1 R 7) := by rw [← eS]; exact bE9
      refine k_aload_n C.1 1 dX1_rulesAsText_22 rfl rfl ?_
      refine k_bipush (v := 59) C.1 dX1_rulesAsText_23 (by decide) ?_
      refine g_callV C (i := 0) (As := [.int 59]) (nn := 1) (len_C) (sm_C _ _ _ M _ _ _ _ _ (v := 59) (by decide) (Nat.le_trans (iK).2.2.1 (by decide)) (iK).2.1 ((iK).cap (by have := (iK).1; omega)) (iK).2.2.2.1) wB_0 rfl ⟨sw_968, sw_969, sw_970, sw_24, sw_971⟩ ⟨rfl, by decide +kernel, by decide +kernel, by decide +kernel⟩ ⟨Nat.le_of_ble_eq_true rfl, Nat.le_of_ble_eq_true rfl⟩ ⟨by rw [← len_k1C]; exact (bE59).1, by rw [← len_k2C]; exact (bE59).2⟩ rfl rfl (Nat.le_of_ble_eq_true rfl) dX1_rulesAsText_25 ?_
      refine k_nm (es2 := (bWd (k_D x).1 (k_b x) (bC (k_D x).1 59 (bAll (k_D x).1 R k)))) (cs2 := k1 (bC (k_D x).1 59 (bAll (k_D x).1 R k))) (ss2 := k2 (bC (k_D x).1 59 (bAll (k_D x).1 R k))) rfl rfl (len_k1C.symm) (len_k2C.symm) ?_
      refine k_pop C.1 rfl dX1_rulesAsText_28 ?_
      rw [← eS]
      exact rt_line C hR hk iE iS iP bI9 bP9 bS9 bE9 (ih (k + 1) (by omega))
    · have h0 : k = 0 := by
        by_cases z : k = 0
        · exact z
        · exact absurd c (nI_nle (by omega) (by omega))
      have eS : bSep (k_D x).1 k (bAll (k_D x).1 R k) = bAll (k_D x).1 R k := if_pos h0
      rw [← eS]
      exact rt_line C hR hk iE iS iP bI9 bP9 bS9 bE9 (ih (k + 1) (by omega))
