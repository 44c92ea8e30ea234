set_option maxRecDepth 20000 in
set_option maxHeartbeats 2000000 in
theorem sm_init0 (l : Launch) (D : va_G) (ad : Nat → Nat) (M : xM) (b : Nat) : gMet l yJ5_init_d00df cJ5_init_d00df 2 none 1 30 [.ref b, .int 16] D ad M b [.inr (0, [.null, .int 0, .int 0, .int 0])] none (wB D.1 b [] 16 (fun _ => 0) 0) 1 16 := by
  refine gMet_of (own := RJ5) (by decide) rfl (Nat.le_of_ble_eq_true rfl) ?_
  intro x C e1 e2 e3 e4 hr eQ
  subst e1; subst e2; subst e3; subst e4
  refine k_sub (L := [(0, .ref (k_b x)), (1, .int 16)]) (L' := [(0, .ref (k_b x)), (1, .int 16)]) [0, 1] rfl ?_
  refine k_aload_n C.1 0 dJ5_init_d00df_0 rfl rfl ?_
  refine k_obj C.1 ⟨sw_946, sw_34, sw_35⟩ dJ5_init_d00df_1 ⟨Nat.le_of_ble_eq_true rfl, Nat.le_of_ble_eq_true rfl⟩ (Nat.le_of_ble_eq_true rfl) ?_
  refine g_gets C (gS C).2.2.2.2.2.2.2.2.2.1 sw_947 rfl dJ5_init_d00df_4 ?_
  refine k_if_eqF C.1 dJ5_init_d00df_7 (by decide) ⟨_, by first | exact (Int.toNat_of_nonneg (by decide)).symm⟩ ?_
  refine k_aload_n C.1 0 dJ5_init_d00df_10 rfl rfl ?_
  refine k_iload_n C.1 1 dJ5_init_d00df_11 rfl rfl ?_
  refine g_newb C sw_967 (N := 16) (by decide) (by decide) (by decide) ⟨Nat.le_refl 1, Nat.le_refl 16⟩ dJ5_init_d00df_12 ?_
  refine k_nm (es2 := [.inr (0, [.null, .int 0, .int 0, .int 0]), .inl ((k_D x).1 106, 16, .inl (fun _ => 0))]) (st2 := [.ref (k_b x + 1), .ref (k_b x)]) (cs2 := 1) (ss2 := 16) rfl rfl rfl rfl ?_
  refine k_put C.1 (i := 0) tyJ4 tyJ4_ok nmJ4 rfl rfl hin_J4 0 (by decide) sw_955 rfl rfl (ht := rfl) rfl rfl (Nat.le_of_ble_eq_true rfl) rfl (es1 := [.inr (0, [.ref (k_b x + 1), .int 0, .int 0, .int 0]), .inl ((k_D x).1 106, 16, .inl (fun _ => 0))]) rfl dJ5_init_d00df_14 ?_
  refine k_aload_n C.1 0 dJ5_init_d00df_17 rfl rfl ?_
  refine k_iconst (v := 0) C.1 dJ5_init_d00df_18 rfl ?_
  refine k_put C.1 (i := 0) tyJ4 tyJ4_ok nmJ4 rfl rfl hin_J4 1 (by decide) sw_956 rfl rfl (ht := rfl) rfl rfl (Nat.le_of_ble_eq_true rfl) rfl (es1 := [.inr (0, [.ref (k_b x + 1), .int 0, .int 0, .int 0]), .inl ((k_D x).1 106, 16, .inl (fun _ => 0))]) rfl dJ5_init_d00df_19 ?_
  refine k_goto C.1 38 dJ5_init_d00df_22 (by decide) ?_
  exact g_vret C hr eQ dJ5_init_d00df_38
