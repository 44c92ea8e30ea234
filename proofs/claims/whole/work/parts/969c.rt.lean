set_option maxRecDepth 20000 in
set_option maxHeartbeats 4000000 in
theorem sm_rules (l : Launch) (D : va_G) (ad : Nat → Nat) (M : xM) (b : Nat) {R : Nat → Nat} (hR : ∀ k, k < 7 → M 18 k = nI (R k) ∧ R k < 10000) : gMet l yX1_rulesAsText cX1_rulesAsText 3 (some (.object RJ4)) 6 180 [.ref (ad 17)] D ad M b [] (some (.ref b)) (bWd D.1 b (bAll D.1 R 7)) (k1 (bAll D.1 R 7)) (k2 (bAll D.1 R 7)) := by
  refine gMet_of (own := RX1) (by decide) rfl (Nat.le_of_ble_eq_true rfl) ?_
  intro x C e1 e2 e3 e4 hr eQ
  subst e1; subst e2; subst e3; subst e4
  refine k_sub (L := [(0, .ref (k_ad x 17))]) (L' := [(0, .ref (k_ad x 17))]) [0] rfl ?_
  refine k_new C.1 (ci := 0) (fs := [.null, .int 0, .int 0, .int 0]) tyJ4 tyJ4_ok hin_J4 ⟨sw_938, sw_939, sw_24⟩ rfl (by decide) ⟨by show 0 + 1 ≤ k1 _; exact k1_1 _, by show 0 + 4 ≤ k2 _; exact k2_4 _⟩ dX1_rulesAsText_0 ?_
  refine k_nm (es2 := [.inr (0, [.null, .int 0, .int 0, .int 0])]) (st2 := [.ref (k_b x)]) (cs2 := 1) (ss2 := 4) rfl rfl rfl rfl ?_
  refine k_dup C.1 dX1_rulesAsText_3 ?_
  refine g_callI C (i := 0) (As := []) (nn := 0) (rfl) (sm_init _ _ _ M _) ⟨sw_940, sw_941, sw_24, sw_942⟩ rfl ⟨by decide +kernel, by decide +kernel, by decide +kernel⟩ ⟨Nat.le_of_ble_eq_true rfl, Nat.le_of_ble_eq_true rfl⟩ ⟨by show 1 + 1 ≤ k1 _; exact (bAll_mono (k_D x).1 R (a := 0) (b := 7) (by decide)).1, by show 4 + 16 ≤ k2 _; exact (bAll_mono (k_D x).1 R (a := 0) (b := 7) (by decide)).2⟩ rfl rfl (Nat.le_of_ble_eq_true rfl) dX1_rulesAsText_4 ?_
  refine k_astore_n C.1 [(1, .ref (k_b x)), (0, .ref (k_ad x 17))] dX1_rulesAsText_7 rfl (by decide) rfl ?_
  refine k_iconst (v := 0) C.1 dX1_rulesAsText_8 rfl ?_
  refine k_istore_n C.1 [(2, .int 0), (1, .ref (k_b x)), (0, .ref (k_ad x 17))] dX1_rulesAsText_9 rfl (by decide) rfl ?_
  refine k_nm (es2 := bWd (k_D x).1 (k_b x) (bAll (k_D x).1 R 0)) (cs2 := k1 (bAll (k_D x).1 R 0)) (ss2 := k2 (bAll (k_D x).1 R 0)) rfl rfl rfl rfl ?_
  exact rt_loop C hR hr eQ 7 0 rfl
