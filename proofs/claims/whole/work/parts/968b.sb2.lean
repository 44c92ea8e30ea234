set_option maxRecDepth 20000 in
theorem sm_size (l : Launch) (D : va_G) (ad : Nat → Nat) (M : xM) (b : Nat) (es : List va_E) {v : Nat} (hv : v < 10000) : gMet l yJ6_stringSize_0f7a4 cJ6_stringSize_0f7a4 4 (some .int) 0 0 [.int (nI v)] D ad M b es (some (.int (nI (sb_dg v)))) es 0 0 := by
  refine gMet_of (own := RJ6) (by decide) rfl (Nat.le_of_ble_eq_true rfl) ?_
  intro x C e1 e2 e3 e4 hr eQ
  subst e1; subst e2; subst e3; subst e4
  refine k_sub (L := [(0, .int (nI v))]) (L' := [(0, .int (nI v))]) [0] rfl ?_
  refine k_iconst (v := 1) C.1 dJ6_stringSize_0f7a4_0 rfl ?_
  refine k_istore_n C.1 [(1, .int 1), (0, .int (nI v))] dJ6_stringSize_0f7a4_1 rfl (by decide) rfl ?_
  refine k_iload_n C.1 1 dJ6_stringSize_0f7a4_2 rfl rfl ?_
  refine k_if_lt C.1 11 dJ6_stringSize_0f7a4_3 (by decide) (fun c => absurd c (nI_pos (by omega))) (fun _ => ?_)
  refine k_iconst (v := 0) C.1 dJ6_stringSize_0f7a4_6 rfl ?_
  refine k_istore_n C.1 [(1, .int 0), (0, .int (nI v))] dJ6_stringSize_0f7a4_7 rfl (by decide) rfl ?_
  refine k_iload_n C.1 1 dJ6_stringSize_0f7a4_8 rfl rfl ?_
  refine k_ineg C.1 (v := -nI v) dJ6_stringSize_0f7a4_9 (rfl) ?_
  refine k_istore_n C.1 [(0, .int (-nI v)), (1, .int 0)] dJ6_stringSize_0f7a4_10 rfl (by decide) rfl ?_
  refine k_bipush (v := -nI 10) C.1 dJ6_stringSize_0f7a4_11 (by decide) ?_
  refine k_istore_n C.1 [(2, .int (-nI 10)), (0, .int (-nI v)), (1, .int 0)] dJ6_stringSize_0f7a4_13 rfl (by decide) rfl ?_
  refine k_iconst (v := 1) C.1 dJ6_stringSize_0f7a4_14 rfl ?_
  refine k_istore_n C.1 [(3, .int 1), (2, .int (-nI 10)), (0, .int (-nI v)), (1, .int 0)] dJ6_stringSize_0f7a4_15 rfl (by decide) rfl ?_
  refine k_sub (L' := [(3, .int (nI 1)), (2, .int (-nI 10)), (0, .int (-nI v)), (1, .int 0)]) [0, 1, 2, 3] rfl ?_
  refine sz_step C 1 10 v (by decide) (by decide) (by omega) (fun h => ?_) (fun h1 => ?_)
  · rw [show sb_dg v = 1 by rw [sb_dg, if_pos h]] at eQ
    exact g_nret C hr rfl eQ dJ6_stringSize_0f7a4_30
  refine sz_step C 2 100 v (by decide) (by decide) (by omega) (fun h => ?_) (fun h2 => ?_)
  · rw [show sb_dg v = 2 by rw [sb_dg, if_neg (by omega), if_pos h]] at eQ
    exact g_nret C hr rfl eQ dJ6_stringSize_0f7a4_30
  refine sz_step C 3 1000 v (by decide) (by decide) (by omega) (fun h => ?_) (fun h3 => ?_)
  · rw [show sb_dg v = 3 by rw [sb_dg, if_neg (by omega), if_neg (by omega), if_pos h]] at eQ
    exact g_nret C hr rfl eQ dJ6_stringSize_0f7a4_30
  refine sz_step C 4 10000 v (by decide) (by decide) (by omega) (fun h => ?_) (fun h4 => absurd h4 (by omega))
  rw [show sb_dg v = 4 by rw [sb_dg, if_neg (by omega), if_neg (by omega), if_neg (by omega), if_pos h]] at eQ
  exact g_nret C hr rfl eQ dJ6_stringSize_0f7a4_30
