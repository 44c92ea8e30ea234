set_option maxRecDepth 20000 in
set_option maxHeartbeats 2000000 in
theorem sm_canEncode (l : Launch) (D : va_G) (ad : Nat → Nat) (M : xM) (b : Nat) (es : List va_E) {v : Nat} (hv : v < 128) : gMet l yJ1_canEncode_fc78d cJ1_canEncode_fc78d 1 (some .boolean) 0 0 [.int (nI v)] D ad M b es (some (.int 1)) es 0 0 := by
  refine gMet_of (own := RJ1) (by decide) rfl (Nat.le_of_ble_eq_true rfl) ?_
  intro x C e1 e2 e3 e4 hr eQ
  subst e1; subst e2; subst e3; subst e4
  refine k_sub (L := [(0, .int (nI v))]) (L' := [(0, .int (nI v))]) [0] rfl ?_
  refine k_iload_n C.1 0 dJ1_canEncode_fc78d_0 rfl rfl ?_
  refine k_sipush (v := 255) C.1 dJ1_canEncode_fc78d_1 (by decide) ?_
  refine k_icmp_gt C.1 11 dJ1_canEncode_fc78d_4 (by decide) (fun z => absurd (show nI 255 < nI v from z) (nI_nlt (by omega) (by decide))) (fun _ => ?_)
  refine k_iconst (v := 1) C.1 dJ1_canEncode_fc78d_7 rfl ?_
  refine k_goto C.1 12 dJ1_canEncode_fc78d_8 (by decide) ?_
  exact g_nret C hr rfl eQ dJ1_canEncode_fc78d_12
