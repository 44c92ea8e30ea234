set_option maxRecDepth 20000 in
set_option maxHeartbeats 2000000 in
theorem sm_copyOf (l : Launch) (D : va_G) (ad : Nat → Nat) (M : xM) (b : Nat) (es : List va_E) {i m q : Nat} {g : Nat → Int32} (he : es[i]? = some (.inl (D.1 106, m, .inl g))) (hf : sb_Fit g) (h : m < q) (hq : q ≤ 65536) : gMet l yJ7_copyOf_9075b cJ7_copyOf_9075b 3 (some (.array .byte)) 1 30 [.ref (b + i), .int (nI q)] D ad M b es (some (.ref (b + es.length))) (es ++ [.inl (D.1 106, q, .inl (va_cpy g (fun _ => 0) 0 0 m))]) 1 q := by
  refine gMet_of (own := RJ7) (by decide) rfl (Nat.le_of_ble_eq_true rfl) ?_
  intro x C e1 e2 e3 e4 hr eQ
  subst e1; subst e2; subst e3; subst e4
  refine k_sub (L := [(0, .ref (k_b x + i)), (1, .int (nI q))]) (L' := [(0, .ref (k_b x + i)), (1, .int (nI q))]) [0, 1] rfl ?_
  refine k_iload_n C.1 1 dJ7_copyOf_9075b_0 rfl rfl ?_
  refine k_aload_n C.1 0 dJ7_copyOf_9075b_1 rfl rfl ?_
  refine g_alen C he rfl rfl dJ7_copyOf_9075b_2 ?_
  refine k_icmp_ne C.1 14 dJ7_copyOf_9075b_3 (by decide) (fun _ => ?_) (fun z => absurd ((nI_eq (by omega) (by omega)).mp z) (by omega))
  refine k_iload_n C.1 1 dJ7_copyOf_9075b_14 rfl rfl ?_
  refine g_newb C sw_967 (N := q) (nI_pos (by omega)) (nI_clamp (by omega)) (by show q * 1 ≤ _; omega) ⟨Nat.le_refl 1, by show 0 + q ≤ q; omega⟩ dJ7_copyOf_9075b_15 ?_
  have he2 : (es ++ [.inl ((k_D x).1 106, q, .inl (fun _ => 0))])[i]? = some (.inl ((k_D x).1 106, m, .inl g)) := by rw [List.getElem?_append_left (xl_lt he)]; exact he
  have he3 : (es ++ [.inl ((k_D x).1 106, q, .inl (fun _ => 0))])[es.length]? = some (.inl ((k_D x).1 106, q, .inl (fun _ => 0))) := by rw [List.getElem?_append_right (Nat.le_refl _), Nat.sub_self]; rfl
  refine k_astore_n C.1 [(2, .ref (k_b x + es.length)), (0, .ref (k_b x + i)), (1, .int (nI q))] dJ7_copyOf_9075b_17 rfl (by decide) rfl ?_
  refine k_aload_n C.1 1 dJ7_copyOf_9075b_18 rfl rfl ?_
  refine k_iconst (v := 0) C.1 dJ7_copyOf_9075b_19 rfl ?_
  refine k_aload_n C.1 0 dJ7_copyOf_9075b_20 rfl rfl ?_
  refine k_iconst (v := 0) C.1 dJ7_copyOf_9075b_21 rfl ?_
  refine k_aload_n C.1 1 dJ7_copyOf_9075b_22 rfl rfl ?_
  refine g_alen C he2 rfl rfl dJ7_copyOf_9075b_23 ?_
  refine k_iload_n C.1 2 dJ7_copyOf_9075b_24 rfl rfl ?_
  refine k_mmin C.1 ⟨sw_1002, sw_583, sw_16, sw_584⟩ (Nat.le_of_ble_eq_true rfl) (Nat.le_of_ble_eq_true rfl) ⟨Nat.le_refl 1, by show 0 + q ≤ q; omega⟩ (Nat.le_of_ble_eq_true rfl) (v := nI m) (if_neg (nI_nlt (by omega) (by omega))) dJ7_copyOf_9075b_25 ?_
  refine g_copy C (es1 := es ++ [.inl ((k_D x).1 106, q, .inl (va_cpy g (fun _ => 0) 0 0 m))]) ⟨sw_1003, sw_460, sw_459, sw_17⟩ he2 he3 (by decide) (by decide) (nI_pos (by omega)) (by rw [sb_cl0, nI_clamp (by omega)]; omega) (by rw [sb_cl0, nI_clamp (by omega)]; omega) hf rfl rfl (by rw [sb_cl0, nI_clamp (by omega), List.set_append_right _ _ (Nat.le_refl _), Nat.sub_self]; rfl) (Nat.le_of_ble_eq_true rfl) (Nat.le_of_ble_eq_true rfl) (Nat.le_of_ble_eq_true rfl) dJ7_copyOf_9075b_28 ?_
  refine k_aload_n C.1 0 dJ7_copyOf_9075b_31 rfl rfl ?_
  refine k_nm (cs2 := 1) (ss2 := q) rfl rfl rfl (Nat.zero_add q) ?_
  exact g_aret C hr (Or.inr ⟨_, rfl⟩) eQ dJ7_copyOf_9075b_32
