/-! the start, out of the Statement's words -/
section GIVEN
variable {s : State} {args : Array Value}
abbrev AS (s : State) : Nat → Prop := fun q => s.heap.size ≤ q
theorem AS_n (s : State) : ∀ a : Nat, a < s.heap.size → ¬ AS s a := fun a h => Nat.not_le.mpr h
theorem gv_T {C nn d : String} {ty : FieldType} {N : Nat} {f : Nat → Int32} (hz : (Cond.laysStatic C nn d).before args s = true ∧ (Cond.initialized C).before args s = true) (hN : N < 2 ^ 31) (h1 : (Cond.arrayOf (.static C nn d) ty).before args s = true) (h2 : (Cond.eq (.length (.static C nn d)) (.int (Int32.ofNat N))).before args s = true) (h3 : ∀ j : Nat, j < N → (Cond.eq (.elem (.static C nn d) (.int (Int32.ofNat j))) (.int (f j))).before args s = true) : ∃ t : Nat, va_Z C nn d (.ref t) (AS s) s s.heap ∧ va_T ty t N (fun j => .int (f j)) (AS s) s s.heap := by
  obtain ⟨t, ht, hT⟩ := va_Tof (N := N) (f := fun j => .int (f j)) (A := AS s) hN h1 (va_eqt h2) (fun j hj => va_eqt (h3 j hj)) (AS_n s)
  exact ⟨t, va_Zof hz.1 hz.2 ht (AS_n s), hT⟩
theorem va_T.cg {ty : FieldType} {t N : Nat} {f g : Nat → Value} {A : Nat → Prop} {U : State} {H : Heap} (e : ∀ j, j < N → f j = g j) (h : va_T ty t N f A U H) : va_T ty t N g A U H := by
  obtain ⟨cell, h1, h2, h3, h4, h5, h6, h7⟩ := h
  exact ⟨cell, h1, h2, h3, h4, h5, fun j hj => by rw [← e j hj]; exact h6 j hj, h7⟩
theorem gv_S (hs : ∀ c ∈ FL, c.before args s = true) : ∀ i, i < 14 → ∃ a v : Nat, (tmS i).eval args s none [] s = some (.ref a) ∧ va_O "java/lang/String" a (AS s) s s.heap ∧ va_OF "java/lang/String" "coder" "B" (.int 0) a (AS s) s s.heap ∧ va_OF "java/lang/String" "value" "[B" (.ref v) a (AS s) s s.heap ∧ va_T .byte v (sLen i) (fun j => .int (sByt i j)) (AS s) s s.heap := by
  intro i hi
  obtain ⟨a, c, cA, kA, q1, q2, q3, q4, q5, q6, -⟩ := Cond.exactly_spec (args := args) (first := s) (o := none) (s := s) (idx := []) (t := tmS i) (cls := "java/lang/String") (hs _ (fl_S1 i hi))
  have hN : sLen i < 2 ^ 31 := by
    have h9 : ∀ i, i < 14 → sLen i < 2 ^ 31 := by decide +kernel
    exact h9 i hi
  obtain ⟨v, hv, hT⟩ := va_Tof (N := sLen i) (f := fun j => .int (sByt i j)) (A := AS s) hN (hs _ (fl_S3 i hi)) (va_eqt (hs _ (fl_S4 i hi))) (fun j hj => va_eqt (hs _ (fl_S5 i hi j hj))) (AS_n s)
  exact ⟨a, v, q1, va_Oof (hs _ (fl_S1 i hi)) q1 (AS_n s), vk_OFof q1 (va_eqt (hs _ (fl_S2 i hi))) (AS_n s), vk_OFof q1 hv (AS_n s), hT⟩
theorem gv_R (hs : ∀ c ∈ FL, c.before args s = true) : ∀ j, j < 7 → ∃ a : Nat, (tmR j).eval args s none [] s = some (.ref a) := by
  intro j hj
  obtain ⟨a, c, cA, kA, q1, -⟩ := Cond.exactly_spec (args := args) (first := s) (o := none) (s := s) (idx := []) (t := tmR j) (cls := RX5) (hs _ (fl_R1 j hj))
  exact ⟨a, q1⟩
theorem gv_z (hts : ∀ w ∈ lw_tbl, w.before args s = true) (i : Nat) {C nn d : String} (h : [(RX11, "WITHOUT", "[I"), (RX11, "LOW", "[I"), (RX11, "HIGH", "[I"), (RX10, "RULES", "[LGuardRolls$Rule;"), ("java/lang/String", "COMPACT_STRINGS", "Z"), ("jdk/internal/util/Preconditions", "SIOOBE_FORMATTER", "Ljava/util/function/BiFunction;"), (RJ6, "DigitOnes", "[B"), (RJ6, "DigitTens", "[B"), (Bundle.tN, "UNASSIGNED_STACK", Bundle.steD), (Bundle.tN, "SUPPRESSED_SENTINEL", Bundle.listD)][i]? = some (C, nn, d)) : (Cond.laysStatic C nn d).before args s = true ∧ (Cond.initialized C).before args s = true :=
  ⟨hts _ (lt_z _ (List.mem_of_getElem? h)).1, hts _ (lt_z _ (List.mem_of_getElem? h)).2⟩
theorem gv_St (hs : ∀ c ∈ FL, c.before args s = true) (hts : ∀ w ∈ lw_tbl, w.before args s = true) : ∃ ad : Nat → Nat, ∀ ad' : Nat → Nat, (∀ k, 1000 ≤ k → ad' k = ad k) → NW ad' s ∧ St ad' (AS s) s s.heap ∧
    (va_Z RJ6 "DigitOnes" "[B" (.ref (ad' 1060)) (AS s) s s.heap ∧ va_T .byte (ad' 1060) 100 (fun j => .int (dOne j)) (AS s) s s.heap) ∧
    (va_Z RJ6 "DigitTens" "[B" (.ref (ad' 1061)) (AS s) s s.heap ∧ va_T .byte (ad' 1061) 100 (fun j => .int (dTen j)) (AS s) s s.heap) := by
  obtain ⟨tW, zW, TW⟩ := gv_T (ty := .int) (N := 7) (f := fWi) (gv_z hts 0 rfl) (by decide) (hs _ fl_w1.1) (hs _ fl_w1.2.1) (fun j hj => hs _ (fl_w1.2.2 j hj))
  obtain ⟨tL, zL, TL⟩ := gv_T (ty := .int) (N := 7) (f := fLo) (gv_z hts 1 rfl) (by decide) (hs _ fl_w2.1) (hs _ fl_w2.2.1) (fun j hj => hs _ (fl_w2.2.2 j hj))
  obtain ⟨tH, zH, TH⟩ := gv_T (ty := .int) (N := 7) (f := fHi) (gv_z hts 2 rfl) (by decide) (hs _ fl_w3.1) (hs _ fl_w3.2.1) (fun j hj => hs _ (fl_w3.2.2 j hj))
  obtain ⟨d1, z1, T1⟩ := gv_T (ty := .byte) (N := 100) (f := dOne) (gv_z hts 6 rfl) (by decide) (hs _ fl_d1.1) (hs _ fl_d1.2) (fun j hj => hs _ (va_run fl_d1e j hj))
  obtain ⟨d2, z2, T2⟩ := gv_T (ty := .byte) (N := 100) (f := dTen) (gv_z hts 7 rfl) (by decide) (hs _ fl_d2.1) (hs _ fl_d2.2) (fun j hj => hs _ (va_run fl_d2e j hj))
  obtain ⟨sa, hsa⟩ := chF (gv_S hs)
  obtain ⟨sv, hsv⟩ := chF hsa
  obtain ⟨r, hr⟩ := chF (gv_R hs)
  obtain ⟨tR, eR, TR⟩ := va_Tof (N := 7) (f := fun j => .ref (r j)) (A := AS s) (by decide) (hs _ fl_L1) (va_eqt (hs _ fl_L2)) (fun j hj => va_eqv (hs _ (fl_L3 j hj)) (hr j hj)) (AS_n s)
  refine ⟨fun k => if k = 1000 then tW else if k = 1001 then tL else if k = 1002 then tH else if k = 1003 then tR else if k = 1060 then d1 else if k = 1061 then d2 else if k < 1020 then r (k - 1010) else if k < 1040 then sa (k - 1020) else sv (k - 1040), fun ad' h => ?_⟩
  have a0 : ad' 1000 = tW := h 1000 (by omega)
  have a1 : ad' 1001 = tL := h 1001 (by omega)
  have a2 : ad' 1002 = tH := h 1002 (by omega)
  have a3 : ad' 1003 = tR := h 1003 (by omega)
  have a4 : ad' 1060 = d1 := h 1060 (by omega)
  have a5 : ad' 1061 = d2 := h 1061 (by omega)
  have ar : ∀ j, j < 7 → ad' (1010 + j) = r j := fun j hj => by
    rw [h (1010 + j) (by omega)]
    simp only []
    rw [if_neg (by omega), if_neg (by omega), if_neg (by omega), if_neg (by omega), if_neg (by omega), if_neg (by omega), if_pos (by omega), show 1010 + j - 1010 = j by omega]
  have as : ∀ i, i < 14 → ad' (1020 + i) = sa i := fun i hi => by
    rw [h (1020 + i) (by omega)]
    simp only []
    rw [if_neg (by omega), if_neg (by omega), if_neg (by omega), if_neg (by omega), if_neg (by omega), if_neg (by omega), if_neg (by omega), if_pos (by omega), show 1020 + i - 1020 = i by omega]
  have av : ∀ i, i < 14 → ad' (1040 + i) = sv i := fun i hi => by
    rw [h (1040 + i) (by omega)]
    simp only []
    rw [if_neg (by omega), if_neg (by omega), if_neg (by omega), if_neg (by omega), if_neg (by omega), if_neg (by omega), if_neg (by omega), if_neg (by omega), show 1040 + i - 1040 = i by omega]
  refine ⟨⟨fun j hj => ?_, fun q hq => va_any (A := args) rfl (hts _ (lt_n.1 q hq)), fun q hq => va_any (A := args) rfl (hts _ (lt_n.2.1 q hq))⟩, ⟨⟨by rw [a0]; exact zW, by rw [a0]; exact TW⟩, ⟨by rw [a1]; exact zL, by rw [a1]; exact TL⟩, ⟨by rw [a2]; exact zH, by rw [a2]; exact TH⟩, ⟨by rw [a3]; exact va_Zof (gv_z hts 3 rfl).1 (gv_z hts 3 rfl).2 eR (AS_n s), by rw [a3]; exact TR.cg (fun j hj => by rw [ar j hj])⟩, fun i hi => ?_, fun i hi => ?_, fun i hi => ?_, fun i hi => ?_, fun i hi => ?_, va_Zof (gv_z hts 4 rfl).1 (gv_z hts 4 rfl).2 (va_eqt (hs _ fl_c.1)) (AS_n s), va_Zqof (gv_z hts 5 rfl).1 (gv_z hts 5 rfl).2 (hs _ fl_c.2) (AS_n s)⟩, ⟨by rw [a4]; exact z1, by rw [a4]; exact T1⟩, ⟨by rw [a5]; exact z2, by rw [a5]; exact T2⟩⟩
  · rw [show 1027 + j = 1020 + (7 + j) by omega, as (7 + j) (by omega)]
    refine vk_R.of (A := args) (hts _ (ltb_s j hj)) ?_
    have e := (hsv (7 + j) (by omega)).1
    have t : tmS (7 + j) = .string RX11 (114 + 2 * j) := by
      unfold tmS
      rw [if_neg (by omega), Nat.add_sub_cancel_left]
    rw [t] at e
    exact e
  · show va_OF _ _ _ _ (ad' (1010 + i)) _ _ _
    rw [ar i hi]; exact vk_OFof (hr i hi) (va_eqt (hs _ (fl_R3 i hi))) (AS_n s)
  · show va_OF _ _ _ _ (ad' (1010 + i)) _ _ _
    rw [ar i hi]; exact vk_OFof (hr i hi) (va_eqt (hs _ (fl_R4 i hi))) (AS_n s)
  · show va_OF _ _ _ _ (ad' (1010 + i)) _ _ _
    rw [ar i hi]; exact vk_OFof (hr i hi) (va_eqt (hs _ (fl_R5 i hi))) (AS_n s)
  · rw [as i hi, av i hi]
    exact (hsv i hi).2
  · show va_OF _ _ _ (.ref (ad' (1020 + i))) (ad' (1010 + i)) _ _ _
    rw [ar i hi, as i (by omega)]; exact vk_OFof (hr i hi) (va_eqv (hs _ (fl_R2 i hi)) (hsv i (by omega)).1) (AS_n s)
theorem gv_EX (hs : ∀ c ∈ FL, c.before args s = true) (hts : ∀ w ∈ lw_tbl, w.before args s = true) : ∃ sb : Nat × Nat, EX sb (AS s) s s.heap := by
  obtain ⟨a, c, cA, kA, q1, -⟩ := Cond.exactly_spec (args := args) (first := s) (o := none) (s := s) (idx := []) (t := .string RX10 251) (cls := "java/lang/String") (hs _ fl_e.1)
  obtain ⟨a', c', cA', kA', q1', -⟩ := Cond.exactly_spec (args := args) (first := s) (o := none) (s := s) (idx := []) (t := .string RX10 268) (cls := "java/lang/String") (hs _ fl_e.2)
  refine ⟨(a, a'), fun w hw b => ?_, ⟨vk_R.of (hts _ lt_e.1) q1, vk_R.of (hts _ lt_e.2) q1'⟩, vx_Zqof (gv_z hts 8 rfl).1 (gv_z hts 8 rfl).2 (hs _ fl_t.1) (AS_n s), vx_Zqof (gv_z hts 9 rfl).1 (gv_z hts 9 rfl).2 (hs _ fl_t.2) (AS_n s)⟩
  have h0 := hts w (xeW_in w hw)
  simp only [xeW, List.mem_cons, List.not_mem_nil, or_false] at hw
  rcases hw with rfl | rfl | rfl | rfl <;> exact h0
theorem gv_NK (hts : ∀ w ∈ lw_tbl, w.before args s = true) : NK s :=
  ⟨fun q hq => va_any (A := args) rfl (hts _ (lt_n.2.2 q hq)), va_AO.of (hts _ lt_a.1), va_AO.of (hts _ lt_a.2.1), va_AO.of (hts _ lt_a.2.2.1)⟩
theorem ar_P {t : FieldType} (h : (Cond.arrayClass t).before args s = true) : ∃ cA : ClassId, ArrOfT s cA t ∧ s.vm.findClass ("[" ++ t.toString) = some cA := by
  obtain ⟨c, k, comp, h1, h2, h3⟩ := Cond.arrayClass_spec h
  exact ⟨c, fun n z => ⟨fun k h => (by cases h), k, h2, comp, h3⟩, h1⟩
theorem ar_O {C : String} (h : (Cond.arrayOver (.object C)).before args s = true) : ∃ cA : ClassId, ArrOfT s cA (.object C) ∧ va_RA s cA (.object C) := by
  obtain ⟨comp, c, k, h1, -, h2, h3, h4⟩ := Cond.arrayOver_spec h
  exact ⟨c, fun n z => ⟨fun k h => (by cases h), k, h2, comp, h3⟩, k, comp, h2, h3, h1, h4⟩
theorem gv_K (hts : ∀ w ∈ lw_tbl, w.before args s = true) : ∃ D : va_G, va_K D vwCl (ty6 D.1) s ∧ va_K D vwCl [(D.1 106, .byte)] s := by
  obtain ⟨cI, i1, i2⟩ := ar_P (hts _ lt_a.2.2.2.1)
  obtain ⟨cZ, i3, i4⟩ := ar_P (hts _ lt_a.2.2.2.2.1)
  obtain ⟨cB, i5, i6⟩ := ar_P (hts _ lt_a.2.2.2.2.2.1)
  obtain ⟨cJ, i7, i8⟩ := ar_P (hts _ lt_a.2.2.2.2.2.2)
  obtain ⟨c8, j1, j2⟩ := ar_O (hts _ lt_a.1)
  obtain ⟨c2, j3, j4⟩ := ar_O (hts _ lt_a.2.1)
  obtain ⟨c3, j5, j6⟩ := ar_O (hts _ lt_a.2.2.1)
  have hk : ∀ k : Nat, ∃ p : ClassId × (Nat → Nat), ∀ q, vwCl[k]? = some q → u_Kn s q.1 q.2.1 q.2.2 p.1 p.2 := by
    intro k
    cases hq : vwCl[k]? with
    | none => exact ⟨(cI, fun _ => 0), fun q h => by cases h⟩
    | some q =>
      have hm := lt_i q (List.mem_of_getElem? hq)
      obtain ⟨cC, iS, hKn⟩ := u_known (C := q.1) (T := q.2.1) (N := q.2.2) (n := q.2.2) hts hm.2 (hts _ hm.1)
      exact ⟨(cC, iS), fun q' h => by cases h; exact hKn⟩
  have hcl : ∀ (k : Nat) (q : vw_C), vwCl[k]? = some q → u_Kn s q.1 q.2.1 q.2.2 ((fun k => if k = 100 then cI else if k = 101 then cZ else if k = 102 then c8 else if k = 103 then c2 else if k = 104 then c3 else if k = 105 then cJ else if k = 106 then cB else (Classical.choose (hk k)).1) k) ((fun k => (Classical.choose (hk k)).2) k) := by
    intro k q hq
    have hlt : k < 12 := (List.getElem?_eq_some_iff.mp hq).1
    have h := Classical.choose_spec (hk k) q hq
    simp only []
    rw [if_neg (by omega), if_neg (by omega), if_neg (by omega), if_neg (by omega), if_neg (by omega), if_neg (by omega), if_neg (by omega)]
    exact h
  refine ⟨((fun k => if k = 100 then cI else if k = 101 then cZ else if k = 102 then c8 else if k = 103 then c2 else if k = 104 then c3 else if k = 105 then cJ else if k = 106 then cB else (Classical.choose (hk k)).1), fun k => (Classical.choose (hk k)).2), ⟨hcl, ?_⟩, ⟨hcl, ?_⟩⟩
  · intro k q hq
    have hlt : k < 6 := (List.getElem?_eq_some_iff.mp hq).1
    have hc : k = 0 ∨ k = 1 ∨ k = 2 ∨ k = 3 ∨ k = 4 ∨ k = 5 := by omega
    rcases hc with rfl | rfl | rfl | rfl | rfl | rfl
    · cases hq; exact ⟨i1, i2⟩
    · cases hq; exact ⟨i3, i4⟩
    · cases hq; exact ⟨j1, j2⟩
    · cases hq; exact ⟨j3, j4⟩
    · cases hq; exact ⟨j5, j6⟩
    · cases hq; exact ⟨i7, i8⟩
  · intro k q hq
    have hlt : k < 1 := (List.getElem?_eq_some_iff.mp hq).1
    obtain rfl : k = 0 := by omega
    cases hq; exact ⟨i5, i6⟩
theorem gv_G (hts : ∀ w ∈ lw_tbl, w.before args s = true) {c : ClassId} (hc : s.vm.findClass RJ4 = some c) : ∀ w ∈ bG, w.before args s = true := by
  intro w hw
  have key : ∀ y : MethodName, y ∈ [yJ5_ensureCapacityInternal_d00df, yJ5_newCapacity_0f7a4, yJ5_putStringAt_47b60, yJ5_inflateIfNeededFor_a7421] → (y.cls ≠ "java/lang/invoke/MethodHandle" ∧ y.cls ≠ "java/lang/invoke/VarHandle") → (Cond.selects RJ4 y y).before args s = true := fun y hy hn => by
    obtain ⟨g1, g2, g3⟩ := lt_g y hy
    exact sel_priv hn hc (hts _ g1) (hts _ g2) (hts _ g3)
  simp only [bG, List.mem_cons, List.not_mem_nil, or_false] at hw
  rcases hw with rfl | rfl | rfl | rfl
  · exact key _ (List.mem_of_getElem? (i := 0) rfl) (by decide +kernel)
  · exact key _ (List.mem_of_getElem? (i := 1) rfl) (by decide +kernel)
  · exact key _ (List.mem_of_getElem? (i := 2) rfl) (by decide +kernel)
  · exact key _ (List.mem_of_getElem? (i := 3) rfl) (by decide +kernel)
end GIVEN
