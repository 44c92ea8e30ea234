theorem c_entry {M N : xM} (h : Rel M N) (a b : Int32) : ∃ r v N1, f_X10_entry M a b = some r ∧ f_X11_entry N a b = some (v, N1) ∧ f_X11_thrown N1 = some (kE9 r) ∧ (∀ x, r = some x → v = x) ∧ SameN N N1 := by
  obtain ⟨-, -, -, -, ⟨ng, nw, ne, no, hW, hB, -⟩, -⟩ := h
  have h2 : N 4 2 = nI ne := hW.2.2.2.2.2.2.1
  have hne : ne ≤ 40 := hW.2.2.1
  have b2 : M 17 5 = nI ne := hB.2.2.1
  have he : ∀ i, i < ne → ∀ j, j < 6 → M (17 + 28 + i) j = N 4 (155 + 7 * i + j) := fun i hi => (hB.2.2.2.2.2.2.1 i hi).1
  simp only [f_X11_entry, b_X11_entry_0, b_X11_entry_35, b_X11_entry_36, b_X11_entry_57, lt_d]
  rw [g495 (by decide) (by decide), show (2 : Int32).toNatClampNeg = 2 from by decide, h2, m_in, bd_s]
  have i0 : (0 : Int64).toInt = 0 := by decide
  have i5 : (5 : Int64).toInt = 5 := by decide
  have i1 : (nI ne - 1).toInt = (ne : Int) - 1 := by
    rw [i_sub (by rw [nI_toInt (by omega)]; show _ ≤ (ne : Int) - (1 : Int32).toInt; rw [show (1 : Int32).toInt = 1 from by decide]; omega) (by rw [nI_toInt (by omega), show (1 : Int32).toInt = 1 from by decide]; omega), nI_toInt (by omega)]; rfl
  have k1 : ((0 : Int64).toInt ≤ a.toInt64.toInt ∧ a.toInt64.toInt ≤ (nI ne - 1).toInt64.toInt) ↔ (0 ≤ a.toInt ∧ a.toInt < ne) := by
    rw [i_l, i_l, i0, i1]; omega
  have S := SameN.th N
  have t1 : ∀ v : Int32, uM N 0 0 v 0 0 = v := fun v => uM_s N 0 0 v
  unfold f_X10_entry f_X11_thrown b_X11_thrown_0
  rw [b2]
  have z0 : (0 : Int32).toInt = 0 := by decide
  by_cases c : 0 ≤ a.toInt ∧ a.toInt < ne
  rotate_left
  · rw [fp_f (fun z => c (k1.mp z)), t1, if_pos rfl]
    refine ⟨none, 0, _, ?_, rfl, by rw [t1]; rfl, fun x hx => (by cases hx), S 1⟩
    by_cases c0 : a < 0
    · rw [if_pos c0]
    · rw [if_neg c0, if_neg (fun z => c ⟨by rw [i_lt, z0] at c0; omega, by rw [i_lt, nI_toInt (by omega)] at z; exact z⟩)]
  rw [fp_t (k1.mpr c), m_in, bd_s]
  obtain ⟨i, -, rfl, hi⟩ := nI_of0 c.1
  have hi2 : i < ne := by omega
  have c0 : ¬ nI i < 0 := by rw [i_lt, z0]; omega
  have c1 : nI i < nI ne := by rw [i_lt, nI_toInt (by omega), nI_toInt (by omega)]; omega
  rw [if_neg c0, if_pos c1, gd_n (by omega) (by decide), clN (by omega)]
  have k2 : ((0 : Int64).toInt ≤ b.toInt64.toInt ∧ b.toInt64.toInt ≤ (5 : Int64).toInt) ↔ ¬ (b.toInt < 0 ∨ 5 < b.toInt) := by
    rw [i_l, i0, i5]; omega
  by_cases d : b.toInt < 0 ∨ 5 < b.toInt
  · rw [fp_f (fun z => k2.mp z d), t1, if_pos rfl, if_pos d]
    exact ⟨none, 0, _, rfl, rfl, by rw [t1]; rfl, fun x hx => (by cases hx), S 1⟩
  · rw [fp_t (k2.mpr d), t1, if_neg d, if_neg (show ¬ (0 : Int32) = 1 by decide)]
    obtain ⟨j, -, rfl, hj⟩ := nI_of0 (a := b) (by omega)
    have hj6 : j < 6 := by omega
    rw [m_eOf _ (by omega) (by omega), bd_s]
    refine ⟨_, _, _, rfl, rfl, by rw [t1]; rfl, fun x hx => ?_, S 0⟩
    have e1 : (nI j).toInt.toNat = j := by rw [← hj]; rfl
    rw [e1, show 45 + i = 17 + 28 + i from rfl, he i hi2 j hj6] at hx
    rw [uM_row _ _ _ _ (by decide)]
    exact Option.some.inj hx
