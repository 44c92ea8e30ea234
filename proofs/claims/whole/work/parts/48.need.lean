/-! needed -/
theorem sI_ins (g : Nat → Int32) (R : Nat → Nat) (x : Nat) : ∀ n p, p ≤ n → sI (fun q => g (insR R p x q)) (n + 1) = sI (fun q => g (R q)) n + g x
  | 0, p, h => by
    have : p = 0 := by omega
    subst this
    show 0 + g (insR R 0 x 0) = 0 + g x
    rfl
  | n + 1, p, h => by
    rw [sI]
    by_cases c : p = n + 1
    · have e : sI (fun q => g (insR R p x q)) (n + 1) = sI (fun q => g (R q)) (n + 1) := sI_congr (fun q hq => by
        show g (if q < p then R q else _) = _
        rw [if_pos (by omega)])
      rw [e]
      congr 1
      show g (if n + 1 < p then _ else if n + 1 = p then x else _) = _
      rw [if_neg (by omega), if_pos c.symm]
    · rw [sI_ins g R x n p (by omega)]
      have e : g (insR R p x (n + 1)) = g (R n) := by
        show g (if n + 1 < p then _ else if n + 1 = p then x else R (n + 1 - 1)) = _
        rw [if_neg (by omega), if_neg (by omega)]; rfl
      show _ + g (insR R p x (n + 1)) = (sI (fun q => g (R q)) n + g (R n)) + g x
      rw [e, Int32.add_assoc, Int32.add_assoc, Int32.add_comm (g x)]
section
variable {M N : xM} {V A : Nat → Int32} {ng nw ne no : Nat}
theorem dR_sum (V A : Nat → Int32) (x : Int32) : ∀ e, sI (fun q => kPart V A 3 ((dR V A x e).2 q)) (dR V A x e).1 = sI (fun i => if dP V A x i then kPart V A 3 i else 0) e
  | 0 => rfl
  | e + 1 => by
    by_cases c : dP V A x e
    · rw [dR_yes c]
      have h := sI_ins (kPart V A 3) (dR V A x e).2 e (dR V A x e).1 (dPos V A (dR V A x e).2 (dR V A x e).1 e) (dPos_le V A _ _ _)
      dsimp only
      rw [h, dR_sum V A x e, sI, if_pos c]
    · rw [dR_no c, dR_sum V A x e, sI, if_neg c, Int32.add_zero]
theorem BB.dis0 (B : BB M N V A ng nw ne no) {i : Nat} (hi : i < ne) : 0 ≤ dKey V A i := by
  have ha := B.al hi
  have hm := (B.wf.e hi).2.2.2.1
  show 0 ≤ (kPart V A 3 i).toInt
  by_cases c : V (155 + 7 * i) = 1
  · rw [kPart3 c, i_sub (by omega) (by omega)]; omega
  · rw [kPart3n c, i0]; exact Int.le_refl 0
theorem BB.all3 (B : BB M N V A ng nw ne no) {w : Nat} (hw : w < nw) : kSum V A ne (nI w) 0 3599 3 = sI (fun q => kPart V A 3 ((dR V A (nI w) ne).2 q)) (dR V A (nI w) ne).1 := by
  rw [dR_sum]
  refine sI_congr (fun i hi => ?_)
  have hd := (B.wf.e hi).2.2.1
  have e : (3599 : Int32).toInt = 3599 := by decide
  have h0 := B.dis0 hi
  by_cases c : V (155 + 7 * i + 1) = nI w
  · rw [if_pos (show kIn V (nI w) 0 3599 i from ⟨c, by rw [i0]; exact hd.1, by rw [e]; omega⟩)]
    by_cases c2 : 0 < dKey V A i
    · rw [if_pos (show dP V A (nI w) i from ⟨c2, Or.inr c⟩)]
    · rw [if_neg (fun z => c2 z.1), i_eq, i0]
      have : dKey V A i = 0 := by omega
      exact this
  · rw [if_neg (fun z => c z.1)]
    by_cases c2 : dP V A (nI w) i
    · rcases c2.2 with z | z
      · exfalso
        have e1 : (-1 : Int32).toInt = -1 := by decide
        have hb := B.bd
        rw [i_eq, nI_toInt (by omega), e1] at z; omega
      · exact absurd z c
    · rw [if_neg c2]
end
theorem first_ex (P : Nat → Prop) [DecidablePred P] : ∀ n, P n → ∃ m, m ≤ n ∧ P m ∧ ∀ i, i < m → ¬ P i := by
  have key : ∀ n, (∃ m, m ≤ n ∧ P m ∧ ∀ i, i < m → ¬ P i) ∨ ∀ i, i ≤ n → ¬ P i := by
    intro n
    induction n with
    | zero =>
      by_cases c : P 0
      · exact Or.inl ⟨0, Nat.le_refl 0, c, fun i hi => absurd hi (Nat.not_lt_zero i)⟩
      · exact Or.inr (fun i hi => by rw [show i = 0 by omega]; exact c)
    | succ n ih =>
      rcases ih with ⟨m, a, b, d⟩ | h
      · exact Or.inl ⟨m, by omega, b, d⟩
      · by_cases c : P (n + 1)
        · exact Or.inl ⟨n + 1, Nat.le_refl _, c, fun i hi => h i (by omega)⟩
        · refine Or.inr (fun i hi => ?_)
          by_cases e : i = n + 1
          · rw [e]; exact c
          · exact h i (by omega)
  intro n hn
  rcases key n with h | h
  · exact h
  · exact absurd hn (h n (Nat.le_refl n))
theorem c_needed {M N : xM} (h : Rel M N) (w x : Int32) : ∃ r M1 N1, f_X10_needed M w x = some (r, M1) ∧ f_X11_needed N w x = some (r, N1) ∧ SameM M M1 ∧ SameN N N1 := by
  obtain ⟨N1, e1, S, V, A, ng, nw, ne, no, B⟩ := h.th
  have hb := B.bd
  simp only [f_X10_needed, b_X10_needed_0, b_X10_needed_22, b_X10_needed_56, b_X10_needed_96, f_X11_needed, b_X11_needed_0, b_X11_needed_25, b_X11_needed_39, b_X11_needed_71, lt_d, e1]
  rw [B.hW, B.iW, bd_s, bd_s, m_in1 N1 x 0 9999999 (by omega) (by omega) 0 9999999 (by decide) (by decide), bd_s]
  have R0 := SameM.rf M
  by_cases c : wP nw w
  rotate_left
  · rw [fp_f c, fp_f c]; exact ⟨_, _, _, rfl, rfl, R0, S⟩
  rw [fp_t c, fp_t c]
  have e9 : (9999999 : Int32).toInt = 9999999 := by decide
  by_cases c2 : ((0 : Nat) : Int) ≤ x.toInt ∧ x.toInt ≤ ((9999999 : Nat) : Int)
  rotate_left
  · rw [fp_f c2]
    by_cases c3 : x < 0
    · rw [if_pos c3]; exact ⟨_, _, _, rfl, rfl, R0, S⟩
    · rw [if_neg c3, if_neg (fun z => by rw [i_lt, i0] at c3; rw [i_le, e9] at z; omega)]; exact ⟨_, _, _, rfl, rfl, R0, S⟩
  rw [fp_t c2, if_neg (by rw [i_lt, i0]; omega), if_pos (by rw [i_le, e9]; omega)]
  obtain ⟨j, hj, rfl⟩ := wP_of (by omega) c
  obtain ⟨M1, g1, g2, g3⟩ := c_fillDisputes B (nI j)
  obtain ⟨L, l1, l2, l3, l4, l5⟩ := m_laysDisputes B (nI j)
  have hle : (dR V A (nI j) ne).1 ≤ ne := bR_le (dP V A (nI j)) (dPos V A) id ne
  have hmem : ∀ q, q < (dR V A (nI j) ne).1 → (dR V A (nI j) ne).2 q < ne ∧ dP V A (nI j) ((dR V A (nI j) ne).2 q) := fun q hq => dR_mem hq
  have BM := B.sm (R0.bt g2 (by omega))
  have BL := B.sn l2
  rw [c_partOf B.k, bd_s, g1, bd2_s, l1, bd_s, B.all3 hj]
  generalize (dR V A (nI j) ne).1 = n at *
  generalize (dR V A (nI j) ne).2 = R at *
  have accl := accN (body := fun s : Int32 × Int32 => bl_X11_needed_39 L x s.1 s.2) (fun q => kPart V A 3 (R q)) n 0 (by omega) (fun i y hi => by
      obtain ⟨m1, m2⟩ := hmem i hi
      simp only [bl_X11_needed_39, lt_d, nI_1]
      rw [l4, if_neg (nI_ge hi (by omega)), gd_n (by omega) (by decide), clN (by omega), l5 i hi, BL.rDis l3 m1, bd_s, kPart3 (dP_pay m2)]) (fun y => by
      simp only [bl_X11_needed_39]
      rw [l4, if_pos (nI_le (Nat.le_refl n) (by omega))])
  rw [accl, bd_s, Int32.zero_add]
  generalize hT : sI (fun q => kPart V A 3 (R q)) n = T
  obtain ⟨m, f1, f2, f3⟩ := first_ex (fun k => T - sI (fun q => kPart V A 3 (R q)) k ≤ x) n (by
    show T - sI (fun q => kPart V A 3 (R q)) n ≤ x
    rw [hT, Int32.sub_self, i_le, i0]; omega)
  have hl1 := loopN_up (body := fun s : Int32 × Int32 => bl_X10_needed_56 M1 x s.1 (nI n) s.2) (r := nI m) (fun k => (T - sI (fun q => kPart V A 3 (R q)) k, nI k)) m (fun i hi => by
      obtain ⟨m1, m2⟩ := hmem i (by omega)
      dsimp only
      simp only [bl_X10_needed_56, lt_d, nI_1]
      rw [if_neg (nI_ge (show i < n by omega) (by omega)), if_neg (f3 i hi), gd_n (by omega) (by decide), clN (by omega), g3 i (by omega), gd_n (by omega) (by decide), clN (by omega), c_part BM.k m1, bd_s, sI]
      congr 3
      rw [Int32.sub_eq_add_neg, Int32.sub_eq_add_neg, Int32.sub_eq_add_neg, Int32.neg_add, Int32.sub_eq_add_neg, Int32.add_assoc]) (by
      dsimp only
      simp only [bl_X10_needed_56]
      by_cases c3 : m = n
      · rw [if_pos (nI_le (by omega) (by omega))]
      · rw [if_neg (nI_ge (show m < n by omega) (by omega)), if_pos f2]) BG (BG_lt (by omega))
  have hl2 := loopN_up (body := fun s : Int32 × Int32 => bl_X11_needed_71 L x s.1 s.2) (r := nI m) (fun k => (T - sI (fun q => kPart V A 3 (R q)) k, nI k)) m (fun i hi => by
      obtain ⟨m1, m2⟩ := hmem i (by omega)
      dsimp only
      simp only [bl_X11_needed_71, lt_d, nI_1]
      rw [if_neg (f3 i hi), gd_n (by omega) (by decide), clN (by omega), l5 i (by omega), BL.rDis l3 m1, bd_s, ← kPart3 (dP_pay m2), sI]
      congr 3
      rw [Int32.sub_eq_add_neg, Int32.sub_eq_add_neg, Int32.sub_eq_add_neg, Int32.neg_add, Int32.sub_eq_add_neg, Int32.add_assoc]) (by
      dsimp only
      simp only [bl_X11_needed_71]
      rw [if_pos f2]) BG (BG_lt (by omega))
  have e : (T - sI (fun q => kPart V A 3 (R q)) 0, nI 0) = (T, (0 : Int32)) := by
    show (T - 0, _) = _
    rw [Int32.sub_zero]; rfl
  rw [e] at hl1 hl2
  rw [hl1, hl2]
  exact ⟨_, _, _, rfl, rfl, R0.bt g2 (by omega), S.tr l2⟩
