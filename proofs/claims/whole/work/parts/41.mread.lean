/-! the reference reads -/
abbrev mA (N : xM) : Nat → Int32 := N 8
theorem m_its' (N : xM) {w : Nat} (j : Int32) (hw : w < 4) (n : Nat) (hj : n < 37) (e : j = nI n) : f_X11_its N (nI w) j = some (N 4 (7 + 37 * w + n)) := by rw [e]; exact m_its N hw hj
theorem m_worth {N : xM} {ng nw ne no i : Nat} (h : WF (N 4) ng nw ne no) (hi : i < ne) : f_X11_worth N (nI i) = some (kWorth (N 4) (N 8) i) := by
  have hb := h.bd
  obtain ⟨⟨s, hs, es⟩, -⟩ := h.e hi
  simp only [f_X11_worth, b_X11_worth_0, b_X11_worth_43]
  rw [m_e0 N (by omega), bd_s, m_e3 N (by omega), bd_s, bd_s, gd_n (by omega) (by decide), clN (by omega)]
  unfold kWorth kEst kPart
  rw [if_neg (show ¬ (4 : Int32) = 1 by decide), if_neg (show ¬ (4 : Int32) = 2 by decide), if_neg (show ¬ (4 : Int32) = 3 by decide)]
  rw [es]
  have hs' : s = 0 ∨ s = 1 ∨ s = 2 ∨ s = 3 := by omega
  rcases hs' with rfl | rfl | rfl | rfl
  · rw [if_neg (show ¬ nI 0 = 1 by decide), if_neg (show ¬ nI 0 = 2 by decide), if_pos (show nI 0 = 0 from rfl), if_neg (show ¬ nI 0 = 2 by decide), if_neg (show ¬ nI 0 = 3 by decide), Int32.sub_zero]
  · rw [if_pos (show nI 1 = 1 from rfl), if_neg (show ¬ nI 1 = 0 by decide), if_pos (show nI 1 = 1 from rfl), if_neg (show ¬ nI 1 = 2 by decide), if_neg (show ¬ nI 1 = 3 by decide), Int32.sub_zero]
  · rw [if_neg (show ¬ nI 2 = 1 by decide), if_pos (show nI 2 = 2 from rfl), if_neg (show ¬ nI 2 = 0 by decide), if_neg (show ¬ nI 2 = 1 by decide), if_pos (show nI 2 = 2 from rfl), Int32.zero_sub]
  · rw [if_neg (show ¬ nI 3 = 1 by decide), if_neg (show ¬ nI 3 = 2 by decide), if_neg (show ¬ nI 3 = 0 by decide), if_neg (show ¬ nI 3 = 1 by decide), if_neg (show ¬ nI 3 = 2 by decide), if_pos (show nI 3 = 3 from rfl), Int32.zero_sub, Int32.neg_neg]
theorem m_disallowed {N : xM} {i : Nat} (hi : i < 40) : f_X11_disallowed N (nI i) = some (N 4 (155 + 7 * i + 3) - N 8 i) := by
  simp only [f_X11_disallowed, b_X11_disallowed_0]
  rw [m_e3 N hi, bd_s, gd_n (by omega) (by decide), clN (by omega)]
theorem m_sumOf {N : xM} {ng nw ne no : Nat} (h : WF (N 4) ng nw ne no) (w f l what : Int32) (hw : what = 1 ∨ what = 2 ∨ what = 3 ∨ what = 4) : f_X11_sumOf N w f l what = some (kSum (N 4) (N 8) ne w f l what) := by
  have hb := h.bd
  have hc := h.c.2.2.1
  simp only [f_X11_sumOf, b_X11_sumOf_0, b_X11_sumOf_6]
  rw [accN (fun i => if kIn (N 4) w f l i then kPart (N 4) (N 8) what i else 0) ne 0 (by omega) ?_ ?_, bd_s, Int32.zero_add]
  · rfl
  · intro i x hi
    obtain ⟨⟨s, hs, es⟩, -⟩ := h.e hi
    simp only [bl_X11_sumOf_6, b_X11_sumOf_170, b_X11_sumOf_167, b_X11_sumOf_166, b_X11_sumOf_144, b_X11_sumOf_143, b_X11_sumOf_122, b_X11_sumOf_95, b_X11_sumOf_89, b_X11_sumOf_94, b_X11_sumOf_77, lt_d, nI_1]
    rw [gd_d (by decide) (by decide), cl2, hc, if_neg (nI_ge hi (by omega)), m_e0 N (by omega), bd_s, m_e3 N (by omega), bd_s, m_e1 N (by omega), bd_s, m_e2 N (by omega), bd_s, m_in, bd_s, i_l, i_l, i_l, m_disallowed (by omega), bd_s, gd_n (by omega) (by decide), clN (by omega)]
    unfold kIn
    by_cases c1 : N 4 (155 + 7 * i + 1) = w
    rotate_left
    · rw [if_neg c1, if_neg (fun z => c1 z.1), Int32.add_zero]
    rw [if_pos c1]
    by_cases c2 : f.toInt ≤ (N 4 (155 + 7 * i + 2)).toInt ∧ (N 4 (155 + 7 * i + 2)).toInt ≤ l.toInt
    rotate_left
    · rw [fp_f c2, if_neg (fun z => c2 z.2), Int32.add_zero]
    rw [fp_t c2, if_pos (And.intro c1 c2)]
    unfold kPart
    rw [es]
    have hs' : s = 0 ∨ s = 1 ∨ s = 2 ∨ s = 3 := by omega
    have a1 : ¬ (2 : Int32) = 1 := by decide
    have a2 : ¬ (3 : Int32) = 1 := by decide
    have a3 : ¬ (4 : Int32) = 1 := by decide
    have a4 : ¬ (1 : Int32) = 2 := by decide
    have a5 : ¬ (3 : Int32) = 2 := by decide
    have a6 : ¬ (4 : Int32) = 2 := by decide
    have a7 : ¬ (1 : Int32) = 3 := by decide
    have a8 : ¬ (2 : Int32) = 3 := by decide
    have a9 : ¬ (4 : Int32) = 3 := by decide
    have a10 : ¬ (1 : Int32) = 4 := by decide
    have a11 : ¬ (2 : Int32) = 4 := by decide
    have a12 : ¬ (3 : Int32) = 4 := by decide
    have b0 : nI 0 = 0 := rfl
    have b1 : nI 1 = 1 := rfl
    have b2 : nI 2 = 2 := rfl
    have b3 : nI 3 = 3 := rfl
    have z1 : ¬ (1 : Int32) = 0 := by decide
    have z2 : ¬ (2 : Int32) = 0 := by decide
    have z3 : ¬ (3 : Int32) = 0 := by decide
    have z4 : ¬ (0 : Int32) = 1 := by decide
    have z5 : ¬ (0 : Int32) = 2 := by decide
    have z6 : ¬ (0 : Int32) = 3 := by decide
    have gdi : ∀ o : Option ((Int32 × Int32) ⊕ Int32), gd (nI i) 40 o = o := fun o => gd_n (by omega) (by decide) o
    rcases hw with rfl | rfl | rfl | rfl <;> rcases hs' with rfl | rfl | rfl | rfl <;>
      simp only [b0, b1, b2, b3, a1, a2, a3, a4, a5, a6, a7, a8, a9, a10, a11, a12, z1, z2, z3, z4, z5, z6, if_true, if_false, Int32.add_zero, Int32.sub_zero, Int32.sub_eq_add_neg, Int32.neg_zero, gdi, bd_s]
  · intro x
    simp only [bl_X11_sumOf_6]
    rw [gd_d (by decide) (by decide), cl2, hc, if_pos (nI_le (Nat.le_refl ne) (by omega))]
theorem m_brought {N : xM} {ng nw ne no w y : Nat} (h : WF (N 4) ng nw ne no) (hw : w < nw) (hy : y < 10) : f_X11_brought N (nI w) (nI y) = some (kBr (N 4) w y) := by
  have hb := h.bd
  obtain ⟨-, -, -, ⟨cl, hcl, v3, -⟩, -⟩ := h.w hw
  simp only [f_X11_brought, b_X11_brought_0, b_X11_brought_34]
  rw [m_its' N 15 (by omega) 15 (by decide) rfl, bd_s, m_its' N (16 + nI y) (by omega) (16 + y) (by omega) (nI_add 16 y), m_its' N (26 + nI y) (by omega) (26 + y) (by omega) (nI_add 26 y), bd_s, bd_s, v3]
  unfold kBr
  rw [v3]
  by_cases c : y < cl
  · rw [if_neg (nI_ge c (by omega)), if_pos (nI_lt' c (by omega)), show 7 + 37 * w + (16 + y) = 7 + 37 * w + 16 + y by omega, show 7 + 37 * w + (26 + y) = 7 + 37 * w + 26 + y by omega]
  · rw [if_pos (nI_le (by omega) (by omega)), if_neg (nI_nl c (by omega))]
theorem m_moneyOn {N : xM} {ng nw ne no w : Nat} (h : WF (N 4) ng nw ne no) (hw : w < nw) {day : Int32} (hd : dayP day) : f_X11_moneyOn N (nI w) day = some (kMoneyOn (N 4) (N 8) ne w day) := by
  have hb := h.bd
  have hc := h.c.2.2.1
  have hd1 := hd.1
  have hd2 := hd.2
  simp only [f_X11_moneyOn, b_X11_moneyOn_0, b_X11_moneyOn_5, b_X11_moneyOn_60]
  rw [accN (fun i => if N 4 (155 + 7 * i + 1) = nI w ∧ (N 4 (155 + 7 * i + 2)).toInt ≤ day.toInt then kWorth (N 4) (N 8) i else 0) ne 0 (by omega) ?_ ?_, bd_s, accN (kBr (N 4) w) (day.toInt / 360).toNat _ (by omega) ?_ ?_, bd_s]
  · apply congrArg some
    unfold kMoneyOn kEstOn kOutOn kSum kBrS
    have e : sI (fun i => if N 4 (155 + 7 * i + 1) = nI w ∧ (N 4 (155 + 7 * i + 2)).toInt ≤ day.toInt then kWorth (N 4) (N 8) i else 0) ne
        = sI (fun i => (if N 4 (155 + 7 * i + 1) = nI w ∧ (N 4 (155 + 7 * i + 2)).toInt ≤ day.toInt then kEst (N 4) (N 8) i else 0) - (if kIn (N 4) (nI w) 0 day i then kPart (N 4) (N 8) 4 i else 0)) ne := by
      refine sI_congr (fun i hi => ?_)
      have hD := (h.e hi).2.2.1.1
      by_cases c : N 4 (155 + 7 * i + 1) = nI w ∧ (N 4 (155 + 7 * i + 2)).toInt ≤ day.toInt
      · rw [if_pos c, if_pos c, if_pos ⟨c.1, by rw [i0]; exact hD, c.2⟩]; rfl
      · rw [if_neg c, if_neg c, if_neg (fun z => c ⟨z.1, z.2.2⟩), Int32.sub_zero]
    rw [e, sI_sub, Int32.zero_add, Int32.sub_eq_add_neg, Int32.sub_eq_add_neg]
    ac_rfl
  · intro y x hy
    simp only [bl_X11_moneyOn_60, lt_d, nI_1]
    rw [m_brought h hw (by omega), bd_s]
    have e : ((360 : Int32) * nI y) + (360 : Int32) = nI (360 * y + 360) := by rw [show (360 : Int32) * nI y = nI (360 * y) from pk_mul 360 y]; exact nI_add _ 360
    rw [e, if_neg (by rw [i_lt, nI_toInt (by omega)]; omega)]
  · intro x
    simp only [bl_X11_moneyOn_60]
    have e : ((360 : Int32) * nI (day.toInt / 360).toNat) + (360 : Int32) = nI (360 * (day.toInt / 360).toNat + 360) := by rw [show (360 : Int32) * nI (day.toInt / 360).toNat = nI (360 * (day.toInt / 360).toNat) from pk_mul 360 _]; exact nI_add _ 360
    rw [e, if_pos (by rw [i_lt, nI_toInt (by omega)]; omega)]
  · intro i x hi
    simp only [bl_X11_moneyOn_5, b_X11_moneyOn_48, b_X11_moneyOn_49, lt_d, nI_1]
    rw [gd_d (by decide) (by decide), cl2, hc, if_neg (nI_ge hi (by omega)), m_e1 N (by omega), bd_s, m_e2 N (by omega), bd_s, m_worth h hi, bd_s]
    by_cases c1 : N 4 (155 + 7 * i + 1) = nI w
    · rw [if_pos c1]
      by_cases c2 : day < N 4 (155 + 7 * i + 2)
      · rw [if_pos c2, if_neg (fun z => by rw [i_lt] at c2; omega)]
      · rw [if_neg c2, if_pos (by rw [i_lt] at c2; exact ⟨c1, by omega⟩)]
    · rw [if_neg c1, if_neg (fun z => c1 z.1)]
  · intro x
    simp only [bl_X11_moneyOn_5]
    rw [gd_d (by decide) (by decide), cl2, hc, if_pos (nI_le (Nat.le_refl ne) (by omega))]
theorem m_outOn {N : xM} {ng nw ne no : Nat} (h : WF (N 4) ng nw ne no) (A : Nat → Int32) (w : Nat) (day : Int32) : f_X11_outOn N (nI w) day = some (kOutOn (N 4) A ne w day) := by
  have hb := h.bd
  have hc := h.c.2.2.1
  simp only [f_X11_outOn, b_X11_outOn_0, b_X11_outOn_5]
  rw [accN (fun i => if kIn (N 4) (nI w) 0 day i then kPart (N 4) A 4 i else 0) ne 0 (by omega) ?_ ?_, bd_s, Int32.zero_add]
  · rfl
  · intro i x hi
    obtain ⟨⟨s, hs, es⟩, -, ⟨hD, -⟩, -⟩ := h.e hi
    have t1 : ¬ (1 : Int32) = 0 := by decide
    simp only [bl_X11_outOn_5, b_X11_outOn_42, b_X11_outOn_43, b_X11_outOn_72, b_X11_outOn_99, b_X11_outOn_100, lt_d, nI_1, t1, eq_self, if_true, if_false]
    rw [gd_d (by decide) (by decide), cl2, hc, if_neg (nI_ge hi (by omega)), m_e1 N (by omega), bd_s, m_e2 N (by omega), bd_s, m_e0 N (by omega), bd_s, bd_s, m_e3 N (by omega), bd_s, bd_s]
    unfold kPart
    rw [if_neg (show ¬ (4 : Int32) = 1 by decide), if_neg (show ¬ (4 : Int32) = 2 by decide), if_neg (show ¬ (4 : Int32) = 3 by decide)]
    by_cases c1 : N 4 (155 + 7 * i + 1) = nI w
    rotate_left
    · rw [if_neg c1, if_neg (show ¬ kIn (N 4) (nI w) 0 day i from fun z => c1 z.1)]
    rw [if_pos c1]
    by_cases c2 : day < N 4 (155 + 7 * i + 2)
    · rw [if_pos c2, if_neg (show ¬ kIn (N 4) (nI w) 0 day i from fun z => by rw [i_lt] at c2; omega)]
    rw [if_neg c2, if_pos (show kIn (N 4) (nI w) 0 day i from by rw [i_lt] at c2; exact ⟨c1, by rw [i0]; exact hD, by omega⟩)]
    by_cases c3 : N 4 (155 + 7 * i) = 2
    · rw [if_pos c3, if_pos c3]
    rw [if_neg c3, if_neg c3]
    by_cases c4 : N 4 (155 + 7 * i) = 3
    · rw [if_pos c4, if_pos c4]
    · rw [if_neg c4, if_neg c4]
  · intro x
    simp only [bl_X11_outOn_5]
    rw [gd_d (by decide) (by decide), cl2, hc, if_pos (nI_le (Nat.le_refl ne) (by omega))]
theorem m_guardianOf {N : xM} {ng nw ne no w : Nat} (h : WF (N 4) ng nw ne no) (hw : w < nw) (day : Int32) : f_X11_guardianOf N (nI w) day = some (kGuard (N 4) w day) := by
  have hb := h.bd
  obtain ⟨-, -, ⟨ch, hch, v2, -, -⟩, -⟩ := h.w hw
  unfold kGuard
  rw [v2, nI_toInt (by omega), Int.toNat_natCast]
  simp only [f_X11_guardianOf, b_X11_guardianOf_0, b_X11_guardianOf_10]
  rw [m_its' N 1 (by omega) 1 (by decide) rfl, bd_s]
  have hl := loopN_up (body := fun s : Int32 × Int32 => bl_X11_guardianOf_10 N (nI w) day s.1 s.2) (r := gTil (N 4) w day ch)
    (fun k => (gTil (N 4) w day k, nI k)) ch (fun i hi => by
      dsimp only
      simp only [bl_X11_guardianOf_10, b_X11_guardianOf_53, lt_d, nI_1]
      have e1 : (3 : Int32) + (2 : Int32) * nI i = nI (3 + 2 * i) := by rw [show (2 : Int32) * nI i = nI (2 * i) from pk_mul 2 i]; exact nI_add 3 _
      have e2 : (3 : Int32) + (2 : Int32) * nI i + 1 = nI (3 + 2 * i + 1) := by rw [e1]; exact nI_add _ 1
      rw [m_its' N 2 (by omega) 2 (by decide) rfl, bd_s, v2, if_neg (nI_ge hi (by omega)), m_its' N (3 + 2 * nI i) (by omega) (3 + 2 * i) (by omega) e1, bd_s, m_its' N (3 + 2 * nI i + 1) (by omega) (3 + 2 * i + 1) (by omega) e2, bd_s]
      simp only [gTil]
      by_cases c : day < N 4 (7 + 37 * w + (3 + 2 * i))
      · rw [if_pos c, if_neg (fun z => by rw [i_lt] at c; rw [← Nat.add_assoc] at c; omega)]
      · rw [if_neg c, if_pos (show (N 4 (7 + 37 * w + 3 + 2 * i)).toInt ≤ day.toInt by rw [i_lt] at c; rw [← Nat.add_assoc] at c; omega), show 7 + 37 * w + (3 + 2 * i + 1) = 7 + 37 * w + 3 + 2 * i + 1 by omega]) (by
      dsimp only
      simp only [bl_X11_guardianOf_10]
      rw [m_its' N 2 (by omega) 2 (by decide) rfl, bd_s, v2, if_pos (nI_le (by omega) (by omega))]) BG (BG_lt (by omega))
  have e : (gTil (N 4) w day 0, nI 0) = (N 4 (7 + 37 * w + 1), (0 : Int32)) := rfl
  rw [e] at hl
  rw [hl, bd_s]
