/-! account, month, extreme -/
section
variable {M N : xM} {V A : Nat → Int32} {ng nw ne no : Nat}
theorem BB.worth_bd (B : BB M N V A ng nw ne no) {i : Nat} (hi : i < ne) : -99999 ≤ (kWorth V A i).toInt ∧ (kWorth V A i).toInt ≤ 99999 := by
  obtain ⟨⟨s, hs, es⟩, -, -, hm, -⟩ := B.wf.e hi
  have ha := B.al hi
  have hn : (-V (155 + 7 * i + 3)).toInt = -(V (155 + 7 * i + 3)).toInt := i_neg (by omega)
  have hn2 : (-A i).toInt = -(A i).toInt := i_neg (by omega)
  unfold kWorth kEst kPart
  rw [if_neg (show ¬ (4 : Int32) = 1 by decide), if_neg (show ¬ (4 : Int32) = 2 by decide), if_neg (show ¬ (4 : Int32) = 3 by decide), es]
  have hs' : s = 0 ∨ s = 1 ∨ s = 2 ∨ s = 3 := by omega
  rcases hs' with rfl | rfl | rfl | rfl
  · rw [if_pos (show nI 0 = 0 from rfl), if_neg (show ¬ nI 0 = 2 by decide), if_neg (show ¬ nI 0 = 3 by decide), Int32.sub_zero]; omega
  · rw [if_neg (show ¬ nI 1 = 0 by decide), if_pos (show nI 1 = 1 from rfl), if_neg (show ¬ nI 1 = 2 by decide), if_neg (show ¬ nI 1 = 3 by decide), Int32.sub_zero, hn2]; omega
  · rw [if_neg (show ¬ nI 2 = 0 by decide), if_neg (show ¬ nI 2 = 1 by decide), if_pos (show nI 2 = 2 from rfl), Int32.zero_sub, hn]; omega
  · rw [if_neg (show ¬ nI 3 = 0 by decide), if_neg (show ¬ nI 3 = 1 by decide), if_neg (show ¬ nI 3 = 2 by decide), if_pos (show nI 3 = 3 from rfl), Int32.zero_sub, Int32.neg_neg]; omega
theorem BB.mD_bd (B : BB M N V A ng nw ne no) {w : Nat} (hw : w < nw) (k : Nat) : -60000000 ≤ (mD V A ne w k).toInt ∧ (mD V A ne w k).toInt ≤ 60000000 := by
  have hb := B.bd
  obtain ⟨a1, a2, a3⟩ := sI_z (f := fun e => if ofW V w e ∧ atE V e ≤ 0 + k then kWorth V A e else 0) (B := 99999) (n := ne) (fun i hi => by
    split
    · exact B.worth_bd hi
    · rw [i0]; omega) (by omega) (by omega)
  obtain ⟨b1, b2, b3⟩ := sI_z (f := fun y => if True ∧ atY y ≤ 0 + k then kBr V w y else 0) (B := 5000000) (n := 9) (fun y hy => by
    have := B.wf.br_bd hw (show y < 10 by omega)
    split
    · omega
    · rw [i0]; omega) (by omega) (by omega)
  have a1' : (lS (ofW V w) (atE V) (kWorth V A) 0 ne k).toInt = zS (fun i => (if ofW V w i ∧ atE V i ≤ 0 + k then kWorth V A i else 0).toInt) ne := a1
  have b1' : (lS (fun _ => True) atY (kBr V w) 0 9 k).toInt = zS (fun i => (if True ∧ atY i ≤ 0 + k then kBr V w i else 0).toInt) 9 := b1
  unfold mD
  rw [i_add (by omega) (by omega)]
  omega
theorem kMoney_sum (h : WF V ng nw ne no) (w : Nat) (day : Int32) : kMoneyOn V A ne w day = sI (fun i => if V (155 + 7 * i + 1) = nI w ∧ (V (155 + 7 * i + 2)).toInt ≤ day.toInt then kWorth V A i else 0) ne + kBrS V w day := by
  unfold kMoneyOn kEstOn kOutOn kSum
  have e : sI (fun i => if V (155 + 7 * i + 1) = nI w ∧ (V (155 + 7 * i + 2)).toInt ≤ day.toInt then kWorth V A i else 0) ne
      = sI (fun i => (if V (155 + 7 * i + 1) = nI w ∧ (V (155 + 7 * i + 2)).toInt ≤ day.toInt then kEst V A i else 0) - (if kIn V (nI w) 0 day i then kPart V A 4 i else 0)) ne := by
    refine sI_congr (fun i hi => ?_)
    have hD := (h.e hi).2.2.1.1
    by_cases c : V (155 + 7 * i + 1) = nI w ∧ (V (155 + 7 * i + 2)).toInt ≤ day.toInt
    · rw [if_pos c, if_pos c, if_pos ⟨c.1, by rw [i0]; exact hD, c.2⟩]; rfl
    · rw [if_neg c, if_neg c, if_neg (fun z => c ⟨z.1, z.2.2⟩), Int32.sub_zero]
  rw [e, sI_sub, Int32.sub_eq_add_neg, Int32.sub_eq_add_neg]
  ac_rfl
theorem mD_eq (h : WF V ng nw ne no) (w : Nat) {d : Nat} (hd : d < 3600) : mD V A ne w (360 + d) = kMoneyOn V A ne w (nI d) := by
  rw [kMoney_sum h]
  unfold mD
  congr 1
  · refine sI_congr (fun i hi => ?_)
    obtain ⟨d1, d2⟩ := h.dN hi
    rw [d1, nI_toInt (by omega), nI_toInt (by omega)]
    have e : (atE V i ≤ 0 + (360 + d)) ↔ ((dyN V i : Int) ≤ (d : Int)) := by
      show (360 + dyN V i ≤ 0 + (360 + d)) ↔ _
      omega
    by_cases c : V (155 + 7 * i + 1) = nI w
    · by_cases c2 : (dyN V i : Int) ≤ (d : Int)
      · rw [if_pos ⟨c, e.mpr c2⟩, if_pos ⟨c, c2⟩]
      · rw [if_neg (fun z => c2 (e.mp z.2)), if_neg (fun z => c2 z.2)]
    · rw [if_neg (fun z => c z.1), if_neg (fun z => c z.1)]
  · unfold kBrS
    rw [nI_toInt (by omega)]
    have hn : ((d : Int) / 360).toNat = d / 360 := by omega
    rw [hn]
    have e1 : lS (fun _ => True) atY (kBr V w) 0 9 (360 + d) = lS (fun _ => True) atY (kBr V w) 0 (d / 360) (360 + d) := sI_ext (by omega) (fun y y1 y2 => if_neg (fun z => by
      have z2 : 360 * y + 720 ≤ 0 + (360 + d) := z.2
      omega))
    rw [e1]
    exact sI_congr (fun y hy => if_pos ⟨trivial, show 360 * y + 720 ≤ 0 + (360 + d) by omega⟩)
def kExt (H : Nat → Int32) (gr : Int32) (a : Nat) : Nat → Nat
  | 0 => a
  | n + 1 => if gr = 0 then (if H (kExt H gr a n) ≤ H (a + n + 1) then kExt H gr a n else a + n + 1) else (if H (a + n + 1) ≤ H (kExt H gr a n) then kExt H gr a n else a + n + 1)
theorem kExt_in (H : Nat → Int32) (gr : Int32) (a : Nat) : ∀ n, a ≤ kExt H gr a n ∧ kExt H gr a n ≤ a + n
  | 0 => ⟨Nat.le_refl _, Nat.le_refl _⟩
  | n + 1 => by
    have := kExt_in H gr a n
    unfold kExt
    split <;> split <;> omega
theorem kExt_sh {H H' : Nat → Int32} {c : Nat} (gr : Int32) (a : Nat) : ∀ n, (∀ i, i ≤ a + n → H i = H' (c + i)) → c + kExt H gr a n = kExt H' gr (c + a) n
  | 0, _ => rfl
  | n + 1, h => by
    have ih := kExt_sh (c := c) gr a n (fun i hi => h i (by omega))
    have hin := kExt_in H gr a n
    unfold kExt
    rw [h _ (by omega : kExt H gr a n ≤ a + (n + 1)), h (a + n + 1) (by omega), ih, show c + (a + n + 1) = c + a + n + 1 by omega]
    split <;> split <;> first | exact ih | omega
theorem m_dayOf {L : xM} {H : Nat → Int32} {a b : Nat} (hab : a ≤ b) (hb : b < 3600) (h : ∀ d, d < 3600 → L 9 (360 + d) = H d) (gr : Int32) : f_X11_dayOf L (nI a) (nI b) gr = some (nI (kExt H gr a (b - a))) := by
  simp only [f_X11_dayOf, b_X11_dayOf_0, b_X11_dayOf_6]
  have hl := loopN_up (body := fun s : Int32 × Int32 => bl_X11_dayOf_6 L (nI b) gr s.1 s.2) (r := nI (kExt H gr a (b - a))) (fun k => (nI (kExt H gr a (k - 1)), nI (a + k))) (b - a + 1) (fun k hk => by
    have hin := kExt_in H gr a (k - 1)
    have e1 : ∀ n : Nat, (360 : Int32) + nI n = nI (360 + n) := fun n => nI_add 360 n
    dsimp only
    simp only [bl_X11_dayOf_6, b_X11_dayOf_78, lt_d, nI_1]
    rw [if_neg (nI_nl (by omega) (by omega)), e1, e1, gd_n (by omega) (by decide), gd_n (by omega) (by decide), gd_n (by omega) (by decide), clN (by omega), clN (by omega), h _ (by omega), h _ (by omega)]
    by_cases k0 : k = 0
    · subst k0
      show _ = some (Sum.inl (nI (kExt H gr a 0), nI (a + 0 + 1)))
      have e2 : kExt H gr a (0 - 1) = a + 0 := rfl
      rw [e2]
      split <;> split <;> rfl
    · obtain ⟨j, rfl⟩ : ∃ j, k = j + 1 := ⟨k - 1, by omega⟩
      show _ = some (Sum.inl (nI (kExt H gr a (j + 1)), nI (a + (j + 1) + 1)))
      rw [show j + 1 - 1 = j by omega, show a + (j + 1) = a + j + 1 by omega]
      rw [kExt]
      by_cases c : gr = 0
      · rw [if_pos c, if_pos c]; split <;> rfl
      · rw [if_neg c, if_neg c]; split <;> rfl) (by
    dsimp only
    simp only [bl_X11_dayOf_6]
    rw [if_pos (nI_lt' (by omega) (by omega))]; rfl) BG (BG_lt (by omega))
  have e : (nI (kExt H gr a (0 - 1)), nI (a + 0)) = (nI a, nI a) := rfl
  rw [e] at hl
  rw [hl, bd_s]
theorem c_extremeDay {W : xM} {H : Nat → Int32} {a b : Nat} (hab : a ≤ b) (hb : b < 360) (h : ∀ d, d < 360 → W 12 (360 + d) = H d) (hbd : ∀ d, d < 360 → -60000000 ≤ (H d).toInt ∧ (H d).toInt ≤ 60000000) (gr : Int32) : f_X9_extremeDay W (nI a) (nI b) gr = some (nI (kExt H gr a (b - a))) := by
  simp only [f_X9_extremeDay, b_X9_extremeDay_0, b_X9_extremeDay_8, lt_d, nI_1]
  have hmod : ∀ d, d < 360 → f_X9_moneyOfDay W (nI d) = some (H d) := fun d hd => by
    simp only [f_X9_moneyOfDay, b_X9_moneyOfDay_0]
    rw [show (360 : Int32) + nI d = nI (360 + d) from nI_add 360 d, gd_n (by omega) (by decide), clN (by omega), h d hd]
  have hl := loopN_up (body := fun s : Int32 × Int32 => bl_X9_extremeDay_8 W (nI b) gr s.1 s.2) (r := nI (kExt H gr a (b - a))) (fun k => (nI (kExt H gr a k), nI (a + 1 + k))) (b - a) (fun k hk => by
    have hin := kExt_in H gr a k
    dsimp only
    simp only [bl_X9_extremeDay_8, b_X9_extremeDay_46, b_X9_extremeDay_50, lt_d, nI_1]
    rw [if_neg (nI_nl (by omega) (by omega)), hmod _ (by omega), bd_s, hmod _ (by omega), bd_s]
    have q1 := hbd (a + 1 + k) (by omega)
    have q2 := hbd (kExt H gr a k) (by omega)
    have hs : (H (a + 1 + k) - H (kExt H gr a k)).toInt = (H (a + 1 + k)).toInt - (H (kExt H gr a k)).toInt := i_sub (by omega) (by omega)
    show _ = some (Sum.inl (nI (kExt H gr a (k + 1)), nI (a + 1 + k + 1)))
    rw [kExt, show a + k + 1 = a + 1 + k by omega]
    by_cases c : gr = 0
    · rw [if_pos c, if_pos c]
      by_cases c2 : H (kExt H gr a k) ≤ H (a + 1 + k)
      · rw [if_pos c2, if_pos (by rw [i_le, i0, hs]; rw [i_le] at c2; omega)]
      · rw [if_neg c2, if_neg (by rw [i_le, i0, hs]; rw [i_le] at c2; omega)]
    · rw [if_neg c, if_neg c]
      by_cases c2 : H (a + 1 + k) ≤ H (kExt H gr a k)
      · rw [if_pos c2, if_pos (by rw [i_le, i0, hs]; rw [i_le] at c2; omega)]
      · rw [if_neg c2, if_neg (by rw [i_le, i0, hs]; rw [i_le] at c2; omega)]) (by
    dsimp only
    simp only [bl_X9_extremeDay_8]
    rw [if_pos (nI_lt' (by omega) (by omega))]) BG (BG_lt (by omega))
  have e : (nI (kExt H gr a 0), nI (a + 1 + 0)) = (nI a, nI (a + 1)) := rfl
  rw [e] at hl
  rw [hl, bd_s]
end
theorem c_account {M N : xM} (h : Rel M N) (w y a : Int32) : ∃ r M1 N1, f_X10_account M w y a = some (r, M1) ∧ f_X11_account N w y a = some (r, N1) ∧ SameM M M1 ∧ SameN N N1 := by
  obtain ⟨N1, e1, S, V, A, ng, nw, ne, no, B⟩ := h.th
  simp only [f_X10_account, b_X10_account_0, b_X10_account_18, b_X10_account_75, f_X11_account, b_X11_account_0, b_X11_account_32, b_X11_account_87, b_X11_account_154, lt_d, e1]
  rw [B.hW, B.iW, bd_s, bd_s, c_isYear, m_isYear, bd_s, bd_s, m_in1 N1 a 0 7 (by omega) (by omega) 0 7 (by decide) (by decide), bd_s]
  have R0 := SameM.rf M
  by_cases c : wP nw w
  rotate_left
  · rw [fp_f c, fp_f c]; exact ⟨_, _, _, rfl, rfl, R0, S⟩
  rw [fp_t c, fp_t c]
  by_cases c2 : yearP y
  rotate_left
  · rw [fp_f c2, fp_f c2]; exact ⟨_, _, _, rfl, rfl, R0, S⟩
  rw [fp_t c2, fp_t c2]
  have hb := B.bd
  obtain ⟨j, hj, rfl⟩ := wP_of (by omega) c
  obtain ⟨k, hk, rfl⟩ := yr_of c2
  obtain ⟨g, g1, g2, g3⟩ := B.g
  by_cases c3 : ((0 : Nat) : Int) ≤ a.toInt ∧ a.toInt ≤ ((7 : Nat) : Int)
  rotate_left
  · have ne' : ∀ n : Nat, n < 8 → ¬ a = nI n := fun n hn z => c3 (by rw [z, nI_toInt (by omega)]; omega)
    rw [fp_f c3, if_neg (show ¬ a = 0 from ne' 0 (by decide)), if_neg (show ¬ a = 1 from ne' 1 (by decide)), if_neg (show ¬ a = 2 from ne' 2 (by decide)), if_neg (show ¬ a = 3 from ne' 3 (by decide)), if_neg (show ¬ a = 4 from ne' 4 (by decide)), if_neg (show ¬ a = 5 from ne' 5 (by decide)), if_neg (show ¬ a = 6 from ne' 6 (by decide)), if_neg (show ¬ a = 7 from ne' 7 (by decide))]
    exact ⟨_, _, _, rfl, rfl, R0, S⟩
  rw [fp_t c3]
  obtain ⟨L, hL, SL, hA⟩ := B.lays
  have BL := B.sn SL
  rw [hL, bd_s, y359', y360', c_firstDay, c_lastDay, bd_s, bd_s]
  have dl : dayP (nI (360 * k + 359)) := ⟨by rw [nI_toInt (by omega)]; omega, by rw [nI_toInt (by omega)]; omega⟩
  obtain ⟨n, n1, rfl, n3⟩ := nI_of0 (a := a) (by omega)
  have n8 : n < 8 := by omega
  have hn : n = 0 ∨ n = 1 ∨ n = 2 ∨ n = 3 ∨ n = 4 ∨ n = 5 ∨ n = 6 ∨ n = 7 := by omega
  have part : ∀ n : Nat, (n = 1 ∨ n = 2 ∨ n = 3 ∨ n = 4) → ∃ r M1 N1, (bd (f_X1_partOf M (nI j) (nI (360 * k)) (nI (360 * k + 359)) (nI n)) fun r_5 => some (r_5, M)) = some (r, M1) ∧ (bd (f_X11_sumOf L (nI j) (nI (360 * k)) (nI (360 * k + 359)) (nI n)) fun r_27 => some (r_27, L)) = some (r, N1) ∧ SameM M M1 ∧ SameN N N1 := by
    intro n hn
    rw [c_partOf B.k, BL.rSum hA _ _ _ _ (by rcases hn with rfl | rfl | rfl | rfl; exact Or.inl rfl; exact Or.inr (Or.inl rfl); exact Or.inr (Or.inr (Or.inl rfl)); exact Or.inr (Or.inr (Or.inr rfl)))]
    exact ⟨_, _, _, rfl, rfl, R0, S.tr SL⟩
  obtain ⟨M1, m1, m2⟩ := c_chargeOf B hj hk g1 g2
  obtain ⟨L1, l1, l2, l3⟩ := m_chargeOf BL hj hk g1 g2
  have hA1 : ∀ i, i < ne → L1 8 i = A i := by
    rcases l3 with l3 | ⟨l3, -⟩
    · exact l3
    · rw [l3]; exact hA
  have BL1 := BL.sn l2
  have SL1 := (S.tr SL).tr l2
  rcases hn with rfl | rfl | rfl | rfl | rfl | rfl | rfl | rfl
  · rw [if_pos (show nI 0 = 0 from rfl), if_pos (show nI 0 = 0 from rfl)]
    simp only [f_X10_carriedInto, b_X10_carriedInto_0]
    by_cases k0 : k = 0
    · subst k0
      rw [if_pos (show nI 0 = 0 from rfl), if_pos (show nI 0 = 0 from rfl)]
      exact ⟨_, _, _, rfl, rfl, R0, S.tr SL⟩
    · have dm : dayP (nI (360 * k - 1)) := ⟨by rw [nI_toInt (by omega)]; omega, by rw [nI_toInt (by omega)]; omega⟩
      rw [if_neg (nI_n0 (by omega) (by omega)), if_neg (nI_n0 (by omega) (by omega)), c_firstDay, bd_s, show nI (360 * k) - 1 = nI (360 * k - 1) from nI_sub (360 * k) 1 (by omega), show nI k - 1 = nI (k - 1) from nI_sub k 1 (by omega), c_moneyOn B.k hj dm, bd_s, gd_n (by omega) (by decide), clN (by omega), c_broughtBy B.k hj (by omega), BL.rMoney hA hj dm, bd_s, BL.rBr hj (by omega)]
      exact ⟨_, _, _, rfl, rfl, R0, S.tr SL⟩
  · rw [if_neg (show ¬ nI 1 = 0 by decide), if_pos (show nI 1 = 1 from rfl), if_neg (show ¬ nI 1 = 0 by decide), if_neg (show ¬ (5 : Int32) ≤ nI 1 by decide)]
    exact part 1 (by omega)
  · rw [if_neg (show ¬ nI 2 = 0 by decide), if_neg (show ¬ nI 2 = 1 by decide), if_pos (show nI 2 = 2 from rfl), if_neg (show ¬ nI 2 = 0 by decide), if_neg (show ¬ (5 : Int32) ≤ nI 2 by decide)]
    exact part 2 (by omega)
  · rw [if_neg (show ¬ nI 3 = 0 by decide), if_neg (show ¬ nI 3 = 1 by decide), if_neg (show ¬ nI 3 = 2 by decide), if_pos (show nI 3 = 3 from rfl), if_neg (show ¬ nI 3 = 0 by decide), if_neg (show ¬ (5 : Int32) ≤ nI 3 by decide)]
    exact part 3 (by omega)
  · rw [if_neg (show ¬ nI 4 = 0 by decide), if_neg (show ¬ nI 4 = 1 by decide), if_neg (show ¬ nI 4 = 2 by decide), if_neg (show ¬ nI 4 = 3 by decide), if_pos (show nI 4 = 4 from rfl), if_neg (show ¬ nI 4 = 0 by decide), if_neg (show ¬ (5 : Int32) ≤ nI 4 by decide)]
    exact part 4 (by omega)
  · rw [if_neg (show ¬ nI 5 = 0 by decide), if_neg (show ¬ nI 5 = 1 by decide), if_neg (show ¬ nI 5 = 2 by decide), if_neg (show ¬ nI 5 = 3 by decide), if_neg (show ¬ nI 5 = 4 by decide), if_pos (show nI 5 = 5 from rfl), if_neg (show ¬ nI 5 = 0 by decide), if_pos (show (5 : Int32) ≤ nI 5 by decide), m1, l1, bd2_s, bd2_s, BL1.rComm hj hk, bd_s, if_pos (show nI 5 = 5 from rfl)]
    exact ⟨_, _, _, rfl, rfl, m2, SL1⟩
  · rw [if_neg (show ¬ nI 6 = 0 by decide), if_neg (show ¬ nI 6 = 1 by decide), if_neg (show ¬ nI 6 = 2 by decide), if_neg (show ¬ nI 6 = 3 by decide), if_neg (show ¬ nI 6 = 4 by decide), if_neg (show ¬ nI 6 = 5 by decide), if_pos (show nI 6 = 6 from rfl), if_neg (show ¬ nI 6 = 0 by decide), if_pos (show (5 : Int32) ≤ nI 6 by decide), l1, bd2_s, BL1.rComm hj hk, bd_s, if_neg (show ¬ nI 6 = 5 by decide), if_pos (show nI 6 = 6 from rfl), c_commissionOf B hj hk, bd_s]
    exact ⟨_, _, _, rfl, rfl, R0, SL1⟩
  · rw [if_neg (show ¬ nI 7 = 0 by decide), if_neg (show ¬ nI 7 = 1 by decide), if_neg (show ¬ nI 7 = 2 by decide), if_neg (show ¬ nI 7 = 3 by decide), if_neg (show ¬ nI 7 = 4 by decide), if_neg (show ¬ nI 7 = 5 by decide), if_neg (show ¬ nI 7 = 6 by decide), if_pos (show nI 7 = 7 from rfl), if_neg (show ¬ nI 7 = 0 by decide), if_pos (show (5 : Int32) ≤ nI 7 by decide), l1, bd2_s, BL1.rComm hj hk, bd_s, bd_s, if_neg (show ¬ nI 7 = 5 by decide), if_neg (show ¬ nI 7 = 6 by decide), BL1.rMoney hA1 hj dl, bd_s, c_moneyOn B.k hj dl, bd_s, m1, bd2_s, c_commissionOf (B.sm m2) hj hk, bd_s, m2 18 (by decide) (by decide) (by decide) (by decide)]
    exact ⟨_, _, _, rfl, rfl, m2, SL1⟩
