/-! month, extreme -/
theorem i30 (m : Nat) : nI m * (30 : Int32) = nI (30 * m) := by
  rw [show (30 : Int32) = nI 30 from rfl, pk_mul, Nat.mul_comm]
theorem i30' (m : Nat) : (30 : Int32) * nI m = nI (30 * m) := pk_mul 30 m
theorem c_month {M N : xM} (h : Rel M N) (w m a : Int32) : ∃ r M1 N1, f_X10_month M w m a = some (r, M1) ∧ f_X11_month N w m a = some (r, N1) ∧ SameM M M1 ∧ SameN N N1 := by
  obtain ⟨N1, e1, S, V, A, ng, nw, ne, no, B⟩ := h.th
  simp only [f_X10_month, b_X10_month_0, b_X10_month_21, b_X10_month_100, b_X10_month_148, f_X11_month, b_X11_month_0, b_X11_month_37, b_X11_month_101, b_X11_month_106, lt_d, e1]
  rw [B.hW, B.iW, bd_s, bd_s, m_in1 N1 m 0 119 (by omega) (by omega) 0 119 (by decide) (by decide), bd_s, m_in1 N1 a 0 3 (by omega) (by omega) 0 3 (by decide) (by decide), bd_s]
  have R0 := SameM.rf M
  have e120 : (120 : Int32).toInt = 120 := by decide
  by_cases c : wP nw w
  rotate_left
  · rw [fp_f c, fp_f c]; exact ⟨_, _, _, rfl, rfl, R0, S⟩
  rw [fp_t c, fp_t c]
  by_cases c2 : ((0 : Nat) : Int) ≤ m.toInt ∧ m.toInt ≤ ((119 : Nat) : Int)
  rotate_left
  · rw [fp_f c2]
    by_cases c3 : m < 0
    · rw [if_pos c3]; exact ⟨_, _, _, rfl, rfl, R0, S⟩
    · rw [if_neg c3, if_neg (fun z => by rw [i_lt, i0] at c3; rw [i_lt, e120] at z; omega)]; exact ⟨_, _, _, rfl, rfl, R0, S⟩
  rw [fp_t c2, if_neg (show ¬ m < 0 by rw [i_lt, i0]; omega), if_pos (show m < 120 by rw [i_lt, e120]; omega)]
  have hb := B.bd
  obtain ⟨j, hj, rfl⟩ := wP_of (by omega) c
  obtain ⟨m', m1, rfl, m3⟩ := nI_of0 (a := m) (by omega)
  have hm : m' < 120 := by omega
  obtain ⟨g, g1, g2, g3⟩ := B.g
  by_cases c3 : ((0 : Nat) : Int) ≤ a.toInt ∧ a.toInt ≤ ((3 : Nat) : Int)
  rotate_left
  · have ne' : ∀ n : Nat, n < 4 → ¬ a = nI n := fun n hn z => c3 (by rw [z, nI_toInt (by omega)]; omega)
    rw [fp_f c3, if_neg (show ¬ a = 0 from ne' 0 (by decide)), if_neg (show ¬ a = 1 from ne' 1 (by decide)), if_neg (show ¬ a = 2 from ne' 2 (by decide)), if_neg (show ¬ a = 3 from ne' 3 (by decide))]
    exact ⟨_, _, _, rfl, rfl, R0, S⟩
  obtain ⟨L, hL, SL, hA, hm9⟩ := m_laysMoney B hj
  have BL := B.sn SL
  have S2 := S.tr SL
  have e29 : nI (30 * m') + (29 : Int32) = nI (30 * m' + 29) := nI_add _ 29
  have e30 : nI (30 * m') + (30 : Int32) - 1 = nI (30 * m' + 29) := by
    rw [show nI (30 * m') + (30 : Int32) = nI (30 * m' + 30) from nI_add _ 30, show nI (30 * m' + 30) - (1 : Int32) = nI (30 * m' + 30 - 1) from nI_sub _ 1 (by omega)]
    rfl
  rw [fp_t c3, hL, bd_s, i30, i30', e29, e30]
  obtain ⟨n, n1, rfl, n3⟩ := nI_of0 (a := a) (by omega)
  have hn : n = 0 ∨ n = 1 ∨ n = 2 ∨ n = 3 := by omega
  have hH : ∀ d, d < 3600 → L 9 (360 + d) = mD V A ne j (360 + d) := fun d hd => hm9 _ (by omega)
  have hd := m_dayOf (L := L) (H := fun d => mD V A ne j (360 + d)) (a := 30 * m') (b := 30 * m' + 29) (by omega) (by omega) hH
  have big : ∀ gr : Int32, ∃ r M1 N1, (bd (f_X9_look M (nI j) (nI (30 * m') / (360 : Int32))) fun M_3 => bd (f_X9_extremeDay M_3 (nI (30 * m') - nI (30 * m') / (360 : Int32) * (360 : Int32)) (nI (30 * m' + 29) - nI (30 * m' + 29) / (360 : Int32) * (360 : Int32)) gr) fun r_1 => bd (f_X9_moneyOfDay M_3 r_1) fun r_3 => some (r_3, M_3)) = some (r, M1) ∧ (bd (f_X11_dayOf L (nI (30 * m')) (nI (30 * m' + 29)) gr) fun r_1 => gd ((360 : Int32) + r_1) 3960 (some (L 9 ((360 : Int32) + r_1).toNatClampNeg, L))) = some (r, N1) ∧ SameM M M1 ∧ SameN N N1 := by
    intro gr
    rw [nI_mod _ (by omega), nI_mod _ (by omega), nI_div _ (by omega)]
    obtain ⟨W, w1, w2, w3, w4⟩ := c_look B hj (y := 30 * m' / 360) (by omega) g1 g2
    rw [w1, bd_s]
    have q1 : (30 * m' + 29) % 360 = 30 * m' % 360 + 29 := by omega
    have hx := c_extremeDay (W := W) (H := fun i => mD V A ne j (360 + (360 * (30 * m' / 360) + i))) (a := 30 * m' % 360) (b := 30 * m' % 360 + 29) (by omega) (by omega) (fun d hd => by
      show W 12 (360 + d) = mD V A ne j (360 + (360 * (30 * m' / 360) + d))
      rw [w3 _ (by omega), show 360 * (30 * m' / 360) + (360 + d) = 360 + (360 * (30 * m' / 360) + d) by omega]) (fun d hd => B.mD_bd hj _) gr
    rw [q1, hx, bd_s, hd gr, bd_s]
    have hin := kExt_in (fun i => mD V A ne j (360 + (360 * (30 * m' / 360) + i))) gr (30 * m' % 360) (30 * m' % 360 + 29 - 30 * m' % 360)
    have hsh := kExt_sh (H := fun i => mD V A ne j (360 + (360 * (30 * m' / 360) + i))) (H' := fun d => mD V A ne j (360 + d)) (c := 360 * (30 * m' / 360)) gr (30 * m' % 360) (30 * m' % 360 + 29 - 30 * m' % 360) (fun i hi => rfl)
    rw [show 360 * (30 * m' / 360) + 30 * m' % 360 = 30 * m' by omega, show 30 * m' % 360 + 29 - 30 * m' % 360 = 29 by omega] at hsh
    rw [show 30 * m' % 360 + 29 - 30 * m' % 360 = 29 by omega] at hin ⊢
    rw [show 30 * m' + 29 - 30 * m' = 29 by omega, ← hsh]
    generalize kExt (fun i => mD V A ne j (360 + (360 * (30 * m' / 360) + i))) gr (30 * m' % 360) 29 = x at hin
    simp only [f_X9_moneyOfDay, b_X9_moneyOfDay_0]
    rw [show (360 : Int32) + nI x = nI (360 + x) from nI_add 360 x, gd_n (by omega) (by decide), clN (by omega), bd_s, show (360 : Int32) + nI (360 * (30 * m' / 360) + x) = nI (360 + (360 * (30 * m' / 360) + x)) from nI_add 360 _, gd_n (by omega) (by decide), clN (by omega), hH _ (by omega), w3 _ (by omega), show 360 * (30 * m' / 360) + (360 + x) = 360 + (360 * (30 * m' / 360) + x) by omega]
    exact ⟨_, _, _, rfl, rfl, w2, S2⟩
  rcases hn with rfl | rfl | rfl | rfl
  · rw [if_pos (show nI 0 = 0 from rfl), if_neg (show ¬ (2 : Int32) ≤ nI 0 by decide), c_partOf B.k, bd_s, show nI 0 + (1 : Int32) = 1 from rfl, BL.rSum hA _ _ _ _ (Or.inl rfl)]
    exact ⟨_, _, _, rfl, rfl, R0, S2⟩
  · rw [if_neg (show ¬ nI 1 = 0 by decide), if_pos (show nI 1 = 1 from rfl), if_neg (show ¬ (2 : Int32) ≤ nI 1 by decide), c_partOf B.k, bd_s, show nI 1 + (1 : Int32) = 2 from rfl, BL.rSum hA _ _ _ _ (Or.inr (Or.inl rfl))]
    exact ⟨_, _, _, rfl, rfl, R0, S2⟩
  · rw [if_neg (show ¬ nI 2 = 0 by decide), if_neg (show ¬ nI 2 = 1 by decide), if_pos (show nI 2 = 2 from rfl), if_pos (show (2 : Int32) ≤ nI 2 by decide)]
    simp only [show ¬ nI 2 = 3 by decide, if_false]
    exact big 0
  · rw [if_neg (show ¬ nI 3 = 0 by decide), if_neg (show ¬ nI 3 = 1 by decide), if_neg (show ¬ nI 3 = 2 by decide), if_pos (show nI 3 = 3 from rfl), if_pos (show (2 : Int32) ≤ nI 3 by decide)]
    simp only [show nI 3 = 3 from rfl, if_true]
    exact big 1
def kCnt (P : Nat → Prop) [DecidablePred P] (n : Nat) : Int32 := sI (fun i => if P i then 1 else 0) n
theorem accB {body : Int32 × Int32 → Option ((Int32 × Int32) ⊕ Int32)} (f : Nat → Int32) (b n : Nat) (hn : n < 100000) (hs : ∀ i x, i < n → body (x, nI (b + i)) = some (.inl (x + f i, nI (b + i + 1)))) (he : ∀ x, body (x, nI (b + n)) = some (.inr x)) : loopN body BG (0, nI b) = some (sI f n) :=
  loopN_up (body := body) (r := sI f n) (fun k => (sI f k, nI (b + k))) n (fun i hi => by rw [hs i _ hi, sI]; rfl) (he _) BG (BG_lt hn)
theorem c_extreme {M N : xM} (h : Rel M N) (w y a : Int32) : ∃ r M1 N1, f_X10_extreme M w y a = some (r, M1) ∧ f_X11_extreme N w y a = some (r, N1) ∧ SameM M M1 ∧ SameN N N1 := by
  obtain ⟨N1, e1, S, V, A, ng, nw, ne, no, B⟩ := h.th
  simp only [f_X10_extreme, b_X10_extreme_0, b_X10_extreme_18, f_X11_extreme, b_X11_extreme_0, b_X11_extreme_32, b_X11_extreme_77, b_X11_extreme_96, lt_d, e1]
  rw [B.hW, B.iW, bd_s, bd_s, c_isYear, m_isYear, bd_s, bd_s, m_in1 N1 a 0 3 (by omega) (by omega) 0 3 (by decide) (by decide), bd_s]
  have R0 := SameM.rf M
  by_cases c : wP nw w
  rotate_left
  · rw [fp_f c, fp_f c]; exact ⟨_, _, _, rfl, rfl, R0, S⟩
  rw [fp_t c, fp_t c]
  by_cases c2 : yearP y
  rotate_left
  · rw [fp_f c2, fp_f c2]; exact ⟨_, _, _, rfl, rfl, R0, S⟩
  rw [fp_t c2, fp_t c2]
  have hb := B.bd
  obtain ⟨j, hj, rfl⟩ := wP_of (by omega) c
  obtain ⟨k, hk, rfl⟩ := yr_of c2
  obtain ⟨g, g1, g2, g3⟩ := B.g
  obtain ⟨W, w1, w2, w3, w4⟩ := c_look B hj hk g1 g2
  rw [w1, bd_s]
  by_cases c3 : ((0 : Nat) : Int) ≤ a.toInt ∧ a.toInt ≤ ((3 : Nat) : Int)
  rotate_left
  · have ne' : ∀ n : Nat, n < 4 → ¬ a = nI n := fun n hn z => c3 (by rw [z, nI_toInt (by omega)]; omega)
    rw [fp_f c3, if_neg (show ¬ a = 0 from ne' 0 (by decide)), if_neg (show ¬ a = 1 from ne' 1 (by decide)), if_neg (show ¬ a = 2 from ne' 2 (by decide)), if_neg (show ¬ a = 3 from ne' 3 (by decide))]
    exact ⟨_, _, _, rfl, rfl, w2, S⟩
  obtain ⟨L, hL, SL, hA, hm9⟩ := m_laysMoney B hj
  have BL := B.sn SL
  have S2 := S.tr SL
  rw [fp_t c3, hL, bd_s, y359', y360', c_firstDay, bd_s, bd_s]
  obtain ⟨n, n1, rfl, n3⟩ := nI_of0 (a := a) (by omega)
  have hn : n = 0 ∨ n = 1 ∨ n = 2 ∨ n = 3 := by omega
  have hH : ∀ d, d < 3600 → L 9 (360 + d) = mD V A ne j (360 + d) := fun d hd => hm9 _ (by omega)
  have hd := m_dayOf (L := L) (H := fun d => mD V A ne j (360 + d)) (a := 360 * k) (b := 360 * k + 359) (by omega) (by omega) hH
  have hx := c_extremeDay (W := W) (H := fun i => mD V A ne j (360 + (360 * k + i))) (a := 0) (b := 359) (by omega) (by omega) (fun d hd => by
    show W 12 (360 + d) = mD V A ne j (360 + (360 * k + d))
    rw [w3 _ (by omega), show 360 * k + (360 + d) = 360 + (360 * k + d) by omega]) (fun d hd => B.mD_bd hj _)
  have hsh := fun gr => kExt_sh (H := fun i => mD V A ne j (360 + (360 * k + i))) (H' := fun d => mD V A ne j (360 + d)) (c := 360 * k) gr 0 359 (fun i hi => rfl)
  have h0 : (0 : Int32) = nI 0 := rfl
  have big : ∀ gr : Int32, ∃ r M1 N1, (bd (f_X9_extremeDay W 0 359 gr) fun r_13 => some (nI (360 * k) + r_13, W)) = some (r, M1) ∧ (bd (f_X11_dayOf L (nI (360 * k)) (nI (360 * k + 359)) gr) fun r_1 => some (r_1, L)) = some (r, N1) ∧ SameM M M1 ∧ SameN N N1 := by
    intro gr
    rw [show f_X9_extremeDay W 0 359 gr = _ from hx gr, hd gr, bd_s, bd_s, nI_add, hsh gr, show 360 * k + 359 - 360 * k = 359 by omega]
    exact ⟨_, _, _, rfl, rfl, w2, S2⟩
  rcases hn with rfl | rfl | rfl | rfl
  · rw [if_pos (show nI 0 = 0 from rfl), if_neg (show ¬ (2 : Int32) ≤ nI 0 by decide), if_pos (show nI 0 = 0 from rfl)]
    exact big 1
  · rw [if_neg (show ¬ nI 1 = 0 by decide), if_pos (show nI 1 = 1 from rfl), if_neg (show ¬ (2 : Int32) ≤ nI 1 by decide), if_neg (show ¬ nI 1 = 0 by decide)]
    exact big 0
  · rw [if_neg (show ¬ nI 2 = 0 by decide), if_neg (show ¬ nI 2 = 1 by decide), if_pos (show nI 2 = 2 from rfl), if_pos (show (2 : Int32) ≤ nI 2 by decide)]
    have e2 := (B.2.2.2 2 (by decide)).1
    have s3 : L 3 = N1 3 := SL.2.2.2.2.1
    obtain ⟨W2, x1, x2, x3⟩ := m_laysIdle (W0 := L) (f := mD V A ne j) g1 (by rw [s3, ← e2]; exact g2) (a0 := 360 * k) (b0 := 360 * k + 359) (by omega) (by omega) hm9
    rw [x1, bd_s]
    simp only [f_X9_daysBelowNought, b_X9_daysBelowNought_0, b_X9_daysBelowNought_4]
    have l1 := accB (body := fun s : Int32 × Int32 => bl_X9_daysBelowNought_4 W s.1 s.2) (fun i => if mD V A ne j (360 + (360 * k + i)) < 0 then 1 else 0) 0 360 (by omega) (fun i x hi => by
      simp only [bl_X9_daysBelowNought_4, b_X9_daysBelowNought_22, f_X9_moneyOfDay, b_X9_moneyOfDay_0, lt_d]
      rw [Nat.zero_add, if_neg (show ¬ (360 : Int32) ≤ nI i from nI_ge (b := 360) hi (by omega)), show (360 : Int32) + nI i = nI (360 + i) from nI_add 360 i, gd_n (by omega) (by decide), clN (by omega), bd_s, w3 _ (by omega), nI_1, show 360 * k + (360 + i) = 360 + (360 * k + i) by omega]
      by_cases q : mD V A ne j (360 + (360 * k + i)) < 0
      · rw [if_pos q, if_neg (fun z => by rw [i_lt] at q; rw [i_le] at z; omega)]
      · rw [if_neg q, if_pos (by rw [i_lt] at q; rw [i_le]; omega), Int32.add_zero]) (fun x => by
      simp only [bl_X9_daysBelowNought_4]
      rw [if_pos (show (360 : Int32) ≤ nI (0 + 360) from Int32.le_refl _)])
    have l2 := accB (body := fun s : Int32 × Int32 => bl_X11_extreme_96 W2 (nI 2) (nI (360 * k + 359)) s.1 s.2) (fun i => if mD V A ne j (360 + (360 * k + i)) < 0 then 1 else 0) (360 * k) 360 (by omega) (fun i x hi => by
      simp only [bl_X11_extreme_96, b_X11_extreme_124, b_X11_extreme_139, b_X11_extreme_143, b_X11_extreme_144, lt_d]
      rw [if_neg (nI_nl (by omega) (by omega)), if_pos (show nI 2 = 2 from rfl), if_neg (show ¬ nI 2 = 3 by decide), show (360 : Int32) + nI (360 * k + i) = nI (360 + (360 * k + i)) from nI_add 360 _, gd_n (by omega) (by decide), clN (by omega), x2 9 (by decide) (by decide), hm9 _ (by omega), nI_1]
      split <;> rfl) (fun x => by
      simp only [bl_X11_extreme_96]
      rw [if_pos (nI_lt' (by omega) (by omega))])
    rw [show ((0 : Int32), (0 : Int32)) = (0, nI 0) from rfl, l1, l2, bd_s, bd_s, bd_s]
    exact ⟨_, _, _, rfl, rfl, w2, S2.r1011 x2⟩
  · rw [if_neg (show ¬ nI 3 = 0 by decide), if_neg (show ¬ nI 3 = 1 by decide), if_neg (show ¬ nI 3 = 2 by decide), if_pos (show nI 3 = 3 from rfl), if_pos (show (2 : Int32) ≤ nI 3 by decide)]
    have e2 := (B.2.2.2 2 (by decide)).1
    have e3 := (B.2.2.2 3 (by decide)).1
    have s3 : L 3 = N1 3 := SL.2.2.2.2.1
    obtain ⟨W2, x1, x2, x3⟩ := m_laysIdle (W0 := L) (f := mD V A ne j) g1 (by rw [s3, ← e2]; exact g2) (a0 := 360 * k) (b0 := 360 * k + 359) (by omega) (by omega) hm9
    rw [x1, bd_s]
    rw [s3, ← e3] at x3
    simp only [f_X9_daysIdle, b_X9_daysIdle_0, b_X9_daysIdle_4]
    have l1 := accB (body := fun s : Int32 × Int32 => bl_X9_daysIdle_4 W s.1 s.2) (fun i => if kIdle (mD V A ne j) g (M 18 3) (360 * k + 360 + i) ≤ 0 then 0 else 1) 0 360 (by omega) (fun i x hi => by
      simp only [bl_X9_daysIdle_4, b_X9_daysIdle_23, lt_d]
      rw [Nat.zero_add, if_neg (show ¬ (360 : Int32) ≤ nI i from nI_ge (b := 360) hi (by omega)), gd_n (by omega) (by decide), clN (by omega), w4 _ hi, nI_1]
      split
      · rw [Int32.add_zero]
      · rfl) (fun x => by
      simp only [bl_X9_daysIdle_4]
      rw [if_pos (show (360 : Int32) ≤ nI (0 + 360) from Int32.le_refl _)])
    have l2 := accB (body := fun s : Int32 × Int32 => bl_X11_extreme_96 W2 (nI 3) (nI (360 * k + 359)) s.1 s.2) (fun i => if kIdle (mD V A ne j) g (M 18 3) (360 * k + 360 + i) ≤ 0 then 0 else 1) (360 * k) 360 (by omega) (fun i x hi => by
      simp only [bl_X11_extreme_96, b_X11_extreme_124, b_X11_extreme_139, b_X11_extreme_143, b_X11_extreme_144, lt_d]
      rw [if_neg (nI_nl (by omega) (by omega)), if_neg (show ¬ nI 3 = 2 by decide), if_pos (show nI 3 = 3 from rfl), gd_n (by omega) (by decide), clN (by omega), x3 _ (by omega) (by omega), nI_1, show 360 + (360 * k + i) = 360 * k + 360 + i by omega]
      split <;> rfl) (fun x => by
      simp only [bl_X11_extreme_96]
      rw [if_pos (nI_lt' (by omega) (by omega))])
    rw [show ((0 : Int32), (0 : Int32)) = (0, nI 0) from rfl, l1, l2, bd_s, bd_s, bd_s]
    exact ⟨_, _, _, rfl, rfl, w2, S2.r1011 x2⟩
