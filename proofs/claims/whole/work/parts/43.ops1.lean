/-! operations that read: money, out, due, allowance, payment, whose, wardOf, ofAge, commission -/
theorem Rel.th {M N : xM} (h : Rel M N) : ∃ N1, uM N 0 0 0 = N1 ∧ SameN N N1 ∧ ∃ V A ng nw ne no, BB M N1 V A ng nw ne no := ⟨_, rfl, SameN.th N 0, (h.sn (SameN.th N 0)).bb⟩
theorem c_money {M N : xM} (h : Rel M N) (w d : Int32) : ∃ r N1, f_X10_money M w d = some r ∧ f_X11_money N w d = some (r, N1) ∧ SameN N N1 := by
  obtain ⟨N1, e1, S, V, A, ng, nw, ne, no, B⟩ := h.th
  simp only [f_X10_money, b_X10_money_0, b_X10_money_30, b_X10_money_32, f_X11_money, b_X11_money_0, b_X11_money_20, lt_d, e1]
  rw [B.hW, B.iW, bd_s, bd_s, c_isDay, m_isDay, bd_s, bd_s]
  by_cases c : wP nw w
  rotate_left
  · rw [fp_f c, fp_f c]; exact ⟨_, _, rfl, rfl, S⟩
  rw [fp_t c, fp_t c]
  by_cases c2 : dayP d
  rotate_left
  · rw [fp_f c2, fp_f c2]; exact ⟨_, _, rfl, rfl, S⟩
  rw [fp_t c2, fp_t c2]
  have hb := B.bd
  obtain ⟨j, hj, rfl⟩ := wP_of (by omega) c
  obtain ⟨L, hL, SL, hA⟩ := B.lays
  rw [c_moneyOn B.k hj c2, hL, bd_s, bd_s, (B.sn SL).rMoney hA hj c2]
  exact ⟨_, _, rfl, rfl, S.tr SL⟩
theorem c_out {M N : xM} (h : Rel M N) (w d : Int32) : ∃ r N1, f_X10_out M w d = some r ∧ f_X11_out N w d = some (r, N1) ∧ SameN N N1 := by
  obtain ⟨N1, e1, S, V, A, ng, nw, ne, no, B⟩ := h.th
  simp only [f_X10_out, b_X10_out_0, b_X10_out_30, b_X10_out_32, f_X11_out, b_X11_out_0, b_X11_out_29, b_X11_out_32, lt_d, e1]
  rw [B.hW, B.iW, bd_s, bd_s, c_isDay, m_isDay, bd_s, bd_s]
  by_cases c : wP nw w
  rotate_left
  · rw [fp_f c, fp_f c]; exact ⟨_, _, rfl, rfl, S⟩
  rw [fp_t c, fp_t c]
  by_cases c2 : dayP d
  rotate_left
  · rw [fp_f c2, fp_f c2]; exact ⟨_, _, rfl, rfl, S⟩
  rw [fp_t c2, fp_t c2]
  have hb := B.bd
  obtain ⟨j, hj, rfl⟩ := wP_of (by omega) c
  rw [c_outOn B.k j, B.rOut j]
  exact ⟨_, _, rfl, rfl, S⟩
theorem d3599 : dayP (3599 : Int32) := ⟨by decide, by decide⟩
theorem BB.due {M N : xM} {V A : Nat → Int32} {ng nw ne no : Nat} (B : BB M N V A ng nw ne no) {w : Nat} (hw : w < nw) : ∃ L, f_X11_dueOf N (nI w) = some (kEstOn V A ne w 3599, L) ∧ SameN N L := by
  obtain ⟨L, hL, SL, hA⟩ := B.lays
  simp only [f_X11_dueOf, b_X11_dueOf_0]
  rw [hL, bd_s, (B.sn SL).rMoney hA hw d3599, bd_s, (B.sn SL).rOut w, bd_s]
  refine ⟨L, ?_, SL⟩
  unfold kMoneyOn
  rw [Int32.sub_eq_add_neg, Int32.add_assoc, Int32.add_left_neg, Int32.add_zero]
theorem c_due {M N : xM} (h : Rel M N) (w : Int32) : ∃ r N1, f_X10_due M w = some r ∧ f_X11_due N w = some (r, N1) ∧ SameN N N1 := by
  obtain ⟨N1, e1, S, V, A, ng, nw, ne, no, B⟩ := h.th
  simp only [f_X10_due, b_X10_due_0, b_X10_due_27, f_X11_due, b_X11_due_0, b_X11_due_24, lt_d, e1]
  rw [B.hW, B.iW, bd_s, bd_s]
  by_cases c : wP nw w
  rotate_left
  · rw [fp_f c, fp_f c]; exact ⟨_, _, rfl, rfl, S⟩
  rw [fp_t c, fp_t c]
  have hb := B.bd
  obtain ⟨j, hj, rfl⟩ := wP_of (by omega) c
  obtain ⟨L, hL, SL⟩ := B.due hj
  rw [c_estateOn B.k hj d3599, hL, bd_s, bd2_s]
  exact ⟨_, _, rfl, rfl, S.tr SL⟩
theorem m_in1 (N : xM) (v : Int32) (a b : Nat) (ha : a < 2147483648) (hb : b < 2147483648) (la lb : Int64) (ea : la.toInt = a) (eb : lb.toInt = b) : f_X11_in N v.toInt64 la lb = some (pI ((a : Int) ≤ v.toInt ∧ v.toInt ≤ b)) := by
  rw [m_in, i_l, ea, eb]
theorem yr_of {y : Int32} (h : yearP y) : ∃ n, n < 10 ∧ y = nI n := by
  obtain ⟨j, h1, h2, h3⟩ := nI_of0 h.1
  have := h.2
  exact ⟨j, by omega, h2⟩
theorem c_allowance {M N : xM} (h : Rel M N) (w k y : Int32) : ∃ r N1, f_X10_allowance M w k y = some r ∧ f_X11_allowance N w k y = some (r, N1) ∧ SameN N N1 := by
  obtain ⟨N1, e1, S, V, A, ng, nw, ne, no, B⟩ := h.th
  simp only [f_X10_allowance, b_X10_allowance_0, b_X10_allowance_27, f_X11_allowance, b_X11_allowance_0, b_X11_allowance_40, b_X11_allowance_43, lt_d, e1]
  rw [B.hW, B.iW, bd_s, bd_s, c_isYear, m_isYear, bd_s, bd_s, m_in1 N1 k 0 1 (by omega) (by omega) 0 1 (by decide) (by decide), bd_s]
  by_cases c : wP nw w
  rotate_left
  · rw [fp_f c, fp_f c]; exact ⟨_, _, rfl, rfl, S⟩
  rw [fp_t c, fp_t c]
  have e2 : (2 : Int32).toInt = 2 := by decide
  by_cases c3 : ((0 : Nat) : Int) ≤ k.toInt ∧ k.toInt ≤ ((1 : Nat) : Int)
  rotate_left
  · rw [fp_f c3]
    by_cases c4 : k < 0
    · rw [if_pos c4]; exact ⟨_, _, rfl, rfl, S⟩
    · rw [if_neg c4, if_pos (by rw [i_le, e2]; rw [i_lt, i0] at c4; omega)]; exact ⟨_, _, rfl, rfl, S⟩
  rw [fp_t c3, if_neg (by rw [i_lt, i0]; omega), if_neg (by rw [i_le, e2]; omega)]
  by_cases c2 : yearP y
  rotate_left
  · rw [fp_f c2, fp_f c2]; exact ⟨_, _, rfl, rfl, S⟩
  rw [fp_t c2, fp_t c2]
  have hb := B.bd
  obtain ⟨j, hj, rfl⟩ := yr_of c2
  have hv := B.1
  subst hv
  rw [c_alnc B.k.2.1 hb.2.2.2 B.wf.fo hj, m_alnc N1 B.wf.c.2.2.2.1 hb.2.2.2 B.wf.fo hj]
  exact ⟨_, _, rfl, rfl, S⟩
theorem c_whose {M N : xM} (h : Rel M N) (w d : Int32) : ∃ r N1, f_X10_whose M w d = some r ∧ f_X11_whose N w d = some (r, N1) ∧ SameN N N1 := by
  obtain ⟨N1, e1, S, V, A, ng, nw, ne, no, B⟩ := h.th
  simp only [f_X10_whose, b_X10_whose_0, b_X10_whose_34, b_X10_whose_35, f_X11_whose, b_X11_whose_0, b_X11_whose_29, b_X11_whose_30, lt_d, e1]
  rw [B.hW, B.iW, bd_s, bd_s, c_isDay, m_isDay, bd_s, bd_s]
  by_cases c : wP nw w
  rotate_left
  · rw [fp_f c, fp_f c]; exact ⟨_, _, rfl, rfl, S⟩
  rw [fp_t c, fp_t c]
  by_cases c2 : dayP d
  rotate_left
  · rw [fp_f c2, fp_f c2]; exact ⟨_, _, rfl, rfl, S⟩
  rw [fp_t c2, fp_t c2]
  have hb := B.bd
  obtain ⟨j, hj, rfl⟩ := wP_of (by omega) c
  rw [gd_n (by omega) (by decide), clN (by omega), c_guardianOn B.k hj, B.rGuard hj]
  exact ⟨_, _, rfl, rfl, S⟩
theorem c_wardOf {M N : xM} (h : Rel M N) (w a : Int32) : ∃ r N1, f_X10_wardOf M w a = some r ∧ f_X11_wardOf N w a = some (r, N1) ∧ SameN N N1 := by
  obtain ⟨N1, e1, S, V, A, ng, nw, ne, no, B⟩ := h.th
  simp only [f_X10_wardOf, b_X10_wardOf_0, b_X10_wardOf_78, f_X11_wardOf, b_X11_wardOf_0, lt_d, e1]
  rw [B.hW, B.iW, bd_s, bd_s]
  by_cases c : wP nw w
  rotate_left
  · rw [fp_f c, fp_f c]; exact ⟨_, _, rfl, rfl, S⟩
  rw [fp_t c, fp_t c]
  have hb := B.bd
  obtain ⟨j, hj, rfl⟩ := wP_of (by omega) c
  obtain ⟨b0, b1, b2, b3, b4, -⟩ := B.k.w hj
  obtain ⟨-, -, -, -, hs⟩ := B.wf.w hj
  rw [gd_n (by omega) (by decide), clN (by omega), b0, b3, b4, b2, B.its 0 hj 0 (by decide) rfl, B.its 15 hj 15 (by decide) rfl, B.its 36 hj 36 (by decide) rfl, B.its 2 hj 2 (by decide) rfl, bd_s, bd_s, bd_s, bd_s]
  by_cases c0 : a = 0
  · rw [if_pos c0, if_pos c0]; exact ⟨_, _, rfl, rfl, S⟩
  rw [if_neg c0, if_neg c0]
  by_cases c1 : a = 1
  · rw [if_pos c1, if_pos c1]; exact ⟨_, _, rfl, rfl, S⟩
  rw [if_neg c1, if_neg c1]
  by_cases c2 : a = 2
  · rw [if_pos c2, if_pos c2]
    rcases hs with hs | hs
    · rw [hs, if_pos rfl]; exact ⟨_, _, rfl, rfl, S⟩
    · rw [hs, if_neg (by decide)]; exact ⟨_, _, rfl, rfl, S⟩
  rw [if_neg c2, if_neg c2]
  by_cases c3 : a = 3
  · rw [if_pos c3, if_pos c3]; exact ⟨_, _, rfl, rfl, S⟩
  · rw [if_neg c3, if_neg c3]; exact ⟨_, _, rfl, rfl, S⟩
theorem BB.rAge {M N : xM} {V A : Nat → Int32} {ng nw ne no : Nat} (B : BB M N V A ng nw ne no) {w : Nat} (hw : w < nw) : f_X11_ageOf N (nI w) = some (V (7 + 37 * w) + M 18 0 * (360 : Int32)) := by
  simp only [f_X11_ageOf, b_X11_ageOf_0]
  rw [B.its 0 hw 0 (by decide) rfl, bd_s, gd_d (by decide) (by decide), cl0, (B.2.2.2 0 (by decide)).1, Int32.mul_comm]
  rfl
theorem c_dayOfAge {M N : xM} {V A : Nat → Int32} {ng nw ne no : Nat} (B : BB M N V A ng nw ne no) {w : Nat} (hw : w < nw) (a : Int32) : f_X8_dayOfAge M (25 + 5 * w) a = some (V (7 + 37 * w) + a * (360 : Int32)) := by
  simp only [f_X8_dayOfAge, b_X8_dayOfAge_0]
  rw [(B.k.w hw).1]
theorem c_ofAge {M N : xM} (h : Rel M N) (w : Int32) : ∃ r N1, f_X10_ofAge M w = some r ∧ f_X11_ofAge N w = some (r, N1) ∧ SameN N N1 := by
  obtain ⟨N1, e1, S, V, A, ng, nw, ne, no, B⟩ := h.th
  simp only [f_X10_ofAge, b_X10_ofAge_0, b_X10_ofAge_37, f_X11_ofAge, b_X11_ofAge_0, b_X11_ofAge_24, lt_d, e1]
  rw [B.hW, B.iW, bd_s, bd_s]
  by_cases c : wP nw w
  rotate_left
  · rw [fp_f c, fp_f c]; exact ⟨_, _, rfl, rfl, S⟩
  rw [fp_t c, fp_t c]
  have hb := B.bd
  obtain ⟨j, hj, rfl⟩ := wP_of (by omega) c
  rw [gd_n (by omega) (by decide), clN (by omega), gd_d (by decide) (by decide), cl0, c_dayOfAge B hj, B.rAge hj]
  exact ⟨_, _, rfl, rfl, S⟩
def kComm (V A : Nat → Int32) (ne : Nat) (fee : Int32) (w y : Nat) : Int32 := if V (7 + 37 * w + 15) ≤ nI y then ((((kSum V A ne (nI w) (nI (360 * y)) (nI (360 * y + 359)) 1).toInt64 * fee.toInt64) / (1000 : Int64)).toInt32) else V (7 + 37 * w + 26 + y)
theorem y360' (y : Nat) : (360 : Int32) * nI y = nI (360 * y) := pk_mul 360 y
theorem y359' (y : Nat) : (360 : Int32) * nI y + (360 : Int32) - 1 = nI (360 * y + 359) := by
  rw [y360', show (360 : Int32) = nI 360 from rfl, nI_add, show (1 : Int32) = nI 1 from rfl, pk_sub (by omega)]
  rfl
theorem cl5 : (5 : Int32).toNatClampNeg = 5 := by decide
theorem cl4 : (4 : Int32).toNatClampNeg = 4 := by decide
theorem cl6 : (6 : Int32).toNatClampNeg = 6 := by decide
theorem c_commissionOf {M N : xM} {V A : Nat → Int32} {ng nw ne no : Nat} (B : BB M N V A ng nw ne no) {w y : Nat} (hw : w < nw) (hy : y < 10) : f_X10_commissionOf M (nI w) (nI y) = some (kComm V A ne (M 18 5) w y) := by
  have hb := B.bd
  obtain ⟨-, -, -, b3, -, -, b6⟩ := B.k.w hw
  obtain ⟨-, -, -, ⟨cl, hcl, v3, -⟩, -⟩ := B.wf.w hw
  simp only [f_X10_commissionOf, b_X10_commissionOf_0]
  unfold kComm
  rw [gd_n (by omega) (by decide), gd_n (by omega) (by decide), gd_n (by omega) (by decide), clN (by omega), clN (by omega), b3, v3, c_firstDay, c_lastDay, bd_s, bd_s, c_partOf B.k, bd_s, gd_d (by decide) (by decide), cl5]
  by_cases c : nI cl ≤ nI y
  · rw [if_pos c, if_pos c]
  · have c' : y < cl := by
      rw [i_le, nI_toInt (by omega), nI_toInt (by omega)] at c; omega
    rw [if_neg c, if_neg c, show 25 + 5 * w + 4 = 29 + 5 * w by omega, (b6 y (by rw [v3]; exact nI_lt' c' (by omega)) hy).2]
theorem BB.rComm {M N : xM} {V A : Nat → Int32} {ng nw ne no : Nat} (B : BB M N V A ng nw ne no) {w y : Nat} (hw : w < nw) (hy : y < 10) : f_X11_commissionOf N (nI w) (nI y) = some (kComm V A ne (M 18 5) w y) := by
  simp only [f_X11_commissionOf, b_X11_commissionOf_0]
  unfold kComm
  rw [B.its 15 hw 15 (by decide) rfl, bd_s, y359', y360', B.rSum1, bd_s, gd_d (by decide) (by decide), cl5, (B.2.2.2 5 (by decide)).1, B.its (26 + nI y) hw (26 + y) (by omega) (nI_add 26 y), bd_s, show 7 + 37 * w + (26 + y) = 7 + 37 * w + 26 + y by omega]
  split <;> rfl
theorem c_commission {M N : xM} (h : Rel M N) (w y : Int32) : ∃ r N1, f_X10_commission M w y = some r ∧ f_X11_commission N w y = some (r, N1) ∧ SameN N N1 := by
  obtain ⟨N1, e1, S, V, A, ng, nw, ne, no, B⟩ := h.th
  simp only [f_X10_commission, b_X10_commission_0, b_X10_commission_27, b_X10_commission_29, f_X11_commission, b_X11_commission_0, b_X11_commission_29, b_X11_commission_32, lt_d, e1]
  rw [B.hW, B.iW, bd_s, bd_s, c_isYear, m_isYear, bd_s, bd_s]
  by_cases c : wP nw w
  rotate_left
  · rw [fp_f c, fp_f c]; exact ⟨_, _, rfl, rfl, S⟩
  rw [fp_t c, fp_t c]
  by_cases c2 : yearP y
  rotate_left
  · rw [fp_f c2, fp_f c2]; exact ⟨_, _, rfl, rfl, S⟩
  rw [fp_t c2, fp_t c2]
  have hb := B.bd
  obtain ⟨j, hj, rfl⟩ := wP_of (by omega) c
  obtain ⟨k, hk, rfl⟩ := yr_of c2
  rw [c_commissionOf B hj hk, B.rComm hj hk]
  exact ⟨_, _, rfl, rfl, S⟩
theorem pI_x (p : Prop) [Decidable p] {α : Type} (f : Int32 → Option α) : (if pI p = 0 then f 0 else f 1) = f (pI p) := by
  by_cases c : p
  · rw [fp_t c, pI_t c]
  · rw [fp_f c, pI_f c]
theorem c_payment {M N : xM} (h : Rel M N) (e a : Int32) : ∃ r N1, f_X10_payment M e a = some r ∧ f_X11_payment N e a = some (r, N1) ∧ SameN N N1 := by
  obtain ⟨N1, e1, S, V, A, ng, nw, ne, no, B⟩ := h.th
  simp only [f_X10_payment, b_X10_payment_0, b_X10_payment_84, b_X10_payment_106, b_X10_payment_119, f_X11_payment, b_X11_payment_0, b_X11_payment_82, b_X11_payment_96, lt_d, e1]
  rw [B.hP, B.iP, bd_s, bd_s]
  by_cases c : payP V ne e
  rotate_left
  · rw [fp_f c, fp_f c]; exact ⟨_, _, rfl, rfl, S⟩
  rw [fp_t c, fp_t c]
  have hb := B.bd
  obtain ⟨cw, cp⟩ := c
  obtain ⟨j, hj, rfl⟩ := wP_of (by omega) cw
  rw [nI_toInt (by omega), Int.toNat_natCast] at cp
  obtain ⟨L, hL, SL, hA⟩ := B.lays
  have B2 := B.sn SL
  have S2 := S.tr SL
  obtain ⟨-, -, -, -, -, -, g7, g6⟩ := B.k.2.1.e hj
  have hr := (B.wf.e hj).2.2.2.2.1
  have kp2 : kPart V A 2 j = A j := by unfold kPart; rw [if_neg (by decide), if_pos rfl, if_pos cp]
  have kp3 : kPart V A 3 j = V (155 + 7 * j + 3) - A j := by unfold kPart; rw [if_neg (by decide), if_neg (by decide), if_pos rfl, if_pos cp]
  have hv : L 4 = V := B2.1
  rw [gd_n (by omega) (by decide), hL, bd_s, gd_n (by omega) (by decide), clN (by omega), hA j hj, c_part B.k hj, c_part B.k hj, bd_s, bd_s, kp2, kp3, B2.rDis hA hj, bd_s, m_isGood L (by omega) (by rw [hv]; exact cp), hv, bd_s, m_isBacked L (by omega) (by rw [hv]; exact cp), hv, bd_s, B2.eOf 6 hj 6 (by decide) rfl, bd_s, gd_d (by decide) (by decide), cl1, c_isBacked B.k.2.1 hj hr, bd_s, g7]
  by_cases c0 : a = 0
  · rw [if_pos c0, if_pos c0]; exact ⟨_, _, rfl, rfl, S2⟩
  rw [if_neg c0, if_neg c0]
  by_cases c1 : a = 1
  · rw [if_pos c1, if_pos c1]; exact ⟨_, _, rfl, rfl, S2⟩
  rw [if_neg c1, if_neg c1]
  by_cases c2 : a = 2
  · rw [if_pos c2, if_pos c2]
    rcases g6 with ⟨g6, g⟩ | ⟨g6, g⟩
    · rw [g6, if_neg (by decide), fp_t g]; exact ⟨_, _, rfl, rfl, S2⟩
    · rw [g6, if_pos rfl, fp_f g]; exact ⟨_, _, rfl, rfl, S2⟩
  rw [if_neg c2, if_neg c2]
  by_cases c3 : a = 3
  · rw [if_pos c3, if_pos c3]
    have e18 : (M 18 1).toInt = (L 3 1).toInt := by rw [(B2.2.2.2 1 (by decide)).1]
    rw [e18]
    by_cases g : kBack V (L 3 1).toInt j
    · rw [fp_t g, fp_t g]; exact ⟨_, _, rfl, rfl, S2⟩
    · rw [fp_f g, fp_f g]; exact ⟨_, _, rfl, rfl, S2⟩
  rw [if_neg c3, if_neg c3]
  by_cases c4 : a = 4
  · rw [if_pos c4, if_pos c4]
    rcases hr with hr | hr
    · rw [hr, if_pos rfl]; exact ⟨_, _, rfl, rfl, S2⟩
    · rw [hr, if_neg (by decide)]; exact ⟨_, _, rfl, rfl, S2⟩
  · rw [if_neg c4, if_neg c4]; exact ⟨_, _, rfl, rfl, S2⟩
