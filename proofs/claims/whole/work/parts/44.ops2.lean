/-! bounds of sums; mean, lasts, holder -/
section
variable {M N : xM} {V A : Nat → Int32} {ng nw ne no : Nat}
theorem BB.part_bd (B : BB M N V A ng nw ne no) {i : Nat} (hi : i < ne) (what : Int32) : -99999 ≤ (kPart V A what i).toInt ∧ (kPart V A what i).toInt ≤ 99999 := by
  have ha := B.al hi
  have hm := (B.wf.e hi).2.2.2.1
  have hn : (-V (155 + 7 * i + 3)).toInt = -(V (155 + 7 * i + 3)).toInt := i_neg (by omega)
  have hs : (V (155 + 7 * i + 3) - A i).toInt = (V (155 + 7 * i + 3)).toInt - (A i).toInt := i_sub (by omega) (by omega)
  unfold kPart
  split
  · split
    · omega
    · rw [i0]; omega
  split
  · split
    · omega
    · rw [i0]; omega
  split
  · split
    · rw [hs]; omega
    · rw [i0]; omega
  split
  · omega
  split
  · rw [hn]; omega
  · rw [i0]; omega
theorem BB.est_bd (B : BB M N V A ng nw ne no) {i : Nat} (hi : i < ne) : -99999 ≤ (kEst V A i).toInt ∧ (kEst V A i).toInt ≤ 99999 := by
  have ha := B.al hi
  have hm := (B.wf.e hi).2.2.2.1
  have hn : (-A i).toInt = -(A i).toInt := i_neg (by omega)
  unfold kEst
  split
  · omega
  split
  · rw [hn]; omega
  · rw [i0]; omega
theorem BB.sum_bd (B : BB M N V A ng nw ne no) (w f l what : Int32) : -3999960 ≤ (kSum V A ne w f l what).toInt ∧ (kSum V A ne w f l what).toInt ≤ 3999960 := by
  have hb := B.bd
  obtain ⟨h1, h2, h3⟩ := sI_z (f := fun i => if kIn V w f l i then kPart V A what i else 0) (B := 99999) (n := ne) (fun i hi => by
    split
    · exact B.part_bd hi what
    · rw [i0]; omega) (by omega) (by omega)
  unfold kSum
  omega
theorem BB.out_bd (B : BB M N V A ng nw ne no) (w : Nat) (day : Int32) : -3999960 ≤ (kOutOn V A ne w day).toInt ∧ (kOutOn V A ne w day).toInt ≤ 3999960 := B.sum_bd _ _ _ _
theorem TB_bd : ∀ y, y < 10 → 0 ≤ TB y / 5 ∧ TB y / 5 ≤ 5000000 := by decide
theorem WF.br_bd (h : WF V ng nw ne no) {w y : Nat} (hw : w < nw) (hy : y < 10) : -399996 ≤ (kBr V w y).toInt ∧ (kBr V w y).toInt ≤ 5000000 := by
  obtain ⟨-, -, -, ⟨cl, hcl, v3, hv⟩, -⟩ := h.w hw
  have hT := TB_bd y hy
  unfold kBr
  rw [v3]
  by_cases c : y < cl
  · obtain ⟨⟨h1, h2⟩, h3, h4⟩ := hv y c
    rw [if_pos (nI_lt' c (by omega)), i_sub (by omega) (by omega)]
    omega
  · rw [if_neg (nI_nl c (by omega)), i0]; omega
theorem WF.brS_bd (h : WF V ng nw ne no) {w : Nat} (hw : w < nw) {day : Int32} (hd : dayP day) : -50000000 ≤ (kBrS V w day).toInt ∧ (kBrS V w day).toInt ≤ 50000000 := by
  have hd1 := hd.1
  have hd2 := hd.2
  obtain ⟨h1, h2, h3⟩ := sI_z (f := kBr V w) (B := 5000000) (n := (day.toInt / 360).toNat) (fun y hy => by
    have := h.br_bd hw (show y < 10 by omega)
    omega) (by omega) (by omega)
  unfold kBrS
  omega
theorem BB.estOn_bd (B : BB M N V A ng nw ne no) {w : Nat} (hw : w < nw) {day : Int32} (hd : dayP day) : -54000000 ≤ (kEstOn V A ne w day).toInt ∧ (kEstOn V A ne w day).toInt ≤ 54000000 := by
  have hb := B.bd
  obtain ⟨h1, h2, h3⟩ := sI_z (f := fun i => if V (155 + 7 * i + 1) = nI w ∧ (V (155 + 7 * i + 2)).toInt ≤ day.toInt then kEst V A i else 0) (B := 99999) (n := ne) (fun i hi => by
    split
    · exact B.est_bd hi
    · rw [i0]; omega) (by omega) (by omega)
  have h4 := B.wf.brS_bd hw hd
  unfold kEstOn
  rw [i_add (by omega) (by omega)]
  omega
theorem BB.money_z (B : BB M N V A ng nw ne no) {w : Nat} (hw : w < nw) {day : Int32} (hd : dayP day) : (kMoneyOn V A ne w day).toInt = (kEstOn V A ne w day).toInt - (kOutOn V A ne w day).toInt := by
  have h1 := B.estOn_bd hw hd
  have h2 := B.out_bd w day
  unfold kMoneyOn
  rw [i_sub (by omega) (by omega)]
/-- a ward's mean -/
def kMean (V A : Nat → Int32) (ne w cl : Nat) : Int32 := (kSum V A ne (nI w) 0 (nI (360 * cl - 1)) 1 - kSum V A ne (nI w) 0 (nI (360 * cl - 1)) 2) / nI cl
theorem BB.mean_bd (B : BB M N V A ng nw ne no) {w cl : Nat} (h0 : 0 < cl) (h1 : cl ≤ 10) : -10000000 ≤ (kMean V A ne w cl).toInt ∧ (kMean V A ne w cl).toInt ≤ 10000000 := by
  have b1 := B.sum_bd (nI w) 0 (nI (360 * cl - 1)) 1
  have b2 := B.sum_bd (nI w) 0 (nI (360 * cl - 1)) 2
  have ec : (nI cl).toInt = cl := nI_toInt (by omega)
  unfold kMean
  rw [i_div (by omega), i_sub (by omega) (by omega), ec]
  have := tdiv_bd (x := (kSum V A ne (nI w) 0 (nI (360 * cl - 1)) 1).toInt - (kSum V A ne (nI w) 0 (nI (360 * cl - 1)) 2).toInt) (d := cl) (B := 8000000) (by omega) (by omega) (by omega)
  omega
theorem nI_n0 {n : Nat} (h : 0 < n) (h2 : n < 2 ^ 31) : ¬ nI n = 0 := by
  rw [i_eq, nI_toInt h2, i0]; omega
theorem c_meanOf (B : BB M N V A ng nw ne no) {w cl : Nat} (hw : w < nw) (hc : V (7 + 37 * w + 15) = nI cl) (hcl : cl ≤ 10) : f_X1_meanOf M (nI w) = some (if 0 < cl then kMean V A ne w cl else -1000000000) := by
  have hb := B.bd
  obtain ⟨-, -, -, b3, -⟩ := B.k.w hw
  simp only [f_X1_meanOf, b_X1_meanOf_0, lt_d]
  rw [gd_n (by omega) (by decide), clN (by omega), b3, hc, c_firstDay, bd_s, c_partOf B.k, bd_s, c_partOf B.k, bd_s]
  by_cases c : 0 < cl
  · rw [if_pos (show 0 < nI cl from nI_lt' (a := 0) c (by omega)), if_pos c, g0, if_neg (nI_n0 c (by omega))]
    unfold kMean
    rw [show (1 : Int32) = nI 1 from rfl, pk_sub (by omega)]
  · rw [if_neg (show ¬ 0 < nI cl from nI_nl (a := 0) c (by omega)), if_neg c]
theorem BB.rMean (B : BB M N V A ng nw ne no) {w cl : Nat} (hw : w < nw) (hc : V (7 + 37 * w + 15) = nI cl) (hcl : cl ≤ 10) (h0 : 0 < cl) : ∃ L, f_X11_meanOf N (nI w) = some (kMean V A ne w cl, L) ∧ SameN N L ∧ ∀ i, i < ne → L 8 i = A i := by
  obtain ⟨L, hL, SL, hA⟩ := B.lays
  simp only [f_X11_meanOf, b_X11_meanOf_0]
  rw [B.its 15 hw 15 (by decide) rfl, bd_s, hL, bd_s, hc, y360', show nI (360 * cl) - (1 : Int32) = nI (360 * cl - 1) from pk_sub (a := 360 * cl) (b := 1) (by omega), (B.sn SL).rSum hA _ _ _ _ (Or.inl rfl), bd_s, (B.sn SL).rSum hA _ _ _ _ (Or.inr (Or.inl rfl)), bd_s, g0, if_neg (nI_n0 h0 (by omega))]
  exact ⟨L, rfl, SL, hA⟩
end
theorem c_mean {M N : xM} (h : Rel M N) (w : Int32) : ∃ r N1, f_X10_mean M w = some r ∧ f_X11_mean N w = some (r, N1) ∧ SameN N N1 := by
  obtain ⟨N1, e1, S, V, A, ng, nw, ne, no, B⟩ := h.th
  simp only [f_X10_mean, b_X10_mean_0, b_X10_mean_24, f_X11_mean, b_X11_mean_0, b_X11_mean_31, b_X11_mean_34, lt_d, e1]
  rw [B.hW, B.iW, bd_s, bd_s]
  by_cases c : wP nw w
  rotate_left
  · rw [fp_f c, fp_f c]; exact ⟨_, _, rfl, rfl, S⟩
  rw [fp_t c, fp_t c]
  have hb := B.bd
  obtain ⟨j, hj, rfl⟩ := wP_of (by omega) c
  obtain ⟨-, -, -, ⟨cl, hcl, v3, -⟩, -⟩ := B.wf.w hj
  rw [c_meanOf B hj v3 hcl, B.its 15 hj 15 (by decide) rfl, bd_s, bd_s, v3]
  by_cases c0 : 0 < cl
  · obtain ⟨L, hL, SL, -⟩ := B.rMean hj v3 hcl c0
    rw [if_pos c0, if_neg (show ¬ nI cl ≤ 0 from nI_ge (b := cl) (a := 0) c0 (by omega)), hL]
    exact ⟨_, _, rfl, rfl, S.tr SL⟩
  · rw [if_neg c0, if_pos (show nI cl ≤ 0 from nI_le (b := 0) (by omega) (by omega))]
    exact ⟨_, _, rfl, rfl, S⟩
theorem lc_ge (a : Int64) : 0 ≤ lg_cmp a 0 ↔ 0 ≤ a.toInt := by
  have h := lc_lt a 0
  have l0 : (0 : Int64).toInt = 0 := by decide
  rw [l0] at h
  rw [i_le]
  rw [i_lt] at h
  rw [i0] at *
  omega
theorem c_lasts {M N : xM} (h : Rel M N) (w d : Int32) : ∃ r N1, f_X10_lasts M w d = some r ∧ f_X11_lasts N w d = some (r, N1) ∧ SameN N N1 := by
  obtain ⟨N1, e1, S, V, A, ng, nw, ne, no, B⟩ := h.th
  simp only [f_X10_lasts, b_X10_lasts_0, b_X10_lasts_18, b_X10_lasts_76, f_X11_lasts, b_X11_lasts_0, b_X11_lasts_30, b_X11_lasts_90, lt_d, e1]
  rw [B.hW, B.iW, bd_s, bd_s, c_isDay, m_isDay, bd_s, bd_s]
  by_cases c : wP nw w
  rotate_left
  · rw [fp_f c, fp_f c]; exact ⟨_, _, rfl, rfl, S⟩
  rw [fp_t c, fp_t c]
  by_cases c2 : dayP d
  rotate_left
  · rw [fp_f c2, fp_f c2]; exact ⟨_, _, rfl, rfl, S⟩
  rw [fp_t c2, fp_t c2]
  have hb := B.bd
  obtain ⟨j, hj, rfl⟩ := wP_of (by omega) c
  obtain ⟨-, -, -, ⟨cl, hcl, v3, -⟩, -⟩ := B.wf.w hj
  rw [c_meanOf B hj v3 hcl, B.its 15 hj 15 (by decide) rfl, bd_s, bd_s, v3]
  by_cases c0 : 0 < cl
  rotate_left
  · rw [if_neg c0, if_pos rfl, show cl = 0 by omega, if_pos (show nI 0 = 0 from rfl)]
    exact ⟨_, _, rfl, rfl, S⟩
  obtain ⟨L, hL, SL, hA⟩ := B.rMean hj v3 hcl c0
  obtain ⟨m1, m2⟩ := B.mean_bd (w := j) c0 hcl
  have eM : (-1000000000 : Int32).toInt = -1000000000 := by decide
  rw [if_pos c0, if_neg (fun z => by rw [i_eq, eM] at z; omega), if_neg (nI_n0 c0 (by omega)), c_estateOn B.k hj c2, bd_s, B.rOut, bd_s, hL, bd2_s, (B.sn SL).rMoney hA hj c2, bd_s]
  have hz := B.money_z hj c2
  have o1 := B.out_bd j d
  have s1 := B.estOn_bd hj c2
  have hy : ((kOutOn V A ne j d).toInt64 + (kMoneyOn V A ne j d).toInt64).toInt = (kEstOn V A ne j d).toInt := by
    rw [ll_add (by rw [i_l, i_l]; omega) (by rw [i_l, i_l]; omega), i_l, i_l]; omega
  by_cases c3 : 0 ≤ (kEstOn V A ne j d).toInt
  rotate_left
  · rw [if_neg (show ¬ 0 ≤ kEstOn V A ne j d from fun z => c3 (by rw [i_le, i0] at z; exact z)), if_neg (show ¬ 0 ≤ lg_cmp ((kOutOn V A ne j d).toInt64 + (kMoneyOn V A ne j d).toInt64) 0 from fun z => c3 (by rw [lc_ge, hy] at z; exact z))]
    exact ⟨_, _, rfl, rfl, S.tr SL⟩
  rw [if_pos (show 0 ≤ kEstOn V A ne j d by rw [i_le, i0]; exact c3), if_pos (show 0 ≤ lg_cmp ((kOutOn V A ne j d).toInt64 + (kMoneyOn V A ne j d).toInt64) 0 by rw [lc_ge, hy]; exact c3)]
  by_cases c4 : kMean V A ne j cl < 0
  rotate_left
  · rw [if_neg c4, if_neg c4]
    exact ⟨_, _, rfl, rfl, S.tr SL⟩
  rw [if_pos c4, if_pos c4]
  rw [i_lt, i0] at c4
  have n1 : (-kMean V A ne j cl).toInt = -(kMean V A ne j cl).toInt := i_neg (by omega)
  have n2 : (-(kMean V A ne j cl).toInt64).toInt = -(kMean V A ne j cl).toInt := by
    rw [Int64.toInt_neg, i_l, l_bm (by omega) (by omega)]
  have z0 : (0 : Int64).toInt = 0 := by decide
  rw [g0, if_neg (fun z => by rw [i_eq, n1, i0] at z; omega), g0L, if_neg (fun z => by rw [← Int64.toInt_inj, n2, z0] at z; omega)]
  refine ⟨_, _, rfl, ?_, S.tr SL⟩
  congr 2
  have e100 : (100 : Int32).toInt = 100 := by decide
  have l100 : (100 : Int64).toInt = 100 := by decide
  obtain ⟨q1, q2⟩ := tdiv_bd (x := (kEstOn V A ne j d).toInt) (d := -(kMean V A ne j cl).toInt) (B := 54000001) (by omega) (by omega) (by omega)
  have r1 : (imin (100 : Int32) (kEstOn V A ne j d / -kMean V A ne j cl)).toInt = min 100 ((kEstOn V A ne j d).toInt.tdiv (-(kMean V A ne j cl).toInt)) := by
    rw [imin_i, i_div (by omega), n1, e100]
  have r2 : (lmin (100 : Int64) (((kOutOn V A ne j d).toInt64 + (kMoneyOn V A ne j d).toInt64) / -(kMean V A ne j cl).toInt64)).toInt = min 100 ((kEstOn V A ne j d).toInt.tdiv (-(kMean V A ne j cl).toInt)) := by
    rw [lmin_i, ll_div (by omega), n2, hy, l100]
  rw [i_eq, r1, l_i (by omega) (by omega), r2]
