/-! writes: receive, pay, layOut, callIn, order, ratify -/
theorem m_in03 (N : xM) (k : Int32) : f_X11_in N k.toInt64 (0 : Int64) (3 : Int64) = some (pI (0 ≤ k.toInt ∧ k.toInt < 4)) := by
  rw [m_in, i_l, show (0 : Int64).toInt = 0 by decide, show (3 : Int64).toInt = 3 by decide]
  congr 1
  exact b01 _ _ ⟨fun z => ⟨z.1, by omega⟩, fun z => ⟨z.1, by omega⟩⟩
theorem m_in01 (N : xM) (k : Int32) : f_X11_in N k.toInt64 (0 : Int64) (1 : Int64) = some (pI (0 ≤ k.toInt ∧ k.toInt < 2)) := by
  rw [m_in, i_l, show (0 : Int64).toInt = 0 by decide, show (1 : Int64).toInt = 1 by decide]
  congr 1
  exact b01 _ _ ⟨fun z => ⟨z.1, by omega⟩, fun z => ⟨z.1, by omega⟩⟩
theorem m_in999 (N : xM) (k : Int32) : f_X11_in N k.toInt64 (0 : Int64) (999 : Int64) = some (pI (0 ≤ k.toInt ∧ k.toInt ≤ 999)) := by
  rw [m_in, i_l, show (0 : Int64).toInt = 0 by decide, show (999 : Int64).toInt = 999 by decide]
theorem pI_and (p q : Prop) [Decidable p] [Decidable q] {α : Type} (f : Int32 → α) : (if pI p = 0 then f 0 else f (pI q)) = f (pI (p ∧ q)) := by
  by_cases h : p
  · rw [fp_t h]; congr 1; exact b01 _ _ ⟨fun z => ⟨h, z⟩, fun z => z.2⟩
  · rw [fp_f h, pI_f (fun z => h z.1)]
theorem pI_lt (k a : Int32) (q : Prop) [Decidable q] {α : Type} (f : Int32 → α) : (if k < a then f 0 else f (pI q)) = f (pI (a.toInt ≤ k.toInt ∧ q)) := by
  by_cases h : k < a
  · rw [if_pos h]; rw [i_lt] at h; rw [pI_f (fun z => by have := z.1; omega)]
  · rw [if_neg h]; rw [i_lt] at h; congr 1; exact b01 _ _ ⟨fun z => ⟨by omega, z⟩, fun z => z.2⟩
theorem pI_le (k a : Int32) (q : Prop) [Decidable q] {α : Type} (f : Int32 → α) : (if a ≤ k then f 0 else f (pI q)) = f (pI (k.toInt < a.toInt ∧ q)) := by
  by_cases h : a ≤ k
  · rw [if_pos h]; rw [i_le] at h; rw [pI_f (fun z => by have := z.1; omega)]
  · rw [if_neg h]; rw [i_le] at h; congr 1; exact b01 _ _ ⟨fun z => ⟨by omega, z⟩, fun z => z.2⟩
theorem pI_T : (1 : Int32) = pI True := rfl
theorem x4i : (4 : Int32).toInt = 4 := by decide
theorem x2i : (2 : Int32).toInt = 2 := by decide
theorem x999i : (999 : Int32).toInt = 999 := by decide
theorem c_receive {M N : xM} (h : Rel M N) (w d a k : Int32) : ∃ r M1 N1, f_X10_receive M w d a k = some (r, M1) ∧ f_X11_receive N w d a k = some (r, N1) ∧ Rel M1 N1 := by
  obtain ⟨N0, e1, S, V, A, ng, nw, ne, no, B⟩ := h.th
  have R := h.sn S
  unfold f_X10_receive b_X10_receive_0 f_X11_receive b_X11_receive_0 b_X10_receive_29 b_X11_receive_32
  rw [lt_d (uM N 0 0 0), e1, c_isDay, m_isAmount, m_in03, bd_s, bd_s, bd_s, c_isAmount, bd_s, pI_T]
  rw [pI_le k 4 True (b_X10_receive_30 M w d a k), pI_lt k 0 _ (b_X10_receive_30 M w d a k), pI_and (amtP a) _ (b_X10_receive_30 M w d a k), pI_and (dayP d) _ (b_X10_receive_30 M w d a k)]
  rw [pI_and (0 ≤ k.toInt ∧ k.toInt < 4) True (fun z => b_X11_receive_33 N0 w d a k z d w), pI_and (amtP a) _ (fun z => b_X11_receive_33 N0 w d a k z d w)]
  unfold b_X10_receive_30 b_X11_receive_33 b_X11_receive_64
  obtain ⟨r, w1, w2, hr⟩ := B.why w d (dayP d ∧ amtP a ∧ (0 : Int32).toInt ≤ k.toInt ∧ k.toInt < (4 : Int32).toInt ∧ True) (amtP a ∧ (0 ≤ k.toInt ∧ k.toInt < 4) ∧ True) (by
    rw [i0, x4i]
    exact ⟨fun z => ⟨z.1, z.2.1, ⟨z.2.2.1, z.2.2.2.1⟩, trivial⟩, fun z => ⟨z.1, z.2.1, z.2.2.1.1, z.2.2.1.2, trivial⟩⟩)
  rw [w1, w2, bd_s, bd_s]
  rcases hr with ⟨rfl, ⟨p1, p2, p3, p4, -⟩, j, hj, rfl, -⟩ | ⟨hn, h0, h5⟩
  · rw [if_pos rfl, if_pos rfl]
    obtain ⟨r, M1, N1, g1, g2, g3⟩ := R.enter B (s := 0) (w := j) (by omega) hj (k := k) (v := -1) p1 p2 (fun z => absurd z (by decide)) (fun _ => rfl)
    have g1' : f_X10_enter M 0 (nI j) d a k (-1) = some (r, M1) := g1
    have g2' : f_X11_enters N0 0 (nI j) d a k (-1) = some (r, N1) := g2
    rw [g1', g2', bd2_s, bd2_s]
    exact ⟨_, _, _, rfl, rfl, g3⟩
  · rw [if_neg hn, if_neg hn]; exact R.refD r h0 h5
theorem c_pay {M N : xM} (h : Rel M N) (w d a k v : Int32) : ∃ r M1 N1, f_X10_pay M w d a k v = some (r, M1) ∧ f_X11_pay N w d a k v = some (r, N1) ∧ Rel M1 N1 := by
  obtain ⟨N0, e1, S, V, A, ng, nw, ne, no, B⟩ := h.th
  have R := h.sn S
  unfold f_X10_pay b_X10_pay_0 f_X11_pay b_X11_pay_0 b_X10_pay_42 b_X11_pay_45
  rw [lt_d (uM N 0 0 0), e1, c_isDay, m_isAmount, m_in03, m_in999, bd_s, bd_s, bd_s, bd_s, c_isAmount, bd_s, pI_T]
  rw [pI_lt 999 v True (b_X10_pay_43 M w d a k v), pI_lt v 0 _ (b_X10_pay_43 M w d a k v), pI_le k 4 _ (b_X10_pay_43 M w d a k v), pI_lt k 0 _ (b_X10_pay_43 M w d a k v), pI_and (amtP a) _ (b_X10_pay_43 M w d a k v), pI_and (dayP d) _ (b_X10_pay_43 M w d a k v)]
  rw [pI_and (0 ≤ v.toInt ∧ v.toInt ≤ 999) True (fun z => b_X11_pay_46 N0 w d a k v z d w), pI_and (0 ≤ k.toInt ∧ k.toInt < 4) _ (fun z => b_X11_pay_46 N0 w d a k v z d w), pI_and (amtP a) _ (fun z => b_X11_pay_46 N0 w d a k v z d w)]
  unfold b_X10_pay_43 b_X11_pay_46 b_X11_pay_78
  obtain ⟨r, w1, w2, hr⟩ := B.why w d (dayP d ∧ amtP a ∧ (0 : Int32).toInt ≤ k.toInt ∧ k.toInt < (4 : Int32).toInt ∧ (0 : Int32).toInt ≤ v.toInt ∧ v.toInt ≤ (999 : Int32).toInt ∧ True) (amtP a ∧ (0 ≤ k.toInt ∧ k.toInt < 4) ∧ (0 ≤ v.toInt ∧ v.toInt ≤ 999) ∧ True) (by
    rw [i0, x4i, x999i]
    exact ⟨fun z => ⟨z.1, z.2.1, ⟨z.2.2.1, z.2.2.2.1⟩, ⟨z.2.2.2.2.1, z.2.2.2.2.2.1⟩, trivial⟩, fun z => ⟨z.1, z.2.1, z.2.2.1.1, z.2.2.1.2, z.2.2.2.1.1, z.2.2.2.1.2, trivial⟩⟩)
  rw [w1, w2, bd_s, bd_s]
  rcases hr with ⟨rfl, ⟨p1, p2, p3, p4, p5, p6, -⟩, j, hj, rfl, -⟩ | ⟨hn, h0, h5⟩
  · rw [if_pos rfl, if_pos rfl]
    rw [i0] at p3 p5
    rw [x4i] at p4
    rw [x999i] at p6
    obtain ⟨r, M1, N1, g1, g2, g3⟩ := R.enter B (s := 1) (w := j) (by omega) hj (k := k) (v := v) p1 p2 (fun _ => by
      obtain ⟨x, hx, e, e2⟩ := nI_of0 p3
      obtain ⟨y, hy, f, f2⟩ := nI_of0 p5
      exact ⟨⟨x, by omega, e⟩, y, by omega, f⟩) (fun z => absurd rfl z)
    have g1' : f_X10_enter M 1 (nI j) d a k v = some (r, M1) := g1
    have g2' : f_X11_enters N0 1 (nI j) d a k v = some (r, N1) := g2
    rw [g1', g2', bd2_s, bd2_s]
    exact ⟨_, _, _, rfl, rfl, g3⟩
  · rw [if_neg hn, if_neg hn]; exact R.refD r h0 h5
theorem c_layOut {M N : xM} (h : Rel M N) (w d a : Int32) : ∃ r M1 N1, f_X10_layOut M w d a = some (r, M1) ∧ f_X11_layOut N w d a = some (r, N1) ∧ Rel M1 N1 := by
  obtain ⟨N0, e1, S, V, A, ng, nw, ne, no, B⟩ := h.th
  have R := h.sn S
  unfold f_X10_layOut b_X10_layOut_0 f_X11_layOut b_X11_layOut_0 b_X10_layOut_21 b_X11_layOut_62
  rw [lt_d (uM N 0 0 0), e1, c_isDay, m_isAmount, bd_s, bd_s, c_isAmount, bd_s]
  rw [pI_x (amtP a) (fun z => b_X10_layOut_22 M w d a z d w), pI_and (dayP d) _ (fun z => b_X10_layOut_22 M w d a z d w)]
  unfold b_X10_layOut_22
  obtain ⟨r, w1, w2, hr⟩ := B.why w d (dayP d ∧ amtP a) (amtP a) Iff.rfl
  rw [w1, w2, bd_s, bd_s]
  rcases hr with ⟨rfl, ⟨p1, p2⟩, j, hj, rfl, -⟩ | ⟨hn, h0, h5⟩
  · obtain ⟨L, hL, SL, hA⟩ := B.lays
    rw [if_pos rfl, if_pos rfl, c_moneyOn B.k hj p1, hL, bd_s, bd_s, (B.sn SL).rMoney hA hj p1, bd_s]
    by_cases c : a ≤ kMoneyOn V A ne j d
    · rw [if_pos c, if_pos c]
      obtain ⟨r, M1, N1, g1, g2, g3⟩ := (R.sn SL).enter (B.sn SL) (s := 2) (w := j) (by omega) hj (k := -1) (v := -1) p1 p2 (fun z => absurd z (by decide)) (fun _ => rfl)
      have g1' : f_X10_enter M 2 (nI j) d a (-1) (-1) = some (r, M1) := g1
      have g2' : f_X11_enters L 2 (nI j) d a (-1) (-1) = some (r, N1) := g2
      rw [g1', g2', bd2_s, bd2_s]
      exact ⟨_, _, _, rfl, rfl, g3⟩
    · rw [if_neg c, if_neg c]; exact (R.sn SL).refD 3 (by decide) (by decide)
  · rw [if_neg hn, if_neg hn]; exact R.refD r h0 h5
theorem c_callIn {M N : xM} (h : Rel M N) (w d a : Int32) : ∃ r M1 N1, f_X10_callIn M w d a = some (r, M1) ∧ f_X11_callIn N w d a = some (r, N1) ∧ Rel M1 N1 := by
  obtain ⟨N0, e1, S, V, A, ng, nw, ne, no, B⟩ := h.th
  have R := h.sn S
  unfold f_X10_callIn b_X10_callIn_0 f_X11_callIn b_X11_callIn_0 b_X10_callIn_21 b_X11_callIn_58
  rw [lt_d (uM N 0 0 0), e1, c_isDay, m_isAmount, bd_s, bd_s, c_isAmount, bd_s]
  rw [pI_x (amtP a) (fun z => b_X10_callIn_22 M w d a z d w), pI_and (dayP d) _ (fun z => b_X10_callIn_22 M w d a z d w)]
  unfold b_X10_callIn_22
  obtain ⟨r, w1, w2, hr⟩ := B.why w d (dayP d ∧ amtP a) (amtP a) Iff.rfl
  rw [w1, w2, bd_s, bd_s]
  rcases hr with ⟨rfl, ⟨p1, p2⟩, j, hj, rfl, -⟩ | ⟨hn, h0, h5⟩
  · rw [if_pos rfl, if_pos rfl, c_outOn B.k j, B.rOut j, bd_s, bd_s]
    by_cases c : a ≤ kOutOn V A ne j d
    · rw [if_pos c, if_pos c]
      obtain ⟨r, M1, N1, g1, g2, g3⟩ := R.enter B (s := 3) (w := j) (by omega) hj (k := -1) (v := -1) p1 p2 (fun z => absurd z (by decide)) (fun _ => rfl)
      have g1' : f_X10_enter M 3 (nI j) d a (-1) (-1) = some (r, M1) := g1
      have g2' : f_X11_enters N0 3 (nI j) d a (-1) (-1) = some (r, N1) := g2
      rw [g1', g2', bd2_s, bd2_s]
      exact ⟨_, _, _, rfl, rfl, g3⟩
    · rw [if_neg c, if_neg c]; exact R.refD 3 (by decide) (by decide)
  · rw [if_neg hn, if_neg hn]; exact R.refD r h0 h5
