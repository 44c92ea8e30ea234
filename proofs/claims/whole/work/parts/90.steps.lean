/-! the law's loop: one step of each kind, then all; 'Wri': the step of 'written' -/
abbrev L0 (z : xL) (x4 : Int32) : List (Nat × Value) := [(0, .ref (z_b z)), (1, .ref (z_1 z 0)), (2, .ref (z_2 z 0)), (3, .ref (z_o z)), (4, .int x4)]
abbrev Aft (z : xL) (cs ss : Nat) (x4 : Int32) : Prop := ∀ (M1 N1 : xM) (v1 : Int64) (cs1 ss1 : Nat), Rel M1 N1 → cs1 ≤ cs + 20 → ss1 ≤ ss + 2000 → JL z cs1 ss1 M1 N1 v1 2130 (L0 z x4) []
abbrev Fit (cs ss : Nat) : Prop := cs + 20 ≤ 601024 ∧ ss + 2000 ≤ 7293034
def Wri (z : xL) : Prop := ∀ {M N : xM}, Rel M N → ∀ (v : Int64) (cs ss : Nat) (x4 : Int32), vp_in (x4 + 1) (z_L z) → Fit cs ss → Aft z cs ss x4 → JL z cs ss M N v 1979 (L0 z x4) []
section LOOP
variable {z : xL} {cs ss : Nat} {M N : xM} {v : Int64} {x4 : Int32}
theorem ls_feed (C : CtL z) (hR : Rel M N) (hc : Fit cs ss) (h1 : vp_in (x4 + 1) (z_L z)) (h2 : vp_in (x4 + 2) (z_L z)) (h3 : vp_in (x4 + 3) (z_L z)) (h4 : vp_in (x4 + 4) (z_L z)) (h5 : vp_in (x4 + 5) (z_L z)) (kk : Aft z cs ss x4) : JL z cs ss M N v 260 (L0 z x4) [] := by
  obtain ⟨r, M1, N1, e1, e2, hR1⟩ := c_feed hR _ _ _ _ _
  exact lk_feed C ⟨by omega, by omega⟩ x4 h1 h2 h3 h4 h5 e1 e2 (kk _ _ v cs ss hR1 (by omega) (by omega))
theorem ls_end (C : CtL z) (hR : Rel M N) (hc : Fit cs ss) (h1 : vp_in (x4 + 1) (z_L z)) (kk : Aft z cs ss x4) : JL z cs ss M N v 333 (L0 z x4) [] := by
  obtain ⟨r, M1, N1, e1, e2, hR1⟩ := c_end hR _
  exact lk_end C ⟨by omega, by omega⟩ x4 h1 e1 e2 (kk _ _ v cs ss hR1 (by omega) (by omega))
theorem ls_fault (C : CtL z) (hR : Rel M N) (hc : Fit cs ss)  (kk : Aft z cs ss x4) : JL z cs ss M N v 358 (L0 z x4) [] := by
  obtain ⟨r, M1, N1, e1, e2, s1, s2⟩ := c_fault hR 
  exact lk_fault C ⟨by omega, by omega⟩ x4  e1 e2 (kk _ _ v cs ss ((hR.sm s1).sn s2) (by omega) (by omega))
theorem ls_rules (C : CtL z) (hR : Rel M N) (hc : Fit cs ss)  (kk : Aft z cs ss x4) : JL z cs ss M N v 371 (L0 z x4) [] := by
  obtain ⟨r, M1, N1, e1, e2, hR1⟩ := c_rules hR 
  exact lk_rules C ⟨by omega, by omega⟩ x4  e1 e2 (kk _ _ v cs ss hR1 (by omega) (by omega))
theorem ls_rule (C : CtL z) (hR : Rel M N) (hc : Fit cs ss) (h1 : vp_in (x4 + 1) (z_L z)) (kk : Aft z cs ss x4) : JL z cs ss M N v 384 (L0 z x4) [] := by
  obtain ⟨r, N1, e1, e2, s2⟩ := c_rule hR _
  exact lk_rule C ⟨by omega, by omega⟩ x4 h1 e1 e2 (kk _ _ v cs ss (hR.sn s2) (by omega) (by omega))
theorem ls_guardian (C : CtL z) (hR : Rel M N) (hc : Fit cs ss) (h1 : vp_in (x4 + 1) (z_L z)) (kk : Aft z cs ss x4) : JL z cs ss M N v 409 (L0 z x4) [] := by
  obtain ⟨r, M1, N1, e1, e2, hR1⟩ := c_guardian hR _
  exact lk_guardian C ⟨by omega, by omega⟩ x4 h1 e1 e2 (kk _ _ v cs ss hR1 (by omega) (by omega))
theorem ls_bond (C : CtL z) (hR : Rel M N) (hc : Fit cs ss) (h1 : vp_in (x4 + 1) (z_L z)) (h2 : vp_in (x4 + 2) (z_L z)) (kk : Aft z cs ss x4) : JL z cs ss M N v 434 (L0 z x4) [] := by
  obtain ⟨r, M1, N1, e1, e2, hR1⟩ := c_bond hR _ _
  exact lk_bond C ⟨by omega, by omega⟩ x4 h1 h2 e1 e2 (kk _ _ v cs ss hR1 (by omega) (by omega))
theorem ls_ward (C : CtL z) (hR : Rel M N) (hc : Fit cs ss) (h1 : vp_in (x4 + 1) (z_L z)) (h2 : vp_in (x4 + 2) (z_L z)) (kk : Aft z cs ss x4) : JL z cs ss M N v 471 (L0 z x4) [] := by
  obtain ⟨r, M1, N1, e1, e2, hR1⟩ := c_ward hR _ _
  exact lk_ward C ⟨by omega, by omega⟩ x4 h1 h2 e1 e2 (kk _ _ v cs ss hR1 (by omega) (by omega))
theorem ls_change (C : CtL z) (hR : Rel M N) (hc : Fit cs ss) (h1 : vp_in (x4 + 1) (z_L z)) (h2 : vp_in (x4 + 2) (z_L z)) (h3 : vp_in (x4 + 3) (z_L z)) (kk : Aft z cs ss x4) : JL z cs ss M N v 508 (L0 z x4) [] := by
  obtain ⟨r, M1, N1, e1, e2, hR1⟩ := c_change hR _ _ _
  exact lk_change C ⟨by omega, by omega⟩ x4 h1 h2 h3 e1 e2 (kk _ _ v cs ss hR1 (by omega) (by omega))
theorem ls_receive (C : CtL z) (hR : Rel M N) (hc : Fit cs ss) (h1 : vp_in (x4 + 1) (z_L z)) (h2 : vp_in (x4 + 2) (z_L z)) (h3 : vp_in (x4 + 3) (z_L z)) (h4 : vp_in (x4 + 4) (z_L z)) (kk : Aft z cs ss x4) : JL z cs ss M N v 557 (L0 z x4) [] := by
  obtain ⟨r, M1, N1, e1, e2, hR1⟩ := c_receive hR _ _ _ _
  exact lk_receive C ⟨by omega, by omega⟩ x4 h1 h2 h3 h4 e1 e2 (kk _ _ v cs ss hR1 (by omega) (by omega))
theorem ls_pay (C : CtL z) (hR : Rel M N) (hc : Fit cs ss) (h1 : vp_in (x4 + 1) (z_L z)) (h2 : vp_in (x4 + 2) (z_L z)) (h3 : vp_in (x4 + 3) (z_L z)) (h4 : vp_in (x4 + 4) (z_L z)) (h5 : vp_in (x4 + 5) (z_L z)) (kk : Aft z cs ss x4) : JL z cs ss M N v 618 (L0 z x4) [] := by
  obtain ⟨r, M1, N1, e1, e2, hR1⟩ := c_pay hR _ _ _ _ _
  exact lk_pay C ⟨by omega, by omega⟩ x4 h1 h2 h3 h4 h5 e1 e2 (kk _ _ v cs ss hR1 (by omega) (by omega))
theorem ls_layOut (C : CtL z) (hR : Rel M N) (hc : Fit cs ss) (h1 : vp_in (x4 + 1) (z_L z)) (h2 : vp_in (x4 + 2) (z_L z)) (h3 : vp_in (x4 + 3) (z_L z)) (kk : Aft z cs ss x4) : JL z cs ss M N v 691 (L0 z x4) [] := by
  obtain ⟨r, M1, N1, e1, e2, hR1⟩ := c_layOut hR _ _ _
  exact lk_layOut C ⟨by omega, by omega⟩ x4 h1 h2 h3 e1 e2 (kk _ _ v cs ss hR1 (by omega) (by omega))
theorem ls_callIn (C : CtL z) (hR : Rel M N) (hc : Fit cs ss) (h1 : vp_in (x4 + 1) (z_L z)) (h2 : vp_in (x4 + 2) (z_L z)) (h3 : vp_in (x4 + 3) (z_L z)) (kk : Aft z cs ss x4) : JL z cs ss M N v 740 (L0 z x4) [] := by
  obtain ⟨r, M1, N1, e1, e2, hR1⟩ := c_callIn hR _ _ _
  exact lk_callIn C ⟨by omega, by omega⟩ x4 h1 h2 h3 e1 e2 (kk _ _ v cs ss hR1 (by omega) (by omega))
theorem ls_order (C : CtL z) (hR : Rel M N) (hc : Fit cs ss) (h1 : vp_in (x4 + 1) (z_L z)) (h2 : vp_in (x4 + 2) (z_L z)) (h3 : vp_in (x4 + 3) (z_L z)) (h4 : vp_in (x4 + 4) (z_L z)) (h5 : vp_in (x4 + 5) (z_L z)) (kk : Aft z cs ss x4) : JL z cs ss M N v 789 (L0 z x4) [] := by
  obtain ⟨r, M1, N1, e1, e2, hR1⟩ := c_order hR _ _ _ _ _
  exact lk_order C ⟨by omega, by omega⟩ x4 h1 h2 h3 h4 h5 e1 e2 (kk _ _ v cs ss hR1 (by omega) (by omega))
theorem ls_ratify (C : CtL z) (hR : Rel M N) (hc : Fit cs ss) (h1 : vp_in (x4 + 1) (z_L z)) (kk : Aft z cs ss x4) : JL z cs ss M N v 862 (L0 z x4) [] := by
  obtain ⟨r, M1, N1, e1, e2, hR1⟩ := c_ratify hR _
  exact lk_ratify C ⟨by omega, by omega⟩ x4 h1 e1 e2 (kk _ _ v cs ss hR1 (by omega) (by omega))
theorem ls_close (C : CtL z) (hR : Rel M N) (hc : Fit cs ss) (h1 : vp_in (x4 + 1) (z_L z)) (kk : Aft z cs ss x4) : JL z cs ss M N v 887 (L0 z x4) [] := by
  obtain ⟨r, M1, N1, e1, e2, hR1⟩ := c_close hR _
  exact lk_close C ⟨by omega, by omega⟩ x4 h1 e1 e2 (kk _ _ v cs ss hR1 (by omega) (by omega))
theorem ls_settle (C : CtL z) (hR : Rel M N) (hc : Fit cs ss) (h1 : vp_in (x4 + 1) (z_L z)) (kk : Aft z cs ss x4) : JL z cs ss M N v 912 (L0 z x4) [] := by
  obtain ⟨r, M1, N1, e1, e2, hR1⟩ := c_settle hR _
  exact lk_settle C ⟨by omega, by omega⟩ x4 h1 e1 e2 (kk _ _ v cs ss hR1 (by omega) (by omega))
theorem ls_money (C : CtL z) (hR : Rel M N) (hc : Fit cs ss) (h1 : vp_in (x4 + 1) (z_L z)) (h2 : vp_in (x4 + 2) (z_L z)) (kk : Aft z cs ss x4) : JL z cs ss M N v 937 (L0 z x4) [] := by
  obtain ⟨r, N1, e1, e2, s2⟩ := c_money hR _ _
  exact lk_money C ⟨by omega, by omega⟩ x4 h1 h2 e1 e2 (kk _ _ v cs ss (hR.sn s2) (by omega) (by omega))
theorem ls_out (C : CtL z) (hR : Rel M N) (hc : Fit cs ss) (h1 : vp_in (x4 + 1) (z_L z)) (h2 : vp_in (x4 + 2) (z_L z)) (kk : Aft z cs ss x4) : JL z cs ss M N v 974 (L0 z x4) [] := by
  obtain ⟨r, N1, e1, e2, s2⟩ := c_out hR _ _
  exact lk_out C ⟨by omega, by omega⟩ x4 h1 h2 e1 e2 (kk _ _ v cs ss (hR.sn s2) (by omega) (by omega))
theorem ls_idle (C : CtL z) (hR : Rel M N) (hc : Fit cs ss) (h1 : vp_in (x4 + 1) (z_L z)) (h2 : vp_in (x4 + 2) (z_L z)) (kk : Aft z cs ss x4) : JL z cs ss M N v 1011 (L0 z x4) [] := by
  obtain ⟨r, M1, N1, e1, e2, s1, s2⟩ := c_idle hR _ _
  exact lk_idle C ⟨by omega, by omega⟩ x4 h1 h2 e1 e2 (kk _ _ v cs ss ((hR.sm s1).sn s2) (by omega) (by omega))
theorem ls_charge (C : CtL z) (hR : Rel M N) (hc : Fit cs ss) (h1 : vp_in (x4 + 1) (z_L z)) (h2 : vp_in (x4 + 2) (z_L z)) (kk : Aft z cs ss x4) : JL z cs ss M N v 1048 (L0 z x4) [] := by
  obtain ⟨r, M1, N1, e1, e2, s1, s2⟩ := c_charge hR _ _
  exact lk_charge C ⟨by omega, by omega⟩ x4 h1 h2 e1 e2 (kk _ _ v cs ss ((hR.sm s1).sn s2) (by omega) (by omega))
theorem ls_commission (C : CtL z) (hR : Rel M N) (hc : Fit cs ss) (h1 : vp_in (x4 + 1) (z_L z)) (h2 : vp_in (x4 + 2) (z_L z)) (kk : Aft z cs ss x4) : JL z cs ss M N v 1085 (L0 z x4) [] := by
  obtain ⟨r, N1, e1, e2, s2⟩ := c_commission hR _ _
  exact lk_commission C ⟨by omega, by omega⟩ x4 h1 h2 e1 e2 (kk _ _ v cs ss (hR.sn s2) (by omega) (by omega))
theorem ls_allowance (C : CtL z) (hR : Rel M N) (hc : Fit cs ss) (h1 : vp_in (x4 + 1) (z_L z)) (h2 : vp_in (x4 + 2) (z_L z)) (h3 : vp_in (x4 + 3) (z_L z)) (kk : Aft z cs ss x4) : JL z cs ss M N v 1122 (L0 z x4) [] := by
  obtain ⟨r, N1, e1, e2, s2⟩ := c_allowance hR _ _ _
  exact lk_allowance C ⟨by omega, by omega⟩ x4 h1 h2 h3 e1 e2 (kk _ _ v cs ss (hR.sn s2) (by omega) (by omega))
theorem ls_payment (C : CtL z) (hR : Rel M N) (hc : Fit cs ss) (h1 : vp_in (x4 + 1) (z_L z)) (h2 : vp_in (x4 + 2) (z_L z)) (kk : Aft z cs ss x4) : JL z cs ss M N v 1239 (L0 z x4) [] := by
  obtain ⟨r, N1, e1, e2, s2⟩ := c_payment hR _ _
  exact lk_payment C ⟨by omega, by omega⟩ x4 h1 h2 e1 e2 (kk _ _ v cs ss (hR.sn s2) (by omega) (by omega))
theorem ls_account (C : CtL z) (hR : Rel M N) (hc : Fit cs ss) (h1 : vp_in (x4 + 1) (z_L z)) (h2 : vp_in (x4 + 2) (z_L z)) (h3 : vp_in (x4 + 3) (z_L z)) (kk : Aft z cs ss x4) : JL z cs ss M N v 1276 (L0 z x4) [] := by
  obtain ⟨r, M1, N1, e1, e2, s1, s2⟩ := c_account hR _ _ _
  exact lk_account C ⟨by omega, by omega⟩ x4 h1 h2 h3 e1 e2 (kk _ _ v cs ss ((hR.sm s1).sn s2) (by omega) (by omega))
theorem ls_month (C : CtL z) (hR : Rel M N) (hc : Fit cs ss) (h1 : vp_in (x4 + 1) (z_L z)) (h2 : vp_in (x4 + 2) (z_L z)) (h3 : vp_in (x4 + 3) (z_L z)) (kk : Aft z cs ss x4) : JL z cs ss M N v 1325 (L0 z x4) [] := by
  obtain ⟨r, M1, N1, e1, e2, s1, s2⟩ := c_month hR _ _ _
  exact lk_month C ⟨by omega, by omega⟩ x4 h1 h2 h3 e1 e2 (kk _ _ v cs ss ((hR.sm s1).sn s2) (by omega) (by omega))
theorem ls_extreme (C : CtL z) (hR : Rel M N) (hc : Fit cs ss) (h1 : vp_in (x4 + 1) (z_L z)) (h2 : vp_in (x4 + 2) (z_L z)) (h3 : vp_in (x4 + 3) (z_L z)) (kk : Aft z cs ss x4) : JL z cs ss M N v 1374 (L0 z x4) [] := by
  obtain ⟨r, M1, N1, e1, e2, s1, s2⟩ := c_extreme hR _ _ _
  exact lk_extreme C ⟨by omega, by omega⟩ x4 h1 h2 h3 e1 e2 (kk _ _ v cs ss ((hR.sm s1).sn s2) (by omega) (by omega))
theorem ls_mean (C : CtL z) (hR : Rel M N) (hc : Fit cs ss) (h1 : vp_in (x4 + 1) (z_L z)) (kk : Aft z cs ss x4) : JL z cs ss M N v 1423 (L0 z x4) [] := by
  obtain ⟨r, N1, e1, e2, s2⟩ := c_mean hR _
  exact lk_mean C ⟨by omega, by omega⟩ x4 h1 e1 e2 (kk _ _ v cs ss (hR.sn s2) (by omega) (by omega))
theorem ls_lasts (C : CtL z) (hR : Rel M N) (hc : Fit cs ss) (h1 : vp_in (x4 + 1) (z_L z)) (h2 : vp_in (x4 + 2) (z_L z)) (kk : Aft z cs ss x4) : JL z cs ss M N v 1448 (L0 z x4) [] := by
  obtain ⟨r, N1, e1, e2, s2⟩ := c_lasts hR _ _
  exact lk_lasts C ⟨by omega, by omega⟩ x4 h1 h2 e1 e2 (kk _ _ v cs ss (hR.sn s2) (by omega) (by omega))
theorem ls_whose (C : CtL z) (hR : Rel M N) (hc : Fit cs ss) (h1 : vp_in (x4 + 1) (z_L z)) (h2 : vp_in (x4 + 2) (z_L z)) (kk : Aft z cs ss x4) : JL z cs ss M N v 1485 (L0 z x4) [] := by
  obtain ⟨r, N1, e1, e2, s2⟩ := c_whose hR _ _
  exact lk_whose C ⟨by omega, by omega⟩ x4 h1 h2 e1 e2 (kk _ _ v cs ss (hR.sn s2) (by omega) (by omega))
theorem ls_bonded (C : CtL z) (hR : Rel M N) (hc : Fit cs ss) (h1 : vp_in (x4 + 1) (z_L z)) (h2 : vp_in (x4 + 2) (z_L z)) (h3 : vp_in (x4 + 3) (z_L z)) (kk : Aft z cs ss x4) : JL z cs ss M N v 1522 (L0 z x4) [] := by
  obtain ⟨r, M1, N1, e1, e2, s1, s2⟩ := c_bonded hR _ _ _
  exact lk_bonded C ⟨by omega, by omega⟩ x4 h1 h2 h3 e1 e2 (kk _ _ v cs ss ((hR.sm s1).sn s2) (by omega) (by omega))
theorem ls_liable (C : CtL z) (hR : Rel M N) (hc : Fit cs ss) (h1 : vp_in (x4 + 1) (z_L z)) (h2 : vp_in (x4 + 2) (z_L z)) (kk : Aft z cs ss x4) : JL z cs ss M N v 1571 (L0 z x4) [] := by
  obtain ⟨r, M1, N1, e1, e2, s1, s2⟩ := c_liable hR _ _
  exact lk_liable C ⟨by omega, by omega⟩ x4 h1 h2 e1 e2 (kk _ _ v cs ss ((hR.sm s1).sn s2) (by omega) (by omega))
theorem ls_dispute (C : CtL z) (hR : Rel M N) (hc : Fit cs ss) (h1 : vp_in (x4 + 1) (z_L z)) (kk : Aft z cs ss x4) : JL z cs ss M N v 1608 (L0 z x4) [] := by
  obtain ⟨r, M1, N1, e1, e2, s1, s2⟩ := c_dispute hR _
  exact lk_dispute C ⟨by omega, by omega⟩ x4 h1 e1 e2 (kk _ _ v cs ss ((hR.sm s1).sn s2) (by omega) (by omega))
theorem ls_holder (C : CtL z) (hR : Rel M N) (hc : Fit cs ss) (h1 : vp_in (x4 + 1) (z_L z)) (kk : Aft z cs ss x4) : JL z cs ss M N v 1633 (L0 z x4) [] := by
  obtain ⟨r, N1, e1, e2, s2⟩ := c_holder hR _
  exact lk_holder C ⟨by omega, by omega⟩ x4 h1 e1 e2 (kk _ _ v cs ss (hR.sn s2) (by omega) (by omega))
theorem ls_again (C : CtL z) (hR : Rel M N) (hc : Fit cs ss) (h1 : vp_in (x4 + 1) (z_L z)) (kk : Aft z cs ss x4) : JL z cs ss M N v 1658 (L0 z x4) [] := by
  obtain ⟨r, M1, N1, e1, e2, s1, s2⟩ := c_again hR _
  exact lk_again C ⟨by omega, by omega⟩ x4 h1 e1 e2 (kk _ _ v cs ss ((hR.sm s1).sn s2) (by omega) (by omega))
theorem ls_needed (C : CtL z) (hR : Rel M N) (hc : Fit cs ss) (h1 : vp_in (x4 + 1) (z_L z)) (h2 : vp_in (x4 + 2) (z_L z)) (kk : Aft z cs ss x4) : JL z cs ss M N v 1683 (L0 z x4) [] := by
  obtain ⟨r, M1, N1, e1, e2, s1, s2⟩ := c_needed hR _ _
  exact lk_needed C ⟨by omega, by omega⟩ x4 h1 h2 e1 e2 (kk _ _ v cs ss ((hR.sm s1).sn s2) (by omega) (by omega))
theorem ls_ranked (C : CtL z) (hR : Rel M N) (hc : Fit cs ss) (h1 : vp_in (x4 + 1) (z_L z)) (h2 : vp_in (x4 + 2) (z_L z)) (kk : Aft z cs ss x4) : JL z cs ss M N v 1720 (L0 z x4) [] := by
  obtain ⟨r, M1, N1, e1, e2, s1, s2⟩ := c_ranked hR _ _
  exact lk_ranked C ⟨by omega, by omega⟩ x4 h1 h2 e1 e2 (kk _ _ v cs ss ((hR.sm s1).sn s2) (by omega) (by omega))
theorem ls_missing (C : CtL z) (hR : Rel M N) (hc : Fit cs ss) (h1 : vp_in (x4 + 1) (z_L z)) (kk : Aft z cs ss x4) : JL z cs ss M N v 1757 (L0 z x4) [] := by
  obtain ⟨r, M1, N1, e1, e2, s1, s2⟩ := c_missing hR _
  exact lk_missing C ⟨by omega, by omega⟩ x4 h1 e1 e2 (kk _ _ v cs ss ((hR.sm s1).sn s2) (by omega) (by omega))
theorem ls_saved (C : CtL z) (hR : Rel M N) (hc : Fit cs ss) (h1 : vp_in (x4 + 1) (z_L z)) (h2 : vp_in (x4 + 2) (z_L z)) (h3 : vp_in (x4 + 3) (z_L z)) (kk : Aft z cs ss x4) : JL z cs ss M N v 1782 (L0 z x4) [] := by
  obtain ⟨r, M1, N1, e1, e2, s1, s2⟩ := c_saved hR _ _ _
  exact lk_saved C ⟨by omega, by omega⟩ x4 h1 h2 h3 e1 e2 (kk _ _ v cs ss ((hR.sm s1).sn s2) (by omega) (by omega))
theorem ls_bestDay (C : CtL z) (hR : Rel M N) (hc : Fit cs ss) (h1 : vp_in (x4 + 1) (z_L z)) (h2 : vp_in (x4 + 2) (z_L z)) (h3 : vp_in (x4 + 3) (z_L z)) (h4 : vp_in (x4 + 4) (z_L z)) (kk : Aft z cs ss x4) : JL z cs ss M N v 1831 (L0 z x4) [] := by
  obtain ⟨r, M1, N1, e1, e2, s1, s2⟩ := c_bestDay hR _ _ _ _
  exact lk_bestDay C ⟨by omega, by omega⟩ x4 h1 h2 h3 h4 e1 e2 (kk _ _ v cs ss ((hR.sm s1).sn s2) (by omega) (by omega))
theorem ls_ofAge (C : CtL z) (hR : Rel M N) (hc : Fit cs ss) (h1 : vp_in (x4 + 1) (z_L z)) (kk : Aft z cs ss x4) : JL z cs ss M N v 1892 (L0 z x4) [] := by
  obtain ⟨r, N1, e1, e2, s2⟩ := c_ofAge hR _
  exact lk_ofAge C ⟨by omega, by omega⟩ x4 h1 e1 e2 (kk _ _ v cs ss (hR.sn s2) (by omega) (by omega))
theorem ls_due (C : CtL z) (hR : Rel M N) (hc : Fit cs ss) (h1 : vp_in (x4 + 1) (z_L z)) (kk : Aft z cs ss x4) : JL z cs ss M N v 1917 (L0 z x4) [] := by
  obtain ⟨r, N1, e1, e2, s2⟩ := c_due hR _
  exact lk_due C ⟨by omega, by omega⟩ x4 h1 e1 e2 (kk _ _ v cs ss (hR.sn s2) (by omega) (by omega))
theorem ls_wardOf (C : CtL z) (hR : Rel M N) (hc : Fit cs ss) (h1 : vp_in (x4 + 1) (z_L z)) (h2 : vp_in (x4 + 2) (z_L z)) (kk : Aft z cs ss x4) : JL z cs ss M N v 1942 (L0 z x4) [] := by
  obtain ⟨r, N1, e1, e2, s2⟩ := c_wardOf hR _ _
  exact lk_wardOf C ⟨by omega, by omega⟩ x4 h1 h2 e1 e2 (kk _ _ v cs ss (hR.sn s2) (by omega) (by omega))
theorem ls_undo (C : CtL z) (hR : Rel M N) (hc : Fit cs ss)  (kk : Aft z cs ss x4) : JL z cs ss M N v 2004 (L0 z x4) [] := by
  obtain ⟨r, M1, N1, e1, e2, hR1⟩ := c_undo hR 
  exact lk_undo C ⟨by omega, by omega⟩ x4  e1 e2 (kk _ _ v cs ss hR1 (by omega) (by omega))
theorem ls_image (C : CtL z) (hR : Rel M N) (hc : Fit cs ss)  (kk : Aft z cs ss x4) : JL z cs ss M N v 2017 (L0 z x4) [] := by
  obtain ⟨r, M1, N1, e1, e2, hR1⟩ := c_image hR 
  exact lk_image C ⟨by omega, by omega⟩ x4  e1 e2 (kk _ _ v cs ss hR1 (by omega) (by omega))
theorem ls_back (C : CtL z) (hR : Rel M N) (hc : Fit cs ss)  (kk : Aft z cs ss x4) : JL z cs ss M N v 2030 (L0 z x4) [] := by
  obtain ⟨r, M1, N1, e1, e2, hR1⟩ := c_back hR 
  exact lk_back C ⟨by omega, by omega⟩ x4  e1 e2 (kk _ _ v cs ss hR1 (by omega) (by omega))
theorem ls_status (C : CtL z) (hR : Rel M N) (hc : Fit cs ss) (h1 : vp_in (x4 + 1) (z_L z)) (kk : Aft z cs ss x4) : JL z cs ss M N v 2043 (L0 z x4) [] := by
  obtain ⟨r, N1, e1, e2, s2⟩ := c_status hR _
  exact lk_status C ⟨by omega, by omega⟩ x4 h1 e1 e2 (kk _ _ v cs ss (hR.sn s2) (by omega) (by omega))
theorem ls_most (C : CtL z) (hR : Rel M N) (hc : Fit cs ss) (h1 : vp_in (x4 + 1) (z_L z)) (h2 : vp_in (x4 + 2) (z_L z)) (kk : Aft z cs ss x4) : JL z cs ss M N v 2068 (L0 z x4) [] := by
  obtain ⟨r, M1, N1, e1, e2, s1, s2⟩ := c_most hR _ _
  exact lk_most C ⟨by omega, by omega⟩ x4 h1 h2 e1 e2 (kk _ _ v cs ss ((hR.sm s1).sn s2) (by omega) (by omega))
theorem ls_count (C : CtL z) (hR : Rel M N) (hc : Fit cs ss) (h1 : vp_in (x4 + 1) (z_L z)) (kk : Aft z cs ss x4) : JL z cs ss M N v 2105 (L0 z x4) [] := by
  obtain ⟨r, N1, e1, e2, s2⟩ := c_count hR _
  exact lk_count C ⟨by omega, by omega⟩ x4 h1 e1 e2 (kk _ _ v cs ss (hR.sn s2) (by omega) (by omega))
theorem ls_entry (C : CtL z) (hl : (z_l z).stackTraces = false) {sb : Nat × Nat} (hX : EX sb (z_A z) (z_s z) (z_s z).heap) (hR : Rel M N) (hc : Fit cs ss) (h1 : vp_in (x4 + 1) (z_L z)) (h2 : vp_in (x4 + 2) (z_L z)) (kk : Aft z cs ss x4) : JL z cs ss M N v 1171 (L0 z x4) [] := by
  obtain ⟨r, b, N1, e1, e2, e3, e4, s2⟩ := c_entry hR (z_x z (x4 + 1).toNatClampNeg) (z_x z (x4 + 2).toNatClampNeg)
  exact lk_entry C hl hX ⟨by omega, by omega⟩ x4 h1 h2 e1 e2 e3 e4 (kk _ _ _ _ _ (hR.sn s2) (by omega) (by omega))
end LOOP
