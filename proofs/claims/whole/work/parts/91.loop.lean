section LOOP2
variable {z : xL} {cs ss : Nat} {M N : xM} {v : Int64} {x4 : Int32}
theorem l_step (C : CtL z) (hl : (z_l z).stackTraces = false) {sb : Nat × Nat} (hX : EX sb (z_A z) (z_s z) (z_s z).heap) (hW : Wri z) (hR : Rel M N) (hc : Fit cs ss) (h0 : vp_in x4 (z_L z)) (h1 : vp_in (x4 + 1) (z_L z)) (h2 : vp_in (x4 + 2) (z_L z)) (h3 : vp_in (x4 + 3) (z_L z)) (h4 : vp_in (x4 + 4) (z_L z)) (h5 : vp_in (x4 + 5) (z_L z)) (kk : Aft z cs ss x4) : JL z cs ss M N v 33 (L0 z x4) [] := by
  refine l_aload_n C 0 dL_law_33 rfl rfl ?_
  refine l_iload C 4 dL_law_34 rfl ?_
  refine l_sld C h0 dL_law_36 ?_
  refine l_bipush (w := 63) C dL_law_37 rfl ?_
  refine l_iand C dL_law_39 ?_
  generalize z_x z x4.toNatClampNeg &&& 63 = op
  have i0 : (0 : Int32).toInt = 0 := by decide
  by_cases c : op.toInt < 0 ∨ 50 < op.toInt
  · exact l_tout C 2130 dL_law_40 c (by decide) (kk _ _ v cs ss hR (by omega) (by omega))
  obtain ⟨n, -, rfl, hn⟩ := nI_of0 (a := op) (by omega)
  have hn : n < 51 := by omega
  match n, hn with
  | 0, _ => exact l_tin C (w := 0) (off := 220) rfl 260 dL_law_40 (by decide) (by decide) (by decide) (by decide) (ls_feed C hR hc h1 h2 h3 h4 h5 kk)
  | 1, _ => exact l_tin C (w := 1) (off := 293) rfl 333 dL_law_40 (by decide) (by decide) (by decide) (by decide) (ls_end C hR hc h1 kk)
  | 2, _ => exact l_tin C (w := 2) (off := 318) rfl 358 dL_law_40 (by decide) (by decide) (by decide) (by decide) (ls_fault C hR hc  kk)
  | 3, _ => exact l_tin C (w := 3) (off := 331) rfl 371 dL_law_40 (by decide) (by decide) (by decide) (by decide) (ls_rules C hR hc  kk)
  | 4, _ => exact l_tin C (w := 4) (off := 344) rfl 384 dL_law_40 (by decide) (by decide) (by decide) (by decide) (ls_rule C hR hc h1 kk)
  | 5, _ => exact l_tin C (w := 5) (off := 369) rfl 409 dL_law_40 (by decide) (by decide) (by decide) (by decide) (ls_guardian C hR hc h1 kk)
  | 6, _ => exact l_tin C (w := 6) (off := 394) rfl 434 dL_law_40 (by decide) (by decide) (by decide) (by decide) (ls_bond C hR hc h1 h2 kk)
  | 7, _ => exact l_tin C (w := 7) (off := 431) rfl 471 dL_law_40 (by decide) (by decide) (by decide) (by decide) (ls_ward C hR hc h1 h2 kk)
  | 8, _ => exact l_tin C (w := 8) (off := 468) rfl 508 dL_law_40 (by decide) (by decide) (by decide) (by decide) (ls_change C hR hc h1 h2 h3 kk)
  | 9, _ => exact l_tin C (w := 9) (off := 517) rfl 557 dL_law_40 (by decide) (by decide) (by decide) (by decide) (ls_receive C hR hc h1 h2 h3 h4 kk)
  | 10, _ => exact l_tin C (w := 10) (off := 578) rfl 618 dL_law_40 (by decide) (by decide) (by decide) (by decide) (ls_pay C hR hc h1 h2 h3 h4 h5 kk)
  | 11, _ => exact l_tin C (w := 11) (off := 651) rfl 691 dL_law_40 (by decide) (by decide) (by decide) (by decide) (ls_layOut C hR hc h1 h2 h3 kk)
  | 12, _ => exact l_tin C (w := 12) (off := 700) rfl 740 dL_law_40 (by decide) (by decide) (by decide) (by decide) (ls_callIn C hR hc h1 h2 h3 kk)
  | 13, _ => exact l_tin C (w := 13) (off := 749) rfl 789 dL_law_40 (by decide) (by decide) (by decide) (by decide) (ls_order C hR hc h1 h2 h3 h4 h5 kk)
  | 14, _ => exact l_tin C (w := 14) (off := 822) rfl 862 dL_law_40 (by decide) (by decide) (by decide) (by decide) (ls_ratify C hR hc h1 kk)
  | 15, _ => exact l_tin C (w := 15) (off := 847) rfl 887 dL_law_40 (by decide) (by decide) (by decide) (by decide) (ls_close C hR hc h1 kk)
  | 16, _ => exact l_tin C (w := 16) (off := 872) rfl 912 dL_law_40 (by decide) (by decide) (by decide) (by decide) (ls_settle C hR hc h1 kk)
  | 17, _ => exact l_tin C (w := 17) (off := 897) rfl 937 dL_law_40 (by decide) (by decide) (by decide) (by decide) (ls_money C hR hc h1 h2 kk)
  | 18, _ => exact l_tin C (w := 18) (off := 934) rfl 974 dL_law_40 (by decide) (by decide) (by decide) (by decide) (ls_out C hR hc h1 h2 kk)
  | 19, _ => exact l_tin C (w := 19) (off := 971) rfl 1011 dL_law_40 (by decide) (by decide) (by decide) (by decide) (ls_idle C hR hc h1 h2 kk)
  | 20, _ => exact l_tin C (w := 20) (off := 1008) rfl 1048 dL_law_40 (by decide) (by decide) (by decide) (by decide) (ls_charge C hR hc h1 h2 kk)
  | 21, _ => exact l_tin C (w := 21) (off := 1045) rfl 1085 dL_law_40 (by decide) (by decide) (by decide) (by decide) (ls_commission C hR hc h1 h2 kk)
  | 22, _ => exact l_tin C (w := 22) (off := 1082) rfl 1122 dL_law_40 (by decide) (by decide) (by decide) (by decide) (ls_allowance C hR hc h1 h2 h3 kk)
  | 23, _ => exact l_tin C (w := 23) (off := 1131) rfl 1171 dL_law_40 (by decide) (by decide) (by decide) (by decide) (ls_entry C hl hX hR hc h1 h2 kk)
  | 24, _ => exact l_tin C (w := 24) (off := 1199) rfl 1239 dL_law_40 (by decide) (by decide) (by decide) (by decide) (ls_payment C hR hc h1 h2 kk)
  | 25, _ => exact l_tin C (w := 25) (off := 1236) rfl 1276 dL_law_40 (by decide) (by decide) (by decide) (by decide) (ls_account C hR hc h1 h2 h3 kk)
  | 26, _ => exact l_tin C (w := 26) (off := 1285) rfl 1325 dL_law_40 (by decide) (by decide) (by decide) (by decide) (ls_month C hR hc h1 h2 h3 kk)
  | 27, _ => exact l_tin C (w := 27) (off := 1334) rfl 1374 dL_law_40 (by decide) (by decide) (by decide) (by decide) (ls_extreme C hR hc h1 h2 h3 kk)
  | 28, _ => exact l_tin C (w := 28) (off := 1383) rfl 1423 dL_law_40 (by decide) (by decide) (by decide) (by decide) (ls_mean C hR hc h1 kk)
  | 29, _ => exact l_tin C (w := 29) (off := 1408) rfl 1448 dL_law_40 (by decide) (by decide) (by decide) (by decide) (ls_lasts C hR hc h1 h2 kk)
  | 30, _ => exact l_tin C (w := 30) (off := 1445) rfl 1485 dL_law_40 (by decide) (by decide) (by decide) (by decide) (ls_whose C hR hc h1 h2 kk)
  | 31, _ => exact l_tin C (w := 31) (off := 1482) rfl 1522 dL_law_40 (by decide) (by decide) (by decide) (by decide) (ls_bonded C hR hc h1 h2 h3 kk)
  | 32, _ => exact l_tin C (w := 32) (off := 1531) rfl 1571 dL_law_40 (by decide) (by decide) (by decide) (by decide) (ls_liable C hR hc h1 h2 kk)
  | 33, _ => exact l_tin C (w := 33) (off := 1568) rfl 1608 dL_law_40 (by decide) (by decide) (by decide) (by decide) (ls_dispute C hR hc h1 kk)
  | 34, _ => exact l_tin C (w := 34) (off := 1593) rfl 1633 dL_law_40 (by decide) (by decide) (by decide) (by decide) (ls_holder C hR hc h1 kk)
  | 35, _ => exact l_tin C (w := 35) (off := 1618) rfl 1658 dL_law_40 (by decide) (by decide) (by decide) (by decide) (ls_again C hR hc h1 kk)
  | 36, _ => exact l_tin C (w := 36) (off := 1643) rfl 1683 dL_law_40 (by decide) (by decide) (by decide) (by decide) (ls_needed C hR hc h1 h2 kk)
  | 37, _ => exact l_tin C (w := 37) (off := 1680) rfl 1720 dL_law_40 (by decide) (by decide) (by decide) (by decide) (ls_ranked C hR hc h1 h2 kk)
  | 38, _ => exact l_tin C (w := 38) (off := 1717) rfl 1757 dL_law_40 (by decide) (by decide) (by decide) (by decide) (ls_missing C hR hc h1 kk)
  | 39, _ => exact l_tin C (w := 39) (off := 1742) rfl 1782 dL_law_40 (by decide) (by decide) (by decide) (by decide) (ls_saved C hR hc h1 h2 h3 kk)
  | 40, _ => exact l_tin C (w := 40) (off := 1791) rfl 1831 dL_law_40 (by decide) (by decide) (by decide) (by decide) (ls_bestDay C hR hc h1 h2 h3 h4 kk)
  | 41, _ => exact l_tin C (w := 41) (off := 1852) rfl 1892 dL_law_40 (by decide) (by decide) (by decide) (by decide) (ls_ofAge C hR hc h1 kk)
  | 42, _ => exact l_tin C (w := 42) (off := 1877) rfl 1917 dL_law_40 (by decide) (by decide) (by decide) (by decide) (ls_due C hR hc h1 kk)
  | 43, _ => exact l_tin C (w := 43) (off := 1902) rfl 1942 dL_law_40 (by decide) (by decide) (by decide) (by decide) (ls_wardOf C hR hc h1 h2 kk)
  | 44, _ => exact l_tin C (w := 44) (off := 1939) rfl 1979 dL_law_40 (by decide) (by decide) (by decide) (by decide) (hW hR v cs ss x4 h1 hc kk)
  | 45, _ => exact l_tin C (w := 45) (off := 1964) rfl 2004 dL_law_40 (by decide) (by decide) (by decide) (by decide) (ls_undo C hR hc  kk)
  | 46, _ => exact l_tin C (w := 46) (off := 1977) rfl 2017 dL_law_40 (by decide) (by decide) (by decide) (by decide) (ls_image C hR hc  kk)
  | 47, _ => exact l_tin C (w := 47) (off := 1990) rfl 2030 dL_law_40 (by decide) (by decide) (by decide) (by decide) (ls_back C hR hc  kk)
  | 48, _ => exact l_tin C (w := 48) (off := 2003) rfl 2043 dL_law_40 (by decide) (by decide) (by decide) (by decide) (ls_status C hR hc h1 kk)
  | 49, _ => exact l_tin C (w := 49) (off := 2028) rfl 2068 dL_law_40 (by decide) (by decide) (by decide) (by decide) (ls_most C hR hc h1 h2 kk)
  | 50, _ => exact l_tin C (w := 50) (off := 2065) rfl 2105 dL_law_40 (by decide) (by decide) (by decide) (by decide) (ls_count C hR hc h1 kk)
  | n + 51, h => exact absurd h (by omega)
theorem vp_nI {m L : Nat} (h : m < L) (hL : L ≤ 3072) : vp_in (nI m) L := by
  intro z
  rcases z with z | z
  · rw [i_lt, nI_toInt (by omega), show (0 : Int32).toInt = 0 by decide] at z; omega
  · rw [clN (by omega)] at z; omega
theorem nI_p (m j : Nat) (h : m + j < 2 ^ 31) : nI m + nI j = nI (m + j) := by
  apply Int32.toInt_inj.mp
  rw [i_add (by rw [nI_toInt (by omega), nI_toInt (by omega)]; omega) (by rw [nI_toInt (by omega), nI_toInt (by omega)]; omega), nI_toInt (by omega), nI_toInt (by omega), nI_toInt h]
  omega
set_option maxRecDepth 20000 in
theorem l_loop (C : CtL z) (hl : (z_l z).stackTraces = false) {sb : Nat × Nat} (hX : EX sb (z_A z) (z_s z) (z_s z).heap) (hW : Wri z) (hL : z_L z ≤ 3072) : ∀ (n k : Nat) (cs ss : Nat) (M N : xM) (v : Int64), n + k = 600 → Rel M N → cs ≤ 1000 + 20 * k → ss ≤ 200000 + 2000 * k → JL z cs ss M N v 23 (L0 z (nI (6 * k))) [] := by
  intro n
  induction n with
  | zero =>
    intro k cs ss M N v hk hR h1 h2
    refine l_iload C 4 dL_law_23 rfl ?_
    refine l_aload_n C 0 dL_law_25 rfl rfl ?_
    refine l_slen C dL_law_26 ?_
    refine l_bipush (w := 6) C dL_law_27 rfl ?_
    refine l_isub C dL_law_29 ?_
    have e : (Int32.ofNat (z_L z) - 6 : Int32).toInt = (z_L z : Int) - 6 := by
      rw [i_sub (by rw [show (Int32.ofNat (z_L z)).toInt = (z_L z : Int) from nI_toInt (by omega), show (6 : Int32).toInt = 6 by decide]; omega) (by rw [show (Int32.ofNat (z_L z)).toInt = (z_L z : Int) from nI_toInt (by omega), show (6 : Int32).toInt = 6 by decide]; omega), show (Int32.ofNat (z_L z)).toInt = (z_L z : Int) from nI_toInt (by omega), show (6 : Int32).toInt = 6 by decide]
    refine l_icmp_gt C 2136 dL_law_30 (by decide) (fun _ => ?_) (fun q => absurd ?_ q)
    · exact l_iconst (w := 1) C dL_law_2136 rfl (l_end C (by omega) (by omega) dL_law_2137)
    · rw [i_lt, e, nI_toInt (by omega)]; omega
  | succ n ih =>
    intro k cs ss M N v hk hR h1 h2
    refine l_iload C 4 dL_law_23 rfl ?_
    refine l_aload_n C 0 dL_law_25 rfl rfl ?_
    refine l_slen C dL_law_26 ?_
    refine l_bipush (w := 6) C dL_law_27 rfl ?_
    refine l_isub C dL_law_29 ?_
    have e : (Int32.ofNat (z_L z) - 6 : Int32).toInt = (z_L z : Int) - 6 := by
      rw [i_sub (by rw [show (Int32.ofNat (z_L z)).toInt = (z_L z : Int) from nI_toInt (by omega), show (6 : Int32).toInt = 6 by decide]; omega) (by rw [show (Int32.ofNat (z_L z)).toInt = (z_L z : Int) from nI_toInt (by omega), show (6 : Int32).toInt = 6 by decide]; omega), show (Int32.ofNat (z_L z)).toInt = (z_L z : Int) from nI_toInt (by omega), show (6 : Int32).toInt = 6 by decide]
    refine l_icmp_gt C 2136 dL_law_30 (by decide) (fun _ => ?_) (fun q => ?_)
    · exact l_iconst (w := 1) C dL_law_2136 rfl (l_end C (by omega) (by omega) dL_law_2137)
    · have hk6 : 6 * k + 6 ≤ z_L z := by
        rw [i_lt, e, nI_toInt (by omega)] at q; omega
      have p : ∀ j : Nat, j < 6 → vp_in (nI (6 * k) + nI j) (z_L z) := fun j hj => by
        rw [nI_p _ _ (by omega)]; exact vp_nI (by omega) hL
      refine l_step C hl hX hW hR ⟨by omega, by omega⟩ (vp_nI (by omega) hL) (p 1 (by decide)) (p 2 (by decide)) (p 3 (by decide)) (p 4 (by decide)) (p 5 (by decide)) (fun M1 N1 v1 cs1 ss1 hR1 g1 g2 => ?_)
      refine l_iinc C 4 [(4, .int (nI (6 * (k + 1)))), (0, .ref (z_b z)), (1, .ref (z_1 z 0)), (2, .ref (z_2 z 0)), (3, .ref (z_o z))] dL_law_2130 rfl (w := nI (6 * (k + 1))) ?_ (by decide) rfl ?_
      · show nI (6 * k) + nI 6 = _
        rw [nI_p _ _ (by omega), show 6 * k + 6 = 6 * (k + 1) by omega]
      · have q1 : cs1 ≤ 1000 + 20 * (k + 1) := by omega
        have q2 : ss1 ≤ 200000 + 2000 * (k + 1) := by omega
        have q3 : n + (k + 1) = 600 := by omega
        refine l_goto C 23 dL_law_2133 (by decide) ?_
        exact l_sub (L' := L0 z (nI (6 * (k + 1)))) [1, 2, 3, 4, 0] rfl (ih (k + 1) cs1 ss1 M1 N1 v1 q3 hR1 q1 q2)
end LOOP2
