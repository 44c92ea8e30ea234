/-! writes: close -/
section
variable {M N : xM} {V A : Nat → Int32} {ng nw ne no : Nat}
/-- what lies behind the closed years is free -/
theorem BB.dead (B : BB M N V A ng nw ne no) {w cl : Nat} (hw : w < nw) (v3 : V (7 + 37 * w + 15) = nI cl) (hcl : cl < 10) (v : Int32) : BB (uM M (28 + 5 * w) cl v) N V A ng nw ne no := by
  have hb := B.bd
  obtain ⟨p, hg, hww, he, ho⟩ := RB_ex B.rb
  have fm : ∀ q, q ≠ 28 + 5 * w → uM M (28 + 5 * w) cl v q = M q := fun q a => uM_row _ _ _ _ a
  have hRB : RB (uM M (28 + 5 * w) cl v) 17 V ng nw ne no := by
    refine RB_mk (by rw [fm 17 (by omega)]; exact p) (fun g hg' => by rw [fm _ (by omega)]; exact hg g hg') (fun u hu => ?_) (fun q hq => (he q hq).cg (fun j hj => by rw [fm _ (by omega)]) (fun j hj => rfl) (fun k hk => ⟨rfl, rfl⟩)) (fun o ho' => (ho o ho').cg (fm _ (by omega)) (fun j hj => rfl))
    by_cases e : u = w
    · subst e
      obtain ⟨a1, a2, a3, a4, a5, a6, a7⟩ := hww u hu
      have z0 : uM M (28 + 5 * u) cl v (17 + 8 + 5 * u) = M (17 + 8 + 5 * u) := fm _ (by omega)
      refine ⟨by rw [z0]; exact a1, by rw [z0]; exact a2, by rw [z0]; exact a3, by rw [z0]; exact a4, by rw [z0]; exact a5, fun i h1 hi => ?_, fun y h1 hy => ?_⟩
      · rw [fm _ (by omega), fm _ (by omega)]; exact a6 i h1 hi
      · have h2 : y < cl := by rw [v3, nI_ltI (by omega) (by omega)] at h1; exact h1
        obtain ⟨g1, g2⟩ := a7 y h1 hy
        refine ⟨?_, by rw [fm _ (by omega)]; exact g2⟩
        show uM M (28 + 5 * u) cl v (28 + 5 * u) y = _
        rw [uM_j _ _ _ _ (by omega)]; exact g1
    · have tri : u < w ∨ w < u := by omega
      exact (hww u hu).cg (fun j hj => fm _ (by rcases tri with q | q <;> omega)) (fun j hj => rfl)
  exact ⟨B.1, B.2.1, ⟨B.wf, CV_of hRB, fun i hi hp => by rw [fm _ (by omega)]; exact B.k.2.2 i hi hp⟩, fun k hk => by rw [fm 18 (by omega)]; exact B.2.2.2 k hk⟩
theorem m_closeW {N1 : xM} {w cl : Nat} (hw : w < 4) (hcl : cl < 10) (h15 : N1 4 (7 + 37 * w + 15) = nI cl) (x1 x2 y : Int32) : ∃ N2, (gd ((((7 : Int32) + ((37 : Int32) * nI w)) + (16 : Int32)) + nI cl) 495 (lt (uM N1 4 ((((7 : Int32) + ((37 : Int32) * nI w)) + (16 : Int32)) + nI cl).toNatClampNeg x1) (fun M_23 => gd ((((7 : Int32) + ((37 : Int32) * nI w)) + (26 : Int32)) + nI cl) 495 (lt (uM M_23 4 ((((7 : Int32) + ((37 : Int32) * nI w)) + (26 : Int32)) + nI cl).toNatClampNeg x2) (fun M_25 => gd (((7 : Int32) + ((37 : Int32) * nI w)) + (15 : Int32)) 495 (gd (((7 : Int32) + ((37 : Int32) * nI w)) + (15 : Int32)) 495 (lt (uM M_25 4 (((7 : Int32) + ((37 : Int32) * nI w)) + (15 : Int32)).toNatClampNeg ((M_25 4 (((7 : Int32) + ((37 : Int32) * nI w)) + (15 : Int32)).toNatClampNeg) + (1 : Int32))) (fun M_28 => some (y, M_28))))))))) = some (y, N2) ∧ (∀ k, k ≠ 4 → N2 k = N1 k) ∧ N2 4 (7 + 37 * w + 15) = nI (cl + 1) ∧ N2 4 (7 + 37 * w + 16 + cl) = x1 ∧ N2 4 (7 + 37 * w + 26 + cl) = x2 ∧ ∀ k, k ≠ 7 + 37 * w + 15 → k ≠ 7 + 37 * w + 16 + cl → k ≠ 7 + 37 * w + 26 + cl → N2 4 k = N1 4 k := by
  have e7 : (7 : Int32) + (37 : Int32) * nI w = nI (7 + 37 * w) := by rw [show (37 : Int32) = nI 37 from rfl, pk_mul, show (7 : Int32) = nI 7 from rfl, nI_add]
  have ea : nI (7 + 37 * w) + (16 : Int32) + nI cl = nI (7 + 37 * w + 16 + cl) := by rw [show (16 : Int32) = nI 16 from rfl, nI_add, nI_add]
  have eb : nI (7 + 37 * w) + (26 : Int32) + nI cl = nI (7 + 37 * w + 26 + cl) := by rw [show (26 : Int32) = nI 26 from rfl, nI_add, nI_add]
  have ec : nI (7 + 37 * w) + (15 : Int32) = nI (7 + 37 * w + 15) := nI_add _ 15
  rw [e7, ea, eb, ec, gd_n (by omega) (by decide), clN (by omega), lt_d, gd_n (by omega) (by decide), clN (by omega), lt_d, gd_n (by omega) (by decide), gd_n (by omega) (by decide), clN (by omega), uM_j _ _ _ _ (by omega), uM_j _ _ _ _ (by omega), h15, lt_d, nI_1]
  refine ⟨_, rfl, fun k hk => by rw [uM_row _ _ _ _ hk, uM_row _ _ _ _ hk, uM_row _ _ _ _ hk], uM_s _ _ _ _, by rw [uM_j _ _ _ _ (by omega), uM_j _ _ _ _ (by omega), uM_s], by rw [uM_j _ _ _ _ (by omega), uM_s], fun k a b c => by rw [uM_j _ _ _ _ a, uM_j _ _ _ _ c, uM_j _ _ _ _ b]⟩
theorem kBrS_year (V : Nat → Int32) (w cl : Nat) (h : cl < 10) : kBrS V w (nI (360 * cl + 359)) = sI (kBr V w) cl := by
  unfold kBrS
  rw [nI_toInt (by omega), show (((360 * cl + 359 : Nat) : Int) / 360).toNat = cl by omega]
theorem c_close {M N : xM} (h : Rel M N) (w0 : Int32) : ∃ r M1 N1, f_X10_close M w0 = some (r, M1) ∧ f_X11_close N w0 = some (r, N1) ∧ Rel M1 N1 := by
  obtain ⟨N0, e1, S, V, A, ng, nw, ne, no, B⟩ := h.th
  have R := h.sn S
  unfold f_X10_close b_X10_close_0 f_X11_close b_X11_close_0
  rw [lt_d (uM N 0 0 0), e1, B.hW, B.iW, bd_s, bd_s]
  by_cases c0 : wP nw w0
  rotate_left
  · rw [fp_f c0, fp_f c0]; exact R.refD 0 (by decide) (by decide)
  have hb := B.bd
  obtain ⟨w, hw, rfl⟩ := wP_of (by omega) c0
  obtain ⟨-, -, -, b3, b4, -, -⟩ := B.k.w hw
  obtain ⟨-, -, -, ⟨cl, hcl, v3, -⟩, h5⟩ := B.wf.w hw
  rw [fp_t c0, fp_t c0, gd_n (by omega) (by decide), clN (by omega), b4, B.its 36 hw 36 (by decide) rfl, bd_s]
  rcases h5 with h5 | h5
  rotate_left
  · rw [h5, if_neg (by decide), if_pos rfl]; exact R.refD 2 (by decide) (by decide)
  rw [h5, if_pos rfl, if_neg (by decide), b3, v3, lt_d (nI cl), B.its 15 hw 15 (by decide) rfl, bd_s, v3]
  by_cases c1 : cl < 10
  rotate_left
  · have : cl = 10 := by omega
    subst this
    rw [if_neg (by decide), if_pos (by decide)]; exact R.refD 3 (by decide) (by decide)
  rw [if_pos (lE 10 10 rfl c1 (by decide)), if_neg (nE 10 10 rfl c1 (by decide))]
  obtain ⟨g, hg, hgv, -⟩ := B.g
  obtain ⟨W0, x1, x2⟩ := c_chargeOf B hw c1 hg hgv
  obtain ⟨L, y1, y2, y3⟩ := m_chargeOf B hw c1 hg hgv
  have hA : ∀ i, i < ne → L 8 i = A i := by
    rcases y3 with y3 | ⟨-, y3⟩
    · exact y3
    · exact absurd (by rw [v3]; exact Int32.le_refl _) y3
  have hc := B.chg_bd hw c1 hg v3
  have hm := B.comm_bd v3
  have BL := B.sn y2
  have RL := R.sn y2
  have B0 := (B.sm x2).dead hw v3 c1 (kCharge V A ne w g (M 18 3) (M 18 4) cl)
  have e18 : ∀ v, uM W0 (28 + 5 * w) cl v 18 5 = M 18 5 := fun v => by rw [uM_row _ _ _ _ (by omega), x2 18 (by omega) (by omega) (by omega) (by omega)]
  have dP : dayP (nI (360 * cl + 359)) := ⟨by rw [nI_toInt (by omega)]; omega, by rw [nI_toInt (by omega)]; omega⟩
  rw [x1, bd2_s, y1, bd2_s, gd_n c1 (by decide), clN (by omega), show 25 + 5 * w + 3 = 28 + 5 * w by omega, show 25 + 5 * w + 4 = 29 + 5 * w by omega, lt_d (uM W0 (28 + 5 * w) cl (kCharge V A ne w g (M 18 3) (M 18 4) cl)), c_commissionOf B0 hw c1, e18, bd_s, BL.rComm hw c1, bd_s, y359', BL.rMoney hA hw dP, bd_s]
  generalize kCharge V A ne w g (M 18 3) (M 18 4) cl = chg at *
  generalize kComm V A ne (M 18 5) w cl = cst at *
  rw [lt_d (kMoneyOn V A ne w (nI (360 * cl + 359)) + chg - cst), gd_n c1 (by decide), lt_d (uM (uM W0 (28 + 5 * w) cl chg) (29 + 5 * w) cl cst), lt_d, uM_row _ _ _ _ (by omega), uM_row _ _ _ _ (by omega), x2 (25 + 5 * w) (by omega) (by omega) (by omega) (by omega), b3, v3, nI_1]
  generalize hMb : uM (uM (uM W0 (28 + 5 * w) cl chg) (29 + 5 * w) cl cst) (25 + 5 * w) 5 (nI (cl + 1)) = Mb
  have kb : KpB M Mb := by rw [← hMb]; exact (((KpB.sm x2).u _ _ _ (by omega)).u _ _ _ (by omega)).u _ _ _ (by omega)
  obtain ⟨M1, N1, g1, g2, g3, g4, g5⟩ := RL.act kb (a := nI 7) (n := nI w) 0 (okA_mk 7 w (by decide) (by omega) (fun z => by omega) (fun z => by omega))
  have n4 : N1 4 = V := (g4 4 (by decide) (by decide)).trans BL.1
  have g1' : f_X0_note Mb 7 (nI w) 0 = some M1 := g1
  obtain ⟨N2, q1, q2, q3, q4, q5, q6⟩ := m_closeW (N1 := N1) (w := w) (by omega) c1 (by rw [n4]; exact v3) chg cst (kMoneyOn V A ne w (nI (360 * cl + 359)) + chg - cst)
  rw [g1', bd_s, g2, bd_s, q1]
  have f : ∀ k, k ≠ 7 + 37 * w + 15 → k ≠ 7 + 37 * w + 16 + cl → k ≠ 7 + 37 * w + 26 + cl → N2 4 k = V k := fun k a b c => by rw [q6 k a b c, n4]
  have hWF : WF (N2 4) ng nw ne no := by
    obtain ⟨b, ⟨v0, v1, v2, v3'⟩, hgg, hww, he, ho⟩ := WF_ex B.wf
    refine WF_mk b ⟨by rw [f 0 (by omega) (by omega) (by omega)]; exact v0, by rw [f 1 (by omega) (by omega) (by omega)]; exact v1, by rw [f 2 (by omega) (by omega) (by omega)]; exact v2, by rw [f 3 (by omega) (by omega) (by omega)]; exact v3'⟩ (fun g hg' => by rw [f _ (by omega) (by omega) (by omega)]; exact hgg g hg') (fun u hu => ?_) (fun q hq => (he q hq).cg (by omega) (fun j hj => f _ (by omega) (by omega) (by omega))) (fun o ho' => (ho o ho').cg (by omega) (fun j hj => f _ (by omega) (by omega) (by omega)))
    by_cases e : u = w
    · subst e
      obtain ⟨a1, a2, ⟨ch, d1, d2, d3, d4⟩, ⟨cl', f1, f2, f3⟩, a5⟩ := hww u hu
      have ecl : cl' = cl := by rw [v3, nI_eq (by omega) (by omega)] at f2; exact f2.symm
      subst ecl
      refine ⟨by rw [f _ (by omega) (by omega) (by omega)]; exact a1, by rw [f _ (by omega) (by omega) (by omega)]; exact a2, ⟨ch, d1, by rw [f _ (by omega) (by omega) (by omega)]; exact d2, fun i hi => by rw [f (7 + 37 * u + 3 + 2 * i) (by omega) (by omega) (by omega), f (7 + 37 * u + 3 + 2 * i + 1) (by omega) (by omega) (by omega)]; exact d3 i hi, fun i hi => by rw [f (7 + 37 * u + 3 + 2 * i) (by omega) (by omega) (by omega), f (7 + 37 * u + 3 + 2 * (i + 1)) (by omega) (by omega) (by omega)]; exact d4 i hi⟩, ⟨cl' + 1, by omega, q3, fun y hy => ?_⟩, by rw [f _ (by omega) (by omega) (by omega)]; exact a5⟩
      by_cases e2 : y = cl'
      · subst e2; rw [q4, q5]; exact ⟨hc, hm⟩
      · rw [f (7 + 37 * u + 16 + y) (by omega) (by omega) (by omega), f (7 + 37 * u + 26 + y) (by omega) (by omega) (by omega)]; exact f3 y (by omega)
    · have tri : u < w ∨ w < u := by omega
      exact (hww u hu).cg (by omega) (fun j hj => f _ (by rcases tri with q | q <;> omega) (by rcases tri with q | q <;> omega) (by rcases tri with q | q <;> omega))
  have fm : ∀ q, 6 ≤ q → ¬ (11 ≤ q ∧ q ≤ 16) → q ≠ 23 → q ≠ 24 → q ≠ 25 + 5 * w → q ≠ 28 + 5 * w → q ≠ 29 + 5 * w → Mb q = M q := fun q a0 a1 a2 a3 a4 a5 a6 => by rw [← hMb, uM_row _ _ _ _ a4, uM_row _ _ _ _ a6, uM_row _ _ _ _ a5]; exact x2 q (by omega) (by omega) (by omega) (by omega)
  have hRB : RB Mb 17 (N2 4) ng nw ne no := by
    obtain ⟨p, hgg, hww, he, ho⟩ := RB_ex B.rb
    refine RB_mk (by rw [fm 17 (by omega) (by omega) (by omega) (by omega) (by omega) (by omega) (by omega)]; exact p) (fun g hg' => by rw [fm _ (by omega) (by omega) (by omega) (by omega) (by omega) (by omega) (by omega), f _ (by omega) (by omega) (by omega)]; exact hgg g hg') (fun u hu => ?_) (fun q hq => (he q hq).cg (fun j hj => by rw [fm _ (by omega) (by omega) (by omega) (by omega) (by omega) (by omega) (by omega)]) (fun j hj => f _ (by omega) (by omega) (by omega)) (fun k hk => ⟨f _ (by omega) (by omega) (by omega), f _ (by omega) (by omega) (by omega)⟩)) (fun o ho' => (ho o ho').cg (fm _ (by omega) (by omega) (by omega) (by omega) (by omega) (by omega) (by omega)) (fun j hj => f _ (by omega) (by omega) (by omega)))
    by_cases e : u = w
    · subst e
      obtain ⟨a1, a2, a3, a4, a5, a6, a7⟩ := hww u hu
      have z0 : ∀ j, j ≠ 5 → Mb (17 + 8 + 5 * u) j = M (17 + 8 + 5 * u) j := fun j hj => by
        show Mb (25 + 5 * u) j = M (25 + 5 * u) j
        rw [← hMb, uM_j _ _ _ _ hj, uM_row _ _ _ _ (by omega), uM_row _ _ _ _ (by omega), x2 (25 + 5 * u) (by omega) (by omega) (by omega) (by omega)]
      have z5 : Mb (17 + 8 + 5 * u) 5 = nI (cl + 1) := by
        show Mb (25 + 5 * u) 5 = _
        rw [← hMb]; exact uM_s _ _ _ _
      have z3 : Mb (17 + 11 + 5 * u) = upd (M (17 + 11 + 5 * u)) cl chg := by
        show Mb (28 + 5 * u) = upd (M (28 + 5 * u)) cl chg
        rw [← hMb, uM_row _ _ _ _ (by omega), uM_row _ _ _ _ (by omega), uM4, x2 (28 + 5 * u) (by omega) (by omega) (by omega) (by omega)]
      have z4 : Mb (17 + 12 + 5 * u) = upd (M (17 + 12 + 5 * u)) cl cst := by
        show Mb (29 + 5 * u) = upd (M (29 + 5 * u)) cl cst
        rw [← hMb, uM_row _ _ _ _ (by omega), uM4, uM_row _ _ _ _ (by omega), x2 (29 + 5 * u) (by omega) (by omega) (by omega) (by omega)]
      refine ⟨?_, ?_, ?_, ?_, ?_, fun i h1 hi => ?_, fun y h1 hy => ?_⟩
      · rw [z0 0 (by decide), f _ (by omega) (by omega) (by omega)]; exact a1
      · rw [z0 1 (by decide), f _ (by omega) (by omega) (by omega)]; exact a2
      · rw [z0 2 (by decide), f _ (by omega) (by omega) (by omega)]; exact a3
      · rw [z5, q3]
      · rw [z0 6 (by decide), f _ (by omega) (by omega) (by omega)]; exact a5
      · rw [f _ (by omega) (by omega) (by omega)] at h1
        rw [fm _ (by omega) (by omega) (by omega) (by omega) (by omega) (by omega) (by omega), fm _ (by omega) (by omega) (by omega) (by omega) (by omega) (by omega) (by omega), f (7 + 37 * u + 3 + 2 * i) (by omega) (by omega) (by omega), f (7 + 37 * u + 3 + 2 * i + 1) (by omega) (by omega) (by omega)]; exact a6 i h1 hi
      · rw [q3, nI_ltI (by omega) (by omega)] at h1
        rw [z3, z4]
        by_cases e2 : y = cl
        · subst e2; rw [pk_us, pk_us, q4, q5]; exact ⟨rfl, rfl⟩
        · rw [pk_un e2, pk_un e2, f (7 + 37 * u + 16 + y) (by omega) (by omega) (by omega), f (7 + 37 * u + 26 + y) (by omega) (by omega) (by omega)]
          exact a7 y (by rw [v3]; exact nI_lt' (by omega) (by omega)) hy
    · have tri : u < w ∨ w < u := by omega
      exact (hww u hu).cg (fun j hj => fm _ (by omega) (by omega) (by omega) (by omega) (by rcases tri with q | q <;> omega) (by rcases tri with q | q <;> omega) (by rcases tri with q | q <;> omega)) (fun j hj => f _ (by rcases tri with q | q <;> omega) (by rcases tri with q | q <;> omega) (by rcases tri with q | q <;> omega))
  have R2 : Rel M1 N2 := by
    refine g5 N2 q2 ?_ ⟨ng, nw, ne, no, hWF, hRB, BL.ralw.hi hb.2.2.1 (fun k hk => f k (by omega) (by omega) (by omega)) (fun i hi => by rw [fm _ (by omega) (by omega) (by omega) (by omega) (by omega) (by omega) (by omega)])⟩
    rw [BL.1]
    refine EqV_mk B.wf (EqF_D (fun k => k = 7 + 37 * w + 16 + cl ∨ k = 7 + 37 * w + 26 + cl) (fun k hk => ?_) (fun k h1 h2 => by omega) (fun g h1 h2 => by omega) (fun u hu => ?_) (fun i hi j hj h2 => by omega) (fun o ho j hj h2 => by omega))
    · show up1 (N2 4) (7 + 37 * (nI w).toNatClampNeg + 15) (N2 4 (7 + 37 * (nI w).toNatClampNeg + 15) - 1) k = V k
      rw [clN (by omega)]
      by_cases e : k = 7 + 37 * w + 15
      · subst e; rw [up1_s, q3, nI_pred]; exact v3.symm
      · rw [up1_n _ _ _ e]; exact f k e (fun z => hk (Or.inl z)) (fun z => hk (Or.inr z))
    · have tri : u < w ∨ u = w ∨ w < u := by omega
      have hi' : ∀ y, nI y < V (7 + 37 * u + 15) → y < 10 → u = w → y < cl := fun y h1 hy e => by
        subst e
        rw [v3, nI_ltI (by omega) (by omega)] at h1; exact h1
      refine ⟨fun j hj h2 => ?_, fun h2 => ?_, fun h2 => ?_, fun i h1 hi => ⟨fun h2 => ?_, fun h2 => ?_⟩, fun y h1 hy => ⟨fun h2 => ?_, fun h2 => ?_⟩⟩
      · rcases h2 with h2 | h2 <;> rcases tri with q | q | q <;> omega
      · rcases h2 with h2 | h2 <;> rcases tri with q | q | q <;> omega
      · rcases h2 with h2 | h2 <;> rcases tri with q | q | q <;> omega
      · rcases h2 with h2 | h2 <;> rcases tri with q | q | q <;> omega
      · rcases h2 with h2 | h2 <;> rcases tri with q | q | q <;> omega
      · have h3 := hi' y h1 hy
        rcases h2 with h2 | h2 <;> rcases tri with q | q | q <;> (try have h4 := h3 q) <;> omega
      · have h3 := hi' y h1 hy
        rcases h2 with h2 | h2 <;> rcases tri with q | q | q <;> (try have h4 := h3 q) <;> omega
  obtain ⟨V2, A2, ng2, nw2, ne2, no2, B2⟩ := R2.bb
  have b2 := B2.bd
  have c2 := B2.wf4.c
  rw [f 1 (by omega) (by omega) (by omega), f 2 (by omega) (by omega) (by omega), f 3 (by omega) (by omega) (by omega), B.wf.c.2.1, B.wf.c.2.2.1, B.wf.c.2.2.2.1, nI_eq (by omega) (by omega), nI_eq (by omega) (by omega), nI_eq (by omega) (by omega)] at c2
  obtain ⟨-, rfl, rfl, rfl, -⟩ := c2
  have eV : N2 4 = V2 := B2.1
  have e3 : N2 3 = N0 3 := by rw [q2 3 (by decide), g4 3 (by decide) (by decide)]; exact y2.2.2.2.2.1
  have hk : ∀ k, 155 ≤ k → V2 k = V k := fun k hk => by rw [← eV]; exact f k (by omega) (by omega) (by omega)
  have eA : ∀ i, A2 i = A i := fun i => by
    rw [B2.2.1, B.2.1, e3]
    show (if V2 (155 + 7 * i) = 1 then oI (kAlw V2 (N0 3 1).toInt ne no i) else 0) = (if V (155 + 7 * i) = 1 then oI (kAlw V (N0 3 1).toInt ne no i) else 0)
    rw [hk _ (by omega), kAlw_hi hk]
  have eMon : kMoneyOn V2 A2 ne w (nI (360 * cl + 359)) = kMoneyOn V A ne w (nI (360 * cl + 359)) := by
    rw [kMoney_sum B2.wf, kMoney_sum B.wf, kBrS_year _ _ _ c1, kBrS_year _ _ _ c1]
    have s1 : sI (kBr V2 w) cl = sI (kBr V w) cl := sI_congr (fun y hy => by
      unfold kBr
      rw [← eV, q3, v3, if_pos (nI_lt' (by omega) (by omega)), if_pos (nI_lt' (by omega) (by omega)), f (7 + 37 * w + 16 + y) (by omega) (by omega) (by omega), f (7 + 37 * w + 26 + y) (by omega) (by omega) (by omega)])
    have s2 : ∀ i, kWorth V2 A2 i = kWorth V A i := fun i => by
      unfold kWorth kEst kPart
      rw [hk (155 + 7 * i) (by omega), hk (155 + 7 * i + 3) (by omega), eA]
    rw [s1]
    congr 1
    exact sI_congr (fun i hi => by rw [s2, hk (155 + 7 * i + 1) (by omega), hk (155 + 7 * i + 2) (by omega)])
  have eBr : kBr V2 w cl = chg - cst := by
    unfold kBr
    rw [← eV, q3, if_pos (nI_lt' (by omega) (by omega)), q4, q5]
  rw [c_lastDay, bd_s, c_moneyOn B2.k hw dP, bd_s, c_broughtBy B2.k hw c1, bd_s, eMon, eBr]
  refine ⟨_, _, _, rfl, ?_, R2⟩
  congr 2
  rw [Int32.sub_eq_add_neg, Int32.sub_eq_add_neg, Int32.add_assoc]
end
