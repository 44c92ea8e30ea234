/-! writes: settle, close -/
theorem max_div_lt {D c : Int32} : ((imax (0 : Int32) D) / (360 : Int32) < c) ↔ ¬ (c ≤ (imax (0 : Int32) D) / (360 : Int32)) := by
  rw [i_lt, i_le]; omega
section
variable {M N : xM} {V A : Nat → Int32} {ng nw ne no : Nat}
theorem c_settle {M N : xM} (h : Rel M N) (w0 : Int32) : ∃ r M1 N1, f_X10_settle M w0 = some (r, M1) ∧ f_X11_settle N w0 = some (r, N1) ∧ Rel M1 N1 := by
  obtain ⟨N0, e1, S, V, A, ng, nw, ne, no, B⟩ := h.th
  have R := h.sn S
  unfold f_X10_settle b_X10_settle_0 f_X11_settle b_X11_settle_0 b_X11_settle_70
  rw [lt_d (uM N 0 0 0), e1, B.hW, B.iW, bd_s, bd_s]
  by_cases c0 : wP nw w0
  rotate_left
  · rw [fp_f c0, fp_f c0]; exact R.refD 0 (by decide) (by decide)
  have hb := B.bd
  obtain ⟨w, hw, rfl⟩ := wP_of (by omega) c0
  obtain ⟨-, -, -, b3, b4, -, -⟩ := B.k.w hw
  obtain ⟨-, -, -, ⟨cl, hcl, v3, -⟩, h5⟩ := B.wf.w hw
  rw [fp_t c0, fp_t c0, gd_n (by omega) (by decide), clN (by omega), b4, B.its 36 hw 36 (by decide) rfl, bd_s]
  rcases h5 with h5 | h5
  rotate_left
  · rw [h5, if_neg (by decide), if_pos rfl]; exact R.refD 2 (by decide) (by decide)
  rw [h5, if_pos rfl, if_neg (by decide), gd_d (i := 0) (n := 7) (by decide) (by decide), cl0, B.rAge hw, bd_s, bd_s, B.its 15 hw 15 (by decide) rfl, bd_s]
  unfold f_X8_canSettle b_X8_canSettle_0 b_X8_canSettle_33 b_X8_canSettle_34
  rw [c_dayOfAge B hw, bd_s, b3, gz0, gz1]
  generalize V (7 + 37 * w) + M 18 0 * (360 : Int32) = D
  by_cases c1 : (3600 : Int32) ≤ D
  · rw [if_pos c1, bd_s, if_pos rfl, if_pos (show (3599 : Int32) < D by
      rw [i_le, show (3600 : Int32).toInt = 3600 by decide] at c1
      rw [i_lt, show (3599 : Int32).toInt = 3599 by decide]; omega)]
    exact R.refD 3 (by decide) (by decide)
  rw [if_neg c1, if_neg (show ¬ (3599 : Int32) < D by
      rw [i_le, show (3600 : Int32).toInt = 3600 by decide] at c1
      rw [i_lt, show (3599 : Int32).toInt = 3599 by decide]; omega)]
  by_cases c2 : V (7 + 37 * w + 15) ≤ (imax (0 : Int32) D) / (360 : Int32)
  · rw [if_pos c2, bd_s, if_pos rfl, if_neg (fun z => max_div_lt.mp z c2)]
    exact R.refD 3 (by decide) (by decide)
  rw [if_neg c2, bd_s, if_neg (by decide), if_pos (max_div_lt.mpr c2), lt_d (uM M (25 + 5 * w) 6 1)]
  generalize hMb : uM M (25 + 5 * w) 6 1 = Mb
  have kb : KpB M Mb := by rw [← hMb]; exact (KpB.rf M).u _ _ _ (by omega)
  obtain ⟨M1, N1, g1, g2, g3, g4, g5⟩ := R.act kb (a := nI 8) (n := nI w) 0 (okA_mk 8 w (by decide) (by omega) (fun z => by omega) (fun z => by omega))
  have n4 : N1 4 = V := (g4 4 (by decide) (by decide)).trans B.1
  have e7 : (7 : Int32) + (37 : Int32) * nI w + (36 : Int32) = nI (7 + 37 * w + 36) := by rw [show (37 : Int32) = nI 37 from rfl, pk_mul, show (7 : Int32) = nI 7 from rfl, nI_add, show (36 : Int32) = nI 36 from rfl, nI_add]
  have g1' : f_X0_note Mb 8 (nI w) 0 = some M1 := g1
  rw [g1', bd_s, g2, bd_s, e7, gd_n (by omega) (by decide), clN (by omega), lt_d (uM N1 4 (7 + 37 * w + 36) 1)]
  generalize hN2 : uM N1 4 (7 + 37 * w + 36) 1 = N2
  have q2 : ∀ k, k ≠ 4 → N2 k = N1 k := fun k hk => by rw [← hN2]; exact uM_row _ _ _ _ hk
  have q3 : N2 4 (7 + 37 * w + 36) = 1 := by rw [← hN2]; exact uM_s _ _ _ _
  have f : ∀ q, q ≠ 7 + 37 * w + 36 → N2 4 q = V q := fun q a => by rw [← hN2, uM_j _ _ _ _ a, n4]
  have hWF : WF (N2 4) ng nw ne no := by
    obtain ⟨b, ⟨v0, v1, v2, v3⟩, hg, hww, he, ho⟩ := WF_ex B.wf
    refine WF_mk b ⟨by rw [f 0 (by omega)]; exact v0, by rw [f 1 (by omega)]; exact v1, by rw [f 2 (by omega)]; exact v2, by rw [f 3 (by omega)]; exact v3⟩ (fun g hg' => by rw [f _ (by omega)]; exact hg g hg') (fun u hu => ?_) (fun q hq => (he q hq).cg (by omega) (fun j hj => f _ (by omega))) (fun o ho' => (ho o ho').cg (by omega) (fun j hj => f _ (by omega)))
    by_cases e : u = w
    · subst e
      obtain ⟨a1, a2, ⟨ch, c1, c2, c3, c4⟩, ⟨cl, d1, d2, d3⟩, -⟩ := hww u hu
      refine ⟨by rw [f _ (by omega)]; exact a1, by rw [f _ (by omega)]; exact a2, ⟨ch, c1, by rw [f _ (by omega)]; exact c2, fun i hi => by rw [f (7 + 37 * u + 3 + 2 * i) (by omega), f (7 + 37 * u + 3 + 2 * i + 1) (by omega)]; exact c3 i hi, fun i hi => by rw [f (7 + 37 * u + 3 + 2 * i) (by omega), f (7 + 37 * u + 3 + 2 * (i + 1)) (by omega)]; exact c4 i hi⟩, ⟨cl, d1, by rw [f _ (by omega)]; exact d2, fun y hy => by rw [f (7 + 37 * u + 16 + y) (by omega), f (7 + 37 * u + 26 + y) (by omega)]; exact d3 y hy⟩, Or.inr q3⟩
    · have tri : u < w ∨ w < u := by omega
      exact (hww u hu).cg (by omega) (fun j hj => f _ (by rcases tri with q | q <;> omega))
  have hRB : RB Mb 17 (N2 4) ng nw ne no := by
    obtain ⟨p, hg, hww, he, ho⟩ := RB_ex B.rb
    have fm : ∀ q, q ≠ 25 + 5 * w → Mb q = M q := fun q a => by rw [← hMb, uM_row _ _ _ _ a]
    refine RB_mk (by rw [fm 17 (by omega)]; exact p) (fun g hg' => by rw [fm _ (by omega), f _ (by omega)]; exact hg g hg') (fun u hu => ?_) (fun q hq => (he q hq).cg (fun j hj => by rw [fm _ (by omega)]) (fun j hj => f _ (by omega)) (fun k hk => ⟨f _ (by omega), f _ (by omega)⟩)) (fun o ho' => (ho o ho').cg (fm _ (by omega)) (fun j hj => f _ (by omega)))
    by_cases e : u = w
    · subst e
      obtain ⟨a1, a2, a3, a4, a5, a6, a7⟩ := hww u hu
      have z0 : Mb (17 + 8 + 5 * u) = upd (M (17 + 8 + 5 * u)) 6 1 := by rw [← hMb]; exact uM4 _ _ _ _
      refine ⟨?_, ?_, ?_, ?_, ?_, fun i h1 hi => ?_, fun y h1 hy => ?_⟩
      · rw [z0, pk_un (by decide), f _ (by omega)]; exact a1
      · rw [z0, pk_un (by decide), f _ (by omega)]; exact a2
      · rw [z0, pk_un (by decide), f _ (by omega)]; exact a3
      · rw [z0, pk_un (by decide), f _ (by omega)]; exact a4
      · rw [z0, pk_us, q3]
      · rw [f _ (by omega)] at h1
        rw [fm _ (by omega), fm _ (by omega), f (7 + 37 * u + 3 + 2 * i) (by omega), f (7 + 37 * u + 3 + 2 * i + 1) (by omega)]; exact a6 i h1 hi
      · rw [f _ (by omega)] at h1
        rw [fm _ (by omega), fm _ (by omega), f (7 + 37 * u + 16 + y) (by omega), f (7 + 37 * u + 26 + y) (by omega)]; exact a7 y h1 hy
    · have tri : u < w ∨ w < u := by omega
      exact (hww u hu).cg (fun j hj => fm _ (by rcases tri with q | q <;> omega)) (fun j hj => f _ (by rcases tri with q | q <;> omega))
  have R2 : Rel M1 N2 := by
    refine g5 N2 q2 ?_ ⟨ng, nw, ne, no, hWF, hRB, B.ralw.hi hb.2.2.1 (fun k hk => f k (by omega)) (fun i hi => by rw [← hMb, uM_row _ _ _ _ (by omega)])⟩
    rw [B.1]
    refine EqV_mk B.wf (EqF_of hb (fun q hq => ?_))
    show up1 (N2 4) (7 + 37 * (nI w).toNatClampNeg + 36) 0 q = V q
    rw [clN (by omega)]
    by_cases e : q = 7 + 37 * w + 36
    · subst e; rw [up1_s]; exact h5.symm
    · rw [up1_n _ _ _ e, f q e]
  obtain ⟨V2, A2, ng2, nw2, ne2, no2, B2⟩ := R2.bb
  have hn : nw2 = nw := by
    have := B2.bd
    have h1 : N2 4 1 = nI nw2 := B2.wf4.c.2.1
    rw [f 1 (by omega), B.wf.c.2.1, nI_eq (by omega) (by omega)] at h1
    exact h1.symm
  subst hn
  obtain ⟨L, l1, l2⟩ := B2.due hw
  rw [c_estateOn B2.k hw d3599, bd_s, l1, bd2_s]
  exact ⟨_, _, _, rfl, rfl, R2.sn l2⟩
theorem TB_sum : ∀ cl, cl < 10 → zS (fun y => if y < cl then TB y / 5 else 0) 9 + 3999960 ≤ TB cl := by decide
theorem TB_pos : ∀ cl, cl < 10 → 0 ≤ TB cl ∧ TB cl ≤ 61000000 := by decide
theorem WF.br_TB (h : WF V ng nw ne no) {w y : Nat} (hw : w < nw) (hy : y < 10) : (kBr V w y).toInt ≤ TB y / 5 := by
  obtain ⟨-, -, -, ⟨cl, hcl, v3, hv⟩, -⟩ := h.w hw
  have hT := TB_bd y hy
  unfold kBr
  rw [v3]
  by_cases c : y < cl
  · obtain ⟨⟨h1, h2⟩, h3, h4⟩ := hv y c
    rw [if_pos (nI_lt' c (by omega)), i_sub (by omega) (by omega)]
    omega
  · rw [if_neg (nI_nl c (by omega)), i0]; omega
theorem BB.mD_TB (B : BB M N V A ng nw ne no) {w cl : Nat} (hw : w < nw) (hcl : cl < 10) {k : Nat} (hk : k ≤ 360 * cl + 719) : (mD V A ne w k).toInt ≤ TB cl := by
  have hb := B.bd
  obtain ⟨a1, a2, a3⟩ := sI_z (f := fun e => if ofW V w e ∧ atE V e ≤ 0 + k then kWorth V A e else 0) (B := 99999) (n := ne) (fun i hi => by
    split
    · exact B.worth_bd hi
    · rw [i0]; omega) (by omega) (by omega)
  obtain ⟨b1, b2, b3⟩ := sI_z (f := fun y => if True ∧ atY y ≤ 0 + k then kBr V w y else 0) (B := 5000000) (n := 9) (fun y hy => by
    have := B.wf.br_bd hw (show y < 10 by omega)
    split
    · omega
    · rw [i0]; omega) (by omega) (by omega)
  have b4 : zS (fun i => (if True ∧ atY i ≤ 0 + k then kBr V w i else 0).toInt) 9 ≤ zS (fun y => if y < cl then TB y / 5 else 0) 9 := by
    refine zS_mono (fun y hy => ?_)
    have h1 := B.wf.br_TB hw (show y < 10 by omega)
    have h2 := TB_bd y (by omega)
    by_cases c : True ∧ atY y ≤ 0 + k
    · rw [if_pos c]
      have c2 : 360 * y + 720 ≤ 0 + k := c.2
      rw [if_pos (show y < cl by omega)]; exact h1
    · rw [if_neg c, i0]
      split
      · exact h2.1
      · exact Int.le_refl _
  have b5 := TB_sum cl hcl
  have a1' : (lS (ofW V w) (atE V) (kWorth V A) 0 ne k).toInt = zS (fun i => (if ofW V w i ∧ atE V i ≤ 0 + k then kWorth V A i else 0).toInt) ne := a1
  have b1' : (lS (fun _ => True) atY (kBr V w) 0 9 k).toInt = zS (fun i => (if True ∧ atY i ≤ 0 + k then kBr V w i else 0).toInt) 9 := b1
  unfold mD
  rw [i_add (by omega) (by omega)]
  omega
theorem BB.chg_bd (B : BB M N V A ng nw ne no) {w cl g : Nat} (hw : w < nw) (hcl : cl < 10) (hg : g < 360) (v3 : V (7 + 37 * w + 15) = nI cl) : 0 ≤ (kCharge V A ne w g (M 18 3) (M 18 4) cl).toInt ∧ (kCharge V A ne w g (M 18 3) (M 18 4) cl).toInt ≤ TB cl / 5 := by
  obtain ⟨r3, r4, -⟩ := B.r
  have hT := TB_pos cl hcl
  unfold kCharge
  rw [v3, if_pos (Int32.le_refl _)]
  refine (kChg_z hg r3.1 r3.2 r4.1 r4.2 (fun j _ => by have := B.mD_bd hw j; omega) hT.1 hT.2 (fun j hj => ?_)).2
  obtain ⟨k1, -, -⟩ := kIdle_z (f := mD V A ne w) (g := g) (k := 360 * cl + 360 + j) r3.1 r3.2 (fun i _ => by have := B.mD_bd hw i; omega) (by omega)
  obtain ⟨-, i, i1, i2, i3⟩ := mW_ok (mD V A ne w) (360 * cl + 360 + j - g) g
  have := B.mD_TB hw hcl (k := i) (by omega)
  rw [k1, i3]
  omega
theorem BB.sum1_bd (B : BB M N V A ng nw ne no) (w f l : Int32) : 0 ≤ (kSum V A ne w f l 1).toInt ∧ (kSum V A ne w f l 1).toInt ≤ 3999960 := by
  have hb := B.bd
  obtain ⟨h1, h2, h3⟩ := sI_z (f := fun i => if kIn V w f l i then kPart V A 1 i else 0) (B := 99999) (n := ne) (fun i hi => by
    split
    · exact B.part_bd hi 1
    · rw [i0]; omega) (by omega) (by omega)
  have h4 : 0 ≤ zS (fun i => (if kIn V w f l i then kPart V A 1 i else 0).toInt) ne := zS_nn (fun i hi => by
    have := (B.wf.e hi).2.2.2.1
    split
    · unfold kPart
      rw [if_pos rfl]
      split
      · omega
      · rw [i0]; omega
    · rw [i0]; omega)
  unfold kSum
  omega
theorem BB.comm_bd (B : BB M N V A ng nw ne no) {w cl : Nat} (v3 : V (7 + 37 * w + 15) = nI cl) : 0 ≤ (kComm V A ne (M 18 5) w cl).toInt ∧ (kComm V A ne (M 18 5) w cl).toInt ≤ 399996 := by
  obtain ⟨-, -, r5, -⟩ := B.r
  have hs := B.sum1_bd (nI w) (nI (360 * cl)) (nI (360 * cl + 359))
  unfold kComm
  rw [v3, if_pos (Int32.le_refl _)]
  generalize kSum V A ne (nI w) (nI (360 * cl)) (nI (360 * cl + 359)) 1 = s at *
  have p1 : 0 ≤ s.toInt * (M 18 5).toInt := Int.mul_nonneg hs.1 r5.1
  have p2 : s.toInt * (M 18 5).toInt ≤ 3999960 * 100 := Int.mul_le_mul hs.2 r5.2 r5.1 (by omega)
  have e1 : (s.toInt64 * (M 18 5).toInt64).toInt = s.toInt * (M 18 5).toInt := by
    rw [ll_mul (by rw [i_l, i_l]; omega) (by rw [i_l, i_l]; omega), i_l, i_l]
  have e2 : (1000 : Int64).toInt = 1000 := by decide
  have e3 : (s.toInt64 * (M 18 5).toInt64 / (1000 : Int64)).toInt = s.toInt * (M 18 5).toInt / 1000 := by
    rw [ll_div (by rw [e2]; decide), e1, e2, Int.tdiv_eq_ediv_of_nonneg p1]
  rw [l_i (by rw [e3]; omega) (by rw [e3]; omega), e3]
  omega
end
