/-! writes: order, ratify -/
section
variable {M N : xM} {V A : Nat → Int32} {ng nw ne no : Nat}
theorem BB.mWhy (B : BB M N V A ng nw ne no) (w d : Int32) (q : Prop) [Decidable q] : (¬ wP nw w → f_X11_why N w d (pI q) = some 0) ∧ (wP nw w → ¬ (dayP d ∧ q) → f_X11_why N w d (pI q) = some 1) ∧ ∀ j, j < nw → w = nI j → dayP d → q → f_X11_why N w d (pI q) = some (if shutP V j d then 2 else -1) := by
  unfold f_X11_why b_X11_why_0 b_X11_why_23 b_X11_why_41
  rw [B.iW, bd_s, m_isDay, bd_s]
  refine ⟨fun c => by rw [fp_f c], fun c n => ?_, fun j hj e c1 c2 => ?_⟩
  · rw [fp_t c]
    by_cases c1 : dayP d
    · rw [fp_t c1, fp_f (fun z => n ⟨c1, z⟩)]
    · rw [fp_f c1]
  · subst e
    have hb := B.bd
    rw [fp_t ⟨by rw [nI_toInt (by omega)]; omega, by rw [nI_toInt (by omega)]; omega⟩, fp_t c1, fp_t c2, m_isShut B hj c1, bd_s]
    by_cases c4 : shutP V j d
    · rw [fp_t c4, if_pos c4]
    · rw [fp_f c4, if_neg c4]
theorem c_tellO (M : xM) (k0 : Nat) (x1 x2 x3 x4 x5 : Int32) : ∃ W, f_X3_tell M k0 x1 x2 x3 x4 x5 = some W ∧ (∀ k, k ≠ k0 → W k = M k) ∧ W k0 0 = x1 ∧ W k0 1 = x2 ∧ W k0 2 = x3 ∧ W k0 3 = x4 ∧ W k0 4 = x5 := by
  unfold f_X3_tell b_X3_tell_0
  rw [lt_d, lt_d, lt_d, lt_d, lt_d]
  refine ⟨_, rfl, fun k hk => by rw [uM_row _ _ _ _ hk, uM_row _ _ _ _ hk, uM_row _ _ _ _ hk, uM_row _ _ _ _ hk, uM_row _ _ _ _ hk], ?_, ?_, ?_, ?_, ?_⟩ <;> simp [uM, upd]
theorem m_orders {N1 : xM} (hk : f_X11_keeps N = some N1) (h4 : N1 4 = N 4) (h3 : N 4 3 = nI no) (c : no < 12) (x1 x2 x3 x4 x5 : Int32) : ∃ N2, (gd (3 : Int32) 495 (if (N 4 (3 : Int32).toNatClampNeg) = (12 : Int32) then bd2 (f_X11_refuses N (4 : Int32)) (fun r_25 M_27 => some (r_25, M_27)) else bd (f_X11_keeps N) (fun M_8 => gd (3 : Int32) 495 (lt ((435 : Int32) + ((5 : Int32) * (M_8 4 (3 : Int32).toNatClampNeg))) (fun y_10 => gd y_10 495 (lt (uM M_8 4 y_10.toNatClampNeg x1) (fun M_12 => gd (y_10 + (1 : Int32)) 495 (lt (uM M_12 4 (y_10 + (1 : Int32)).toNatClampNeg x2) (fun M_14 => gd (y_10 + (2 : Int32)) 495 (lt (uM M_14 4 (y_10 + (2 : Int32)).toNatClampNeg x3) (fun M_16 => gd (y_10 + (3 : Int32)) 495 (lt (uM M_16 4 (y_10 + (3 : Int32)).toNatClampNeg x4) (fun M_18 => gd (y_10 + (4 : Int32)) 495 (lt (uM M_18 4 (y_10 + (4 : Int32)).toNatClampNeg x5) (fun M_20 => gd (3 : Int32) 495 (gd (3 : Int32) 495 (lt (uM M_20 4 (3 : Int32).toNatClampNeg ((M_20 4 (3 : Int32).toNatClampNeg) + (1 : Int32))) (fun M_23 => gd (3 : Int32) 495 (some (M_23 4 (3 : Int32).toNatClampNeg, M_23)))))))))))))))))))) = some (nI (no + 1), N2) ∧ (∀ k, k ≠ 4 → N2 k = N1 k) ∧ N2 4 3 = nI (no + 1) ∧ (N2 4 (435 + 5 * no) = x1 ∧ N2 4 (435 + 5 * no + 1) = x2 ∧ N2 4 (435 + 5 * no + 2) = x3 ∧ N2 4 (435 + 5 * no + 3) = x4 ∧ N2 4 (435 + 5 * no + 4) = x5) ∧ ∀ k, k ≠ 3 → ¬ (435 + 5 * no ≤ k ∧ k < 435 + 5 * no + 5) → N2 4 k = N 4 k := by
  have e7 : (435 : Int32) + (5 : Int32) * nI no = nI (435 + 5 * no) := by rw [show (5 : Int32) = nI 5 from rfl, pk_mul, show (435 : Int32) = nI 435 from rfl, nI_add]
  have a1 : nI (435 + 5 * no) + (1 : Int32) = nI (435 + 5 * no + 1) := nI_add _ 1
  have a2 : nI (435 + 5 * no) + (2 : Int32) = nI (435 + 5 * no + 2) := nI_add _ 2
  have a3 : nI (435 + 5 * no) + (3 : Int32) = nI (435 + 5 * no + 3) := nI_add _ 3
  have a4 : nI (435 + 5 * no) + (4 : Int32) = nI (435 + 5 * no + 4) := nI_add _ 4
  have n3 : N1 4 3 = nI no := by rw [h4]; exact h3
  rw [gd_d (by decide) (by decide), cl3, h3, if_neg (nE 12 12 rfl (by omega) (by decide)), hk, bd_s, gd_d (by decide) (by decide), n3, e7, lt_d, a1, a2, a3, a4]
  rw [gd_n (by omega) (by decide), clN (by omega), lt_d, gd_n (by omega) (by decide), clN (by omega), lt_d, gd_n (by omega) (by decide), clN (by omega), lt_d, gd_n (by omega) (by decide), clN (by omega), lt_d, gd_n (by omega) (by decide), clN (by omega), lt_d, gd_d (by decide) (by decide), gd_d (by decide) (by decide)]
  generalize hW : uM (uM (uM (uM (uM N1 4 (435 + 5 * no) x1) 4 (435 + 5 * no + 1) x2) 4 (435 + 5 * no + 2) x3) 4 (435 + 5 * no + 3) x4) 4 (435 + 5 * no + 4) x5 = W
  have w4 : ∀ k, k ≠ 4 → W k = N1 k := fun k hk => by rw [← hW, uM_row _ _ _ _ hk, uM_row _ _ _ _ hk, uM_row _ _ _ _ hk, uM_row _ _ _ _ hk, uM_row _ _ _ _ hk]
  have wk : ∀ k, ¬ (435 + 5 * no ≤ k ∧ k < 435 + 5 * no + 5) → W 4 k = N1 4 k := fun k hk => by rw [← hW, uM_j _ _ _ _ (by omega), uM_j _ _ _ _ (by omega), uM_j _ _ _ _ (by omega), uM_j _ _ _ _ (by omega), uM_j _ _ _ _ (by omega)]
  have v0 : W 4 (435 + 5 * no) = x1 := by rw [← hW, uM_j _ _ _ _ (by omega), uM_j _ _ _ _ (by omega), uM_j _ _ _ _ (by omega), uM_j _ _ _ _ (by omega), uM_s]
  have v1 : W 4 (435 + 5 * no + 1) = x2 := by rw [← hW, uM_j _ _ _ _ (by omega), uM_j _ _ _ _ (by omega), uM_j _ _ _ _ (by omega), uM_s]
  have v2 : W 4 (435 + 5 * no + 2) = x3 := by rw [← hW, uM_j _ _ _ _ (by omega), uM_j _ _ _ _ (by omega), uM_s]
  have v3 : W 4 (435 + 5 * no + 3) = x4 := by rw [← hW, uM_j _ _ _ _ (by omega), uM_s]
  have v4 : W 4 (435 + 5 * no + 4) = x5 := by rw [← hW, uM_s]
  rw [wk 3 (by omega), n3, lt_d, gd_d (by decide) (by decide), uM_s, nI_1]
  refine ⟨_, rfl, fun k hk => by rw [uM_row _ _ _ _ hk]; exact w4 k hk, uM_s _ _ _ _, ⟨by rw [uM_j _ _ _ _ (by omega)]; exact v0, by rw [uM_j _ _ _ _ (by omega)]; exact v1, by rw [uM_j _ _ _ _ (by omega)]; exact v2, by rw [uM_j _ _ _ _ (by omega)]; exact v3, by rw [uM_j _ _ _ _ (by omega)]; exact v4⟩, fun k a b => by rw [uM_j _ _ _ _ a, wk k b, h4]⟩
theorem c_order {M N : xM} (h : Rel M N) (w0 k0 f0 l0 a : Int32) : ∃ r M1 N1, f_X10_order M w0 k0 f0 l0 a = some (r, M1) ∧ f_X11_order N w0 k0 f0 l0 a = some (r, N1) ∧ Rel M1 N1 := by
  obtain ⟨N0, e1, S, V, A, ng, nw, ne, no, B⟩ := h.th
  have R := h.sn S
  unfold f_X10_order b_X10_order_0 b_X10_order_55 f_X11_order b_X11_order_0 b_X11_order_41
  rw [lt_d (uM N 0 0 0), e1, m_in01, bd_s, m_isDay, bd_s, m_isAmount, bd_s]
  rw [pI_x (amtP a) (b_X11_order_42 N0 w0 k0 f0 l0 a), pI_lt l0 f0 _ (b_X11_order_42 N0 w0 k0 f0 l0 a), pI_and (dayP l0) _ (b_X11_order_42 N0 w0 k0 f0 l0 a), pI_and (0 ≤ k0.toInt ∧ k0.toInt < 2) _ (b_X11_order_42 N0 w0 k0 f0 l0 a)]
  unfold b_X11_order_42
  obtain ⟨y0, y1, y2⟩ := B.mWhy w0 f0 ((0 ≤ k0.toInt ∧ k0.toInt < 2) ∧ dayP l0 ∧ f0.toInt ≤ l0.toInt ∧ amtP a)
  rw [B.hW, bd_s]
  by_cases c0 : wP nw w0
  rotate_left
  · rw [fp_f c0, y0 c0, bd_s, if_neg (by decide)]; exact R.refD 0 (by decide) (by decide)
  rw [fp_t c0]
  by_cases c1 : k0 < 0
  · rw [if_pos c1, y1 c0 (fun z => by rw [i_lt, i0] at c1; have := z.2.1; omega), bd_s, if_neg (by decide)]; exact R.refD 1 (by decide) (by decide)
  rw [if_neg c1]
  by_cases c2 : (2 : Int32) ≤ k0
  · rw [if_pos c2, y1 c0 (fun z => by rw [i_le, x2i] at c2; have := z.2.1; omega), bd_s, if_neg (by decide)]; exact R.refD 1 (by decide) (by decide)
  rw [if_neg c2, c_isDay, bd_s, c_isDay, bd_s]
  by_cases c3 : dayP f0
  rotate_left
  · rw [fp_f c3, y1 c0 (fun z => c3 z.1), bd_s, if_neg (by decide)]; exact R.refD 1 (by decide) (by decide)
  rw [fp_t c3]
  by_cases c4 : dayP l0
  rotate_left
  · rw [fp_f c4, y1 c0 (fun z => c4 z.2.2.1), bd_s, if_neg (by decide)]; exact R.refD 1 (by decide) (by decide)
  rw [fp_t c4]
  by_cases c5 : l0 < f0
  · rw [if_pos c5, y1 c0 (fun z => by rw [i_lt] at c5; have := z.2.2.2.1; omega), bd_s, if_neg (by decide)]; exact R.refD 1 (by decide) (by decide)
  rw [if_neg c5, c_isAmount, bd_s]
  by_cases c6 : amtP a
  rotate_left
  · rw [fp_f c6, y1 c0 (fun z => c6 z.2.2.2.2), bd_s, if_neg (by decide)]; exact R.refD 1 (by decide) (by decide)
  rw [i_lt, i0] at c1
  rw [i_le, x2i] at c2
  rw [i_lt] at c5
  have hb := B.bd
  obtain ⟨w, hw, rfl⟩ := wP_of (by omega) c0
  obtain ⟨k, hk, rfl, hk2⟩ := nI_of0 (a := k0) (by omega)
  have hk' : k < 2 := by omega
  rw [fp_t c6, gd_n (by omega) (by decide), clN (by omega), c_isShutOn B hw c3, bd_s, y2 w hw rfl c3 ⟨⟨by omega, by omega⟩, c4, by omega, c6⟩, bd_s]
  by_cases c7 : shutP V w f0
  · rw [fp_t c7, if_pos c7, if_neg (by decide)]; exact R.refD 2 (by decide) (by decide)
  rw [fp_f c7, if_neg c7, if_pos rfl]
  have m7 : M 17 7 = nI no := B.rb.2.2.2.1
  have v3 : N0 4 3 = nI no := B.wf4.c.2.2.2.1
  by_cases c8 : no < 12
  rotate_left
  · have : no = 12 := by omega
    subst this
    rw [m7, if_neg (by decide), gd3, cl3, v3, if_pos (by decide)]; exact R.refD 4 (by decide) (by decide)
  obtain ⟨Wt, hWt, t1, u0, u1, u2, u3, u4⟩ := c_tellO M (85 + no) (nI w) (nI k) f0 l0 a
  rw [m7, if_pos (lE 12 12 rfl c8 (by decide)), gd_n c8 (by decide), clN (by omega), hWt, bd_s, lt_d, t1 17 (by omega), m7, nI_1]
  generalize hM2 : uM Wt 17 7 (nI (no + 1)) = M2
  have k2 : KpB M M2 := fun q a b c => by rw [← hM2, uM_row _ _ _ _ (by omega)]; exact t1 q (by omega)
  -- the reference's new row, whatever keeps leaves
  obtain ⟨c9, hc9, -, a2, -⟩ := R.2.2.2.1
  obtain ⟨N1, g2, g4, -⟩ := m_keeps N0 hc9 a2
  have n4 : N1 4 = N0 4 := g4 4 (by decide) (by decide)
  obtain ⟨N2, q1, q2, q3, ⟨z0, z1, z2, z3, z4⟩, q7⟩ := m_orders g2 n4 v3 c8 (nI w) (nI k) f0 l0 a
  have Wn : ∀ q, q ≠ 3 → ¬ (435 + 5 * no ≤ q ∧ q < 435 + 5 * no + 5) → N2 4 q = V q := fun q a b => by rw [q7 q a b, B.1]
  have hWF : WF (N2 4) ng nw ne (no + 1) := by
    obtain ⟨b, ⟨v0, v1, v2, v3⟩, hg, hww, he, ho⟩ := WF_ex B.wf
    refine WF_mk ⟨b.1, b.2.1, b.2.2.1, by omega⟩ ⟨by rw [Wn 0 (by omega) (by omega)]; exact v0, by rw [Wn 1 (by omega) (by omega)]; exact v1, by rw [Wn 2 (by omega) (by omega)]; exact v2, q3⟩ (fun g hg' => by rw [Wn _ (by omega) (by omega)]; exact hg g hg') (fun u h => (hww u h).cg (by omega) (fun j hj => Wn _ (by omega) (by omega))) (fun i hi => (he i hi).cg (by omega) (fun j hj => Wn _ (by omega) (by omega))) (fun o ho' => ?_)
    by_cases e : o = no
    · subst e
      exact ⟨⟨w, hw, z0⟩, ⟨k, hk', z1⟩, by rw [z2]; exact c3, by rw [z3]; exact c4, by rw [z2, z3]; omega, by rw [z4]; exact c6⟩
    · exact (ho o (by omega)).cg (by omega) (fun j hj => Wn _ (by omega) (by omega))
  have hRB : RB M2 17 (N2 4) ng nw ne (no + 1) := by
    obtain ⟨⟨p1, p3, p5, p7⟩, hg, hww, he, ho⟩ := RB_ex B.rb
    have fm : ∀ q, q ≠ 17 → q ≠ 85 + no → M2 q = M q := fun q a b => by rw [← hM2, uM_row _ _ _ _ a]; exact t1 q b
    have f17 : ∀ j, j ≠ 7 → M2 17 j = M 17 j := fun j a => by rw [← hM2, uM_j _ _ _ _ a, t1 17 (by omega)]
    have fe : M2 (17 + 68 + no) = Wt (85 + no) := by rw [← hM2]; exact uM_row _ _ _ _ (by omega)
    refine RB_mk ⟨by rw [f17 1 (by decide)]; exact p1, by rw [f17 3 (by decide)]; exact p3, by rw [f17 5 (by decide)]; exact p5, by rw [← hM2]; exact uM_s _ _ _ _⟩ (fun g hg' => by rw [fm _ (by omega) (by omega), Wn _ (by omega) (by omega)]; exact hg g hg') (fun u h => (hww u h).cg (fun j hj => fm _ (by omega) (by omega)) (fun j hj => Wn _ (by omega) (by omega))) (fun i hi => (he i hi).cg (fun j hj => by rw [fm _ (by omega) (by omega)]) (fun j hj => Wn _ (by omega) (by omega)) (fun q hq => ⟨Wn _ (by omega) (by omega), Wn _ (by omega) (by omega)⟩)) (fun o ho' => ?_)
    by_cases e : o = no
    · subst e
      intro j hj
      rw [fe]
      have : j = 0 ∨ j = 1 ∨ j = 2 ∨ j = 3 ∨ j = 4 := by omega
      rcases this with rfl | rfl | rfl | rfl | rfl
      · exact u0.trans z0.symm
      · exact u1.trans z1.symm
      · exact u2.trans z2.symm
      · exact u3.trans z3.symm
      · exact u4.trans z4.symm
    · exact (ho o (by omega)).cg (fm _ (by omega) (by omega)) (fun j hj => Wn _ (by omega) (by omega))
  obtain ⟨M3, r1, r2, r3, r4, r5⟩ := hWF.reck hRB
  obtain ⟨M1, N1', g1, g2', g3, g4', g5⟩ := R.act (k2.tr r2) (a := nI 5) (n := nI 0) 0 (okA_mk 5 0 (by decide) (by decide) (by decide) (by decide))
  have eN : N1' = N1 := Option.some.inj (g2'.symm.trans g2)
  subst eN
  have a1 : M1 17 7 = nI (no + 1) := by rw [g3 17 (by decide) (by decide) (by decide) (by decide), r5, ← hM2]; exact uM_s _ _ _ _
  have g1' : f_X0_note M3 5 0 0 = some M1 := g1
  rw [r1, bd_s, g1', bd_s, q1, a1]
  refine ⟨_, _, _, rfl, rfl, g5 N2 q2 ?_ ⟨ng, nw, ne, no + 1, hWF, r3, fun i hi hp' => ?_⟩⟩
  · rw [B.1]
    refine EqV_mk B.wf (EqF_D (fun q => 435 + 5 * no ≤ q ∧ q < 435 + 5 * no + 5) (fun q hq => ?_) (fun q h1 h2 => by omega) (fun g h1 h2 => by omega) (fun u hu => ⟨fun j hj h2 => by omega, fun h2 => by omega, fun h2 => by omega, fun i _ _ => ⟨fun h2 => by omega, fun h2 => by omega⟩, fun y _ _ => ⟨fun h2 => by omega, fun h2 => by omega⟩⟩) (fun i hi j hj h2 => by omega) (fun o ho j hj h2 => by omega))
    show up1 (N2 4) 3 (N2 4 3 - 1) q = V q
    by_cases e : q = 3
    · subst e; rw [up1_s, q3, nI_pred]; exact B.wf.c.2.2.2.1.symm
    · rw [up1_n _ _ _ e, Wn q e hq]
  · have e18 : M2 18 1 = N0 3 1 := by rw [k2 18 (by omega) (by omega) (by omega)]; exact (B.2.2.2 1 (by decide)).1
    rw [← e18]; exact r4 i hi hp'
theorem c_ratify {M N : xM} (h : Rel M N) (e0 : Int32) : ∃ r M1 N1, f_X10_ratify M e0 = some (r, M1) ∧ f_X11_ratify N e0 = some (r, N1) ∧ Rel M1 N1 := by
  obtain ⟨N0, e1, S, V, A, ng, nw, ne, no, B⟩ := h.th
  have R := h.sn S
  unfold f_X10_ratify b_X10_ratify_0 f_X11_ratify b_X11_ratify_0
  rw [lt_d (uM N 0 0 0), e1, B.hP, B.iP, bd_s, bd_s]
  by_cases c0 : payP V ne e0
  rotate_left
  · rw [fp_f c0, fp_f c0]; exact R.refD 0 (by decide) (by decide)
  have hb := B.bd
  obtain ⟨i, hi, rfl⟩ := wP_of (by omega) c0.1
  have hp : V (155 + 7 * i) = 1 := by
    have := c0.2
    rw [nI_toInt (by omega), Int.toNat_natCast] at this
    exact this
  obtain ⟨b0, b1, b2, b3, b4, b5, b6, b7⟩ := B.k.2.1.e hi
  obtain ⟨-, ⟨w, hw, vw⟩, hd, ha, hr, -, -⟩ := B.wf.e hi
  rw [fp_t c0, fp_t c0, gd_n (by omega) (by decide), clN (by omega), b1, b2, vw, gd_n (by omega) (by decide), clN (by omega), c_isShutOn B hw hd, bd_s, B.eOf 1 hi 1 (by decide) rfl, bd_s, B.eOf 2 hi 2 (by decide) rfl, bd_s, vw, m_isShut B hw hd, bd_s]
  by_cases c1 : shutP V w (V (155 + 7 * i + 2))
  · rw [fp_t c1, fp_t c1]; exact R.refD 2 (by decide) (by decide)
  rw [fp_f c1, fp_f c1, B.eOf 6 hi 6 (by decide) rfl, bd_s, b6]
  rcases hr with hr | hr
  rotate_left
  · rw [hr, if_neg (by decide), if_pos rfl]; exact R.refD 3 (by decide) (by decide)
  obtain ⟨L, hL, SL, hA⟩ := B.lays
  rw [hr, if_pos rfl, if_neg (by decide), c_part B.k hi, bd_s, kPart3 hp, lt_d, hL, bd_s, (B.sn SL).rDis hA hi, bd_s]
  generalize hM2 : uM M (45 + i) 7 1 = M2
  have RL := R.sn SL
  have k2 : KpB M M2 := by rw [← hM2]; exact (KpB.rf M).u _ _ _ (by omega)
  obtain ⟨c9, hc9, -, a2, -⟩ := RL.2.2.2.1
  obtain ⟨N1, g2, g4, -⟩ := m_keeps L hc9 a2
  have n4 : N1 4 = V := (g4 4 (by decide) (by decide)).trans (B.sn SL).1
  have e7 : (155 : Int32) + (7 : Int32) * nI i + (6 : Int32) = nI (155 + 7 * i + 6) := by rw [show (7 : Int32) = nI 7 from rfl, pk_mul, show (155 : Int32) = nI 155 from rfl, nI_add, show (6 : Int32) = nI 6 from rfl, nI_add]
  rw [g2, bd_s, e7, gd_n (by omega) (by decide), clN (by omega), lt_d]
  generalize hN2 : uM N1 4 (155 + 7 * i + 6) 1 = N2
  have q2 : ∀ k, k ≠ 4 → N2 k = N1 k := fun k hk => by rw [← hN2]; exact uM_row _ _ _ _ hk
  have q3 : N2 4 (155 + 7 * i + 6) = 1 := by rw [← hN2]; exact uM_s _ _ _ _
  have Wn : ∀ q, q ≠ 155 + 7 * i + 6 → N2 4 q = V q := fun q a => by rw [← hN2, uM_j _ _ _ _ a, n4]
  have hWF : WF (N2 4) ng nw ne no := by
    obtain ⟨b, ⟨v0, v1, v2, v3⟩, hg, hww, he, ho⟩ := WF_ex B.wf
    refine WF_mk b ⟨by rw [Wn 0 (by omega)]; exact v0, by rw [Wn 1 (by omega)]; exact v1, by rw [Wn 2 (by omega)]; exact v2, by rw [Wn 3 (by omega)]; exact v3⟩ (fun g hg' => by rw [Wn _ (by omega)]; exact hg g hg') (fun u h => (hww u h).cg (by omega) (fun j hj => Wn _ (by omega))) (fun q hq => ?_) (fun o ho' => (ho o ho').cg (by omega) (fun j hj => Wn _ (by omega)))
    by_cases e : q = i
    · subst e
      obtain ⟨a1, a2, a3, a4, a5, a6, a7⟩ := he q hq
      refine ⟨by rw [Wn _ (by omega)]; exact a1, by rw [Wn _ (by omega)]; exact a2, by rw [Wn _ (by omega)]; exact a3, by rw [Wn _ (by omega)]; exact a4, Or.inr q3, fun z => ?_, fun z => ?_⟩
      · rw [Wn _ (by omega)] at z
        rw [Wn (155 + 7 * q + 4) (by omega), Wn (155 + 7 * q + 5) (by omega)]; exact a6 z
      · rw [Wn _ (by omega)] at z
        rw [Wn _ (by omega)]; exact a7 z
    · exact (he q hq).cg (by omega) (fun j hj => Wn _ (by omega))
  have hRB : RB M2 17 (N2 4) ng nw ne no := by
    obtain ⟨p, hg, hww, he, ho⟩ := RB_ex B.rb
    have fm : ∀ q, q ≠ 45 + i → M2 q = M q := fun q a => by rw [← hM2, uM_row _ _ _ _ a]
    refine RB_mk (by rw [fm 17 (by omega)]; exact p) (fun g hg' => by rw [fm _ (by omega), Wn _ (by omega)]; exact hg g hg') (fun u h => (hww u h).cg (fun j hj => fm _ (by omega)) (fun j hj => Wn _ (by omega))) (fun q hq => ?_) (fun o ho' => (ho o ho').cg (fm _ (by omega)) (fun j hj => Wn _ (by omega)))
    by_cases e : q = i
    · subst e
      obtain ⟨a1, a2, a3⟩ := he q hq
      have f8 : ∀ j, j ≠ 7 → M2 (17 + 28 + q) j = M (17 + 28 + q) j := fun j hj => by rw [← hM2]; exact uM_j _ _ _ _ hj
      have hgg : kGood (N2 4) q ↔ kGood V q := kGood_cg (fun k hk => ⟨Wn _ (by omega), Wn _ (by omega)⟩)
      refine ⟨fun j hj => by rw [f8 j (by omega), Wn _ (by omega)]; exact a1 j hj, by rw [q3, ← hM2]; exact uM_s _ _ _ _, ?_⟩
      rw [f8 6 (by omega), hgg]; exact a3
    · exact (he q hq).cg (fun j hj => by rw [fm _ (by omega)]) (fun j hj => Wn _ (by omega)) (fun k hk => ⟨Wn _ (by omega), Wn _ (by omega)⟩)
  obtain ⟨M3, r1, r2, r3, r4, r5⟩ := hWF.reck hRB
  obtain ⟨M1, N1', g1, g2', g3, g4', g5⟩ := RL.act (k2.tr r2) (a := nI 6) (n := nI i) 0 (okA_mk 6 i (by decide) (by omega) (fun z => by omega) (fun z => by omega))
  have eN : N1' = N1 := Option.some.inj (g2'.symm.trans g2)
  subst eN
  have g1' : f_X0_note M3 6 (nI i) 0 = some M1 := g1
  rw [r1, bd_s, g1', bd_s]
  refine ⟨_, _, _, rfl, rfl, g5 N2 q2 ?_ ⟨ng, nw, ne, no, hWF, r3, fun q hq hp' => ?_⟩⟩
  · rw [(B.sn SL).1]
    refine EqV_mk B.wf (EqF_of hb (fun q hq => ?_))
    show up1 (N2 4) (155 + 7 * (nI i).toNatClampNeg + 6) 0 q = V q
    rw [clN (by omega)]
    by_cases e : q = 155 + 7 * i + 6
    · subst e; rw [up1_s]; exact hr.symm
    · rw [up1_n _ _ _ e, Wn q e]
  · have e18 : M2 18 1 = L 3 1 := by rw [k2 18 (by omega) (by omega) (by omega)]; exact ((B.sn SL).2.2.2 1 (by decide)).1
    rw [← e18]; exact r4 q hq hp'
end
