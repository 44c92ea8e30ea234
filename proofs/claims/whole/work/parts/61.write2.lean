/-! writes: ward, change -/
section
variable {M N : xM} {V A : Nat → Int32} {ng nw ne no : Nat}
abbrev shutP (V : Nat → Int32) (w : Nat) (d : Int32) : Prop := V (7 + 37 * w + 36) = 1 ∨ d.toInt / 360 < (V (7 + 37 * w + 15)).toInt
theorem c_isShutOn (B : BB M N V A ng nw ne no) {w : Nat} (hw : w < nw) {d : Int32} (hd : dayP d) : f_X8_isShutOn M (25 + 5 * w) d = some (pI (shutP V w d)) := by
  obtain ⟨-, -, -, b3, b4, -, -⟩ := B.k.w hw
  obtain ⟨-, -, -, ⟨cl, hcl, v3, -⟩, h5⟩ := B.wf.w hw
  unfold f_X8_isShutOn b_X8_isShutOn_0 b_X8_isShutOn_18 b_X8_isShutOn_23
  have e360 : f_X10_firstDay M (V (7 + 37 * w + 15)) = some (nI (360 * cl)) := by rw [v3]; exact c_firstDay M cl
  rw [b4, b3, e360, bd_s, gz0, gz1]
  have hz : (nI cl).toInt = cl := nI_toInt (by omega)
  have hz2 : (nI (360 * cl)).toInt = (360 * cl : Nat) := nI_toInt (by omega)
  rcases h5 with h5 | h5
  · rw [if_pos h5]
    by_cases e : nI (360 * cl) ≤ d
    · rw [if_pos e]
      rw [i_le, hz2] at e
      rw [pI_f]
      rintro (z | z)
      · rw [h5] at z; exact absurd z (by decide)
      · rw [v3, hz] at z; omega
    · rw [if_neg e]
      rw [i_le, hz2] at e
      rw [pI_t]
      right
      rw [v3, hz]; omega
  · rw [if_neg (fun z => absurd (h5.symm.trans z) (by decide)), pI_t (Or.inl h5)]
theorem m_isShut (B : BB M N V A ng nw ne no) {w : Nat} (hw : w < nw) {d : Int32} (hd : dayP d) : f_X11_isShut N (nI w) d = some (pI (shutP V w d)) := by
  obtain ⟨-, -, -, ⟨cl, hcl, v3, -⟩, h5⟩ := B.wf.w hw
  unfold f_X11_isShut b_X11_isShut_0 b_X11_isShut_26 b_X11_isShut_31
  rw [B.its 36 hw 36 (by decide) rfl, B.its 15 hw 15 (by decide) rfl, bd_s, bd_s, gz0, gz1]
  by_cases e : V (7 + 37 * w + 36) = 1
  · rw [if_pos e, pI_t (Or.inl e)]
  · rw [if_neg e]
    by_cases e2 : V (7 + 37 * w + 15) ≤ d / 360
    · rw [if_pos e2, pI_f]
      rw [i_le, d360 hd] at e2
      rintro (z | z)
      · exact e z
      · omega
    · rw [if_neg e2, pI_t]
      rw [i_le, d360 hd] at e2
      right; omega
theorem m_comes {N1 : xM} (h1 : N1 4 1 = nI nw) (c : nw < 4) (born g : Int32) : ∃ N2, f_X11_comes N1 born g = some (nI nw, N2) ∧ (∀ k, k ≠ 4 → N2 k = N1 k) ∧ N2 4 1 = nI (nw + 1) ∧ N2 4 (7 + 37 * nw) = born ∧ N2 4 (7 + 37 * nw + 1) = g ∧ (∀ j, 2 ≤ j → j < 37 → N2 4 (7 + 37 * nw + j) = 0) ∧ ∀ k, k ≠ 1 → ¬ (7 + 37 * nw ≤ k ∧ k < 7 + 37 * nw + 37) → N2 4 k = N1 4 k := by
  have e7 : (7 : Int32) + (37 : Int32) * nI nw = nI (7 + 37 * nw) := by rw [show (37 : Int32) = nI 37 from rfl, pk_mul, show (7 : Int32) = nI 7 from rfl, nI_add]
  obtain ⟨W, hW, b1, b2, b3⟩ := loopN_inv (body := fun s : xM × Int32 => bl_X11_comes_10 s.1 born g (nI nw) s.2) (fun i s => s.2 = nI i ∧ Bt N1 s.1 4 ∧ (∀ j, j < i → s.1 4 (7 + 37 * nw + j) = 0) ∧ ∀ k, ¬ (7 + 37 * nw ≤ k ∧ k < 7 + 37 * nw + 37) → s.1 4 k = N1 4 k) (fun r => Bt N1 r 4 ∧ (∀ j, j < 37 → r 4 (7 + 37 * nw + j) = 0) ∧ ∀ k, ¬ (7 + 37 * nw ≤ k ∧ k < 7 + 37 * nw + 37) → r 4 k = N1 4 k) 37 (fun i s hi hI => by
      obtain ⟨W, x⟩ := s
      obtain ⟨e, hb, q1, q2⟩ := hI
      have e' : x = nI i := e
      subst e'
      refine ⟨(uM W 4 (7 + 37 * nw + i) 0, nI (i + 1)), ?_, rfl, hb.u _ _, fun j hj => ?_, fun k hk => ?_⟩
      · show bl_X11_comes_10 W born g (nI nw) (nI i) = _
        unfold bl_X11_comes_10
        rw [if_neg (gE 37 37 rfl hi (by decide)), e7, nI_add, gd_n (by omega) (by decide), lt_d, lt_d, clN (by omega), nI_1]
      · show uM W 4 (7 + 37 * nw + i) 0 4 (7 + 37 * nw + j) = 0
        by_cases e : j = i
        · subst e; exact uM_s _ _ _ _
        · rw [uM_j _ _ _ _ (by omega)]; exact q1 j (by omega)
      · show uM W 4 (7 + 37 * nw + i) 0 4 k = _
        rw [uM_j _ _ _ _ (by omega)]; exact q2 k hk) (fun s hI => by
      obtain ⟨W, x⟩ := s
      obtain ⟨e, hb, q1, q2⟩ := hI
      have e' : x = nI 37 := e
      subst e'
      refine ⟨W, ?_, hb, q1, q2⟩
      show bl_X11_comes_10 W born g (nI nw) (nI 37) = _
      unfold bl_X11_comes_10
      rw [if_pos (by decide)]) (N1, 0) BG ⟨rfl, Bt.rf N1 4, fun j hj => absurd hj (Nat.not_lt_zero j), fun q _ => rfl⟩ (BG_lt (by omega))
  unfold f_X11_comes b_X11_comes_0 b_X11_comes_10
  have ea : nI (7 + 37 * nw) + (0 : Int32) = nI (7 + 37 * nw) := nI_add _ 0
  have w1 : W 4 1 = nI nw := by rw [b3 1 (by omega)]; exact h1
  rw [gd_d (by decide) (by decide), cl1, h1, lt_d, hW, bd_s, e7, ea, nI_1, gd_n (by omega) (by decide), clN (by omega), lt_d, gd_n (by omega) (by decide), clN (by omega), lt_d, gd_d (by decide) (by decide), gd_d (by decide) (by decide), uM_j _ _ _ _ (by omega), uM_j _ _ _ _ (by omega), w1, lt_d, nI_1]
  refine ⟨_, rfl, fun k hk => by rw [uM_row _ _ _ _ hk, uM_row _ _ _ _ hk, uM_row _ _ _ _ hk]; exact b1 k hk, uM_s _ _ _ _, by rw [uM_j _ _ _ _ (by omega), uM_j _ _ _ _ (by omega), uM_s], by rw [uM_j _ _ _ _ (by omega), uM_s], fun j h2 hj => by rw [uM_j _ _ _ _ (by omega), uM_j _ _ _ _ (by omega), uM_j _ _ _ _ (by omega)]; exact b2 j hj, fun k a b => by rw [uM_j _ _ _ _ a, uM_j _ _ _ _ (by omega), uM_j _ _ _ _ (by omega)]; exact b3 k b⟩
theorem c_begin (M : xM) (k0 : Nat) (x1 x2 : Int32) : ∃ W, f_X8_begin M k0 x1 x2 = some W ∧ (∀ k, k ≠ k0 → W k = M k) ∧ W k0 0 = x1 ∧ W k0 1 = x2 ∧ W k0 2 = 0 ∧ W k0 5 = 0 ∧ W k0 6 = 0 := by
  unfold f_X8_begin b_X8_begin_0
  rw [lt_d, lt_d, lt_d, lt_d, lt_d]
  refine ⟨_, rfl, fun k hk => by rw [uM_row _ _ _ _ hk, uM_row _ _ _ _ hk, uM_row _ _ _ _ hk, uM_row _ _ _ _ hk, uM_row _ _ _ _ hk], ?_, ?_, ?_, ?_, ?_⟩ <;> simp [uM, upd]
theorem m_isBorn (N : xM) (d : Int32) : f_X11_in N d.toInt64 (-9000 : Int64) (3599 : Int64) = some (pI (-9000 ≤ d.toInt ∧ d.toInt < 3600)) := by
  rw [m_in, i_l, show (-9000 : Int64).toInt = -9000 by decide, show (3599 : Int64).toInt = 3599 by decide]
  congr 1
  exact b01 _ _ ⟨fun z => ⟨z.1, by omega⟩, fun z => ⟨z.1, by omega⟩⟩
theorem nI_lt0 {n : Nat} (h : n < 2 ^ 31) : ¬ nI n < (0 : Int32) := nI_pos h
theorem c_ward {M N : xM} (h : Rel M N) (born g0 : Int32) : ∃ r M1 N1, f_X10_ward M born g0 = some (r, M1) ∧ f_X11_ward N born g0 = some (r, N1) ∧ Rel M1 N1 := by
  obtain ⟨N0, e1, S, V, A, ng, nw, ne, no, B⟩ := h.th
  have R := h.sn S
  unfold f_X10_ward b_X10_ward_0 b_X10_ward_31 f_X11_ward b_X11_ward_0
  rw [lt_d (uM N 0 0 0), e1, B.hG, B.iG, bd_s, bd_s]
  by_cases c0 : wP ng g0
  rotate_left
  · rw [fp_f c0, fp_f c0]; exact R.refD 0 (by decide) (by decide)
  rw [fp_t c0, fp_t c0, m_isBorn, bd_s]
  have z1 : (-9000 : Int32).toInt = -9000 := by decide
  have z2 : (3600 : Int32).toInt = 3600 := by decide
  by_cases c : -9000 ≤ born.toInt ∧ born.toInt < 3600
  rotate_left
  · rw [fp_f c]
    by_cases d1 : born < -9000
    · rw [if_pos d1]; exact R.refD 1 (by decide) (by decide)
    · rw [if_neg d1, if_neg (by rw [i_lt, z1] at d1; rw [i_lt, z2]; omega)]; exact R.refD 1 (by decide) (by decide)
  rw [fp_t c, if_neg (by rw [i_lt, z1]; omega), if_pos (by rw [i_lt, z2]; omega), gd1, cl1]
  have hb := B.bd
  have v1 : N0 4 1 = nI nw := B.wf4.c.2.1
  have m3 : M 17 3 = nI nw := B.rb.2.1
  rw [v1, m3]
  by_cases c2 : nw < 4
  rotate_left
  · have : nw = 4 := by omega
    subst this
    rw [if_neg (by decide), if_pos (by decide)]; exact R.refD 4 (by decide) (by decide)
  obtain ⟨g, hg, rfl⟩ := wP_of (by omega) c0
  obtain ⟨Wb, hWb, w1, w2, w3, w4, w5, w6⟩ := c_begin M (25 + 5 * nw) born (nI g)
  rw [if_pos (lE 4 4 rfl c2 (by decide)), if_neg (nE 4 4 rfl (by omega) (by decide)), gd_n c2 (by decide), clN (by omega), hWb, bd_s, lt_d, w1 17 (by omega), m3, nI_1]
  generalize hMb : uM Wb 17 3 (nI (nw + 1)) = Mb
  have kb : KpB M Mb := fun k a b c => by rw [← hMb, uM_row _ _ _ _ (by omega)]; exact w1 k (by omega)
  obtain ⟨M1, N1, g1, g2, g3, g4, g5⟩ := R.act kb (a := nI 2) (n := nI 0) 0 (okA_mk 2 0 (by decide) (by decide) (by decide) (by decide))
  have n4 : N1 4 = V := (g4 4 (by decide) (by decide)).trans B.1
  obtain ⟨N2, q1, q2, q3, q4, q5, q6, q7⟩ := m_comes (N1 := N1) (by rw [n4]; exact B.wf.c.2.1) c2 born (nI g)
  have a1 : M1 17 3 = nI (nw + 1) := by rw [g3 17 (by decide) (by decide) (by decide) (by decide), ← hMb]; exact uM_s _ _ _ _
  have g1' : f_X0_note Mb 2 0 0 = some M1 := g1
  rw [g1', bd_s, g2, bd_s, q1, bd2_s, a1, nI_pred]
  have f : ∀ k, k ≠ 1 → ¬ (7 + 37 * nw ≤ k ∧ k < 7 + 37 * nw + 37) → N2 4 k = V k := fun k a b => by rw [q7 k a b, n4]
  refine ⟨_, _, _, rfl, rfl, g5 N2 q2 ?_ ⟨ng, nw + 1, ne, no, ?_, ?_, ?_⟩⟩
  · rw [B.1]
    refine EqV_mk B.wf (EqF_D (fun k => 7 + 37 * nw ≤ k ∧ k < 7 + 37 * nw + 37) (fun k hk => ?_) (fun k h1 h2 => by omega) (fun g h1 h2 => by omega) (fun w hw => ⟨fun j hj h2 => by omega, fun h2 => by omega, fun h2 => by omega, fun i _ _ => ⟨fun h2 => by omega, fun h2 => by omega⟩, fun y _ _ => ⟨fun h2 => by omega, fun h2 => by omega⟩⟩) (fun i hi j hj h2 => by omega) (fun o ho j hj h2 => by omega))
    show up1 (N2 4) 1 (N2 4 1 - 1) k = V k
    by_cases e : k = 1
    · subst e; rw [up1_s, q3, nI_pred]; exact B.wf.c.2.1.symm
    · rw [up1_n _ _ _ e, f k e hk]
  · obtain ⟨b, ⟨v0, v1, v2, v3⟩, hg0, hw, he, ho⟩ := WF_ex B.wf
    refine WF_mk ⟨by omega, by omega, by omega, by omega⟩ ⟨by rw [f 0 (by omega) (by omega)]; exact v0, q3, by rw [f 2 (by omega) (by omega)]; exact v2, by rw [f 3 (by omega) (by omega)]; exact v3⟩ (fun g hg' => by rw [f _ (by omega) (by omega)]; exact hg0 g hg') (fun w hw' => ?_) (fun i h => (he i h).cg (by omega) (fun j hj => f _ (by omega) (by omega))) (fun o h => (ho o h).cg (by omega) (fun j hj => f _ (by omega) (by omega)))
    by_cases e : w = nw
    · subst e
      have z2 : N2 4 (7 + 37 * w + 2) = 0 := q6 2 (by omega) (by omega)
      have z15 : N2 4 (7 + 37 * w + 15) = 0 := q6 15 (by omega) (by omega)
      have z36 : N2 4 (7 + 37 * w + 36) = 0 := q6 36 (by omega) (by omega)
      exact ⟨by rw [q4]; exact c, ⟨g, hg, q5⟩, ⟨0, by omega, z2, fun i hi => absurd hi (Nat.not_lt_zero i), fun i hi => absurd hi (Nat.not_lt_zero _)⟩, ⟨0, by omega, z15, fun i hi => absurd hi (Nat.not_lt_zero i)⟩, Or.inl z36⟩
    · exact (hw w (by omega)).cg (by omega) (fun j hj => f _ (by omega) (by omega))
  · obtain ⟨⟨p1, p3, p5, p7⟩, hg0, hw, he, ho⟩ := RB_ex B.rb
    have fm : ∀ k, k ≠ 17 → k ≠ 25 + 5 * nw → Mb k = M k := fun k a b => by rw [← hMb, uM_row _ _ _ _ a]; exact w1 k b
    have f17 : ∀ j, j ≠ 3 → Mb 17 j = M 17 j := fun j a => by rw [← hMb, uM_j _ _ _ _ a, w1 17 (by omega)]
    have fW : Mb (25 + 5 * nw) = Wb (25 + 5 * nw) := by rw [← hMb, uM_row _ _ _ _ (by omega)]
    refine RB_mk ⟨by rw [f17 1 (by decide)]; exact p1, by rw [← hMb]; exact uM_s _ _ _ _, by rw [f17 5 (by decide)]; exact p5, by rw [f17 7 (by decide)]; exact p7⟩ (fun g hg' => by rw [fm _ (by omega) (by omega), f _ (by omega) (by omega)]; exact hg0 g hg') (fun w hw' => ?_) (fun i h => (he i h).cg (fun j hj => by rw [fm _ (by omega) (by omega)]) (fun j hj => f _ (by omega) (by omega)) (fun q hq => ⟨f _ (by omega) (by omega), f _ (by omega) (by omega)⟩)) (fun o h => (ho o h).cg (fm _ (by omega) (by omega)) (fun j hj => f _ (by omega) (by omega)))
    by_cases e : w = nw
    · subst e
      have z2 : N2 4 (7 + 37 * w + 2) = 0 := q6 2 (by omega) (by omega)
      have z15 : N2 4 (7 + 37 * w + 15) = 0 := q6 15 (by omega) (by omega)
      have z36 : N2 4 (7 + 37 * w + 36) = 0 := q6 36 (by omega) (by omega)
      have fW' : Mb (17 + 8 + 5 * w) = Wb (25 + 5 * w) := fW
      refine ⟨by rw [fW', q4]; exact w2, by rw [fW', q5]; exact w3, by rw [fW', z2]; exact w4, by rw [fW', z15]; exact w5, by rw [fW', z36]; exact w6, fun i h1 hi => ?_, fun y h1 hy => ?_⟩
      · rw [z2] at h1; exact absurd h1 (nI_lt0 (by omega))
      · rw [z15] at h1; exact absurd h1 (nI_lt0 (by omega))
    · exact (hw w (by omega)).cg (fun j hj => fm _ (by omega) (by omega)) (fun j hj => f _ (by omega) (by omega))
  · exact B.ralw.hi hb.2.2.1 (fun k hk => f k (by omega) (by omega)) (fun i hi => by rw [← hMb, uM_row _ _ _ _ (by omega), w1 _ (by omega)])
end
