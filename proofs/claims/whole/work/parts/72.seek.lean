/-! peaks: seek, laysHeld -/
section
variable {M N : xM} {V A : Nat → Int32} {ng nw ne no : Nat}
theorem PKT.fin (h : WF V ng nw ne no) {g last : Nat} {W : xM} (hl : last < 3600) (p : PKT (hH V A ne nw g) last (Cand V nw ne) W) : ∃ d, PK (hH V A ne nw g) last d ∧ W 15 0 = nI d ∧ W 15 1 = hH V A ne nw g d := by
  obtain ⟨d, a, b, c, f, k⟩ := p
  refine ⟨d, ⟨b, fun q hq => ?_, fun q hq => ?_⟩, c, f⟩
  · obtain ⟨x, x1, x2, x3⟩ := h.hH_cand (A := A) g q (by omega)
    rw [← x3]
    rcases k x x1 (by omega) with z | ⟨z, -⟩
    · omega
    · rw [z]; exact Int.le_refl _
  · obtain ⟨x, x1, x2, x3⟩ := h.hH_cand (A := A) g q (by omega)
    rw [← x3]
    rcases k x x1 (by omega) with z | ⟨-, z⟩
    · exact z
    · omega
theorem c_seek (B : BB M N V A ng nw ne no) {g last : Nat} (hl : last < 3600) : ∃ M1, f_X4_seek M (nI g) (nI last) = some M1 ∧ Bt M M1 15 ∧ ∃ d, PK (hH V A ne nw g) last d ∧ M1 15 0 = nI d ∧ M1 15 1 = hH V A ne nw g d := by
  have hb := B.bd
  have bt : ∀ W, Bt M W 15 → BB W N V A ng nw ne no := fun W h => B.sm ((SameM.rf M).bt h (by omega))
  unfold f_X4_seek b_X4_seek_0
  rw [lt_d (uM M 15 0 (-1))]
  have h0 : Bt M (uM M 15 0 (-1)) 15 := (Bt.rf M 15).u _ _
  obtain ⟨W0, w1, w2, w3, -⟩ := c_tryDay (bt _ h0) (g := g) (q := 0) (last := last) (by omega) hl
  have w1' : f_X4_tryDay (uM M 15 0 (-1)) (nI g) 0 (nI last) = some W0 := w1
  rw [w1', bd_s]
  have p0 := w3 (by omega) (uM_s _ _ _ _)
  have b0 := h0.tr w2
  -- the entries' days
  unfold b_X4_seek_16
  obtain ⟨W1, l1, b1, p1⟩ := loopN_inv (body := fun s : xM × Int32 => bl_X4_seek_16 s.1 (nI g) (nI last) s.2) (fun i s => s.2 = nI i ∧ Bt M s.1 15 ∧ PKT (hH V A ne nw g) last (fun x => x = 0 ∨ ∃ j, j < i ∧ dyN V j = x) s.1) (fun W => Bt M W 15 ∧ PKT (hH V A ne nw g) last (fun x => x = 0 ∨ ∃ j, j < ne ∧ dyN V j = x) W) ne (by
      rintro i ⟨W, y⟩ hi ⟨h1, h2, h3⟩
      dsimp only at h1 h2 h3
      subst h1
      dsimp only
      have BW := bt W h2
      obtain ⟨d1, d2⟩ := B.wf.dN hi
      obtain ⟨W', g1, g2, -, g4⟩ := c_tryDay BW (g := g) (q := dyN V i) (last := last) d2 hl
      unfold bl_X4_seek_16
      rw [BW.rb.2.2.1, if_neg (nI_ge hi (by omega)), gd_n (by omega) (by decide), clN (by omega), (BW.k.2.1.e hi).2.2.1, d1, g1, bd_s, lt_d, nI_1]
      refine ⟨_, rfl, rfl, h2.tr g2, (g4 _ h3).cg (fun x => ⟨fun z => ?_, fun z => ?_⟩)⟩
      · rcases z with (z | ⟨j, z1, z2⟩) | z
        · exact Or.inl z
        · exact Or.inr ⟨j, by omega, z2⟩
        · exact Or.inr ⟨i, by omega, z.symm⟩
      · rcases z with z | ⟨j, z1, z2⟩
        · exact Or.inl (Or.inl z)
        · by_cases e : j = i
          · subst e; exact Or.inr z2.symm
          · exact Or.inl (Or.inr ⟨j, by omega, z2⟩)) (by
      rintro ⟨W, y⟩ ⟨h1, h2, h3⟩
      dsimp only at h1 h2 h3
      subst h1
      dsimp only
      unfold bl_X4_seek_16
      rw [(bt W h2).rb.2.2.1, if_pos (Int32.le_refl _)]
      exact ⟨_, rfl, h2, h3⟩) (W0, 0) BG ⟨rfl, b0, p0.cg (fun x => ⟨fun z => Or.inl z, fun z => by
        rcases z with z | ⟨j, z1, -⟩
        · exact z
        · exact absurd z1 (Nat.not_lt_zero j)⟩)⟩ (BG_lt (by omega))
  rw [l1, bd_s]
  -- the years
  unfold b_X4_seek_51
  obtain ⟨W2, l2, b2, p2⟩ := loopN_inv (body := fun s : xM × Int32 => bl_X4_seek_51 s.1 (nI g) (nI last) s.2) (fun i s => s.2 = nI (1 + i) ∧ Bt M s.1 15 ∧ PKT (hH V A ne nw g) last (fun x => (x = 0 ∨ ∃ j, j < ne ∧ dyN V j = x) ∨ ∃ y, 1 ≤ y ∧ y < 1 + i ∧ x = 360 * y) s.1) (fun W => Bt M W 15 ∧ PKT (hH V A ne nw g) last (fun x => (x = 0 ∨ ∃ j, j < ne ∧ dyN V j = x) ∨ ∃ y, 1 ≤ y ∧ y < 10 ∧ x = 360 * y) W) 9 (by
      rintro i ⟨W, y⟩ hi ⟨h1, h2, h3⟩
      dsimp only at h1 h2 h3
      subst h1
      dsimp only
      obtain ⟨W', g1, g2, -, g4⟩ := c_tryDay (bt W h2) (g := g) (q := 360 * (1 + i)) (last := last) (by omega) hl
      unfold bl_X4_seek_51
      rw [if_neg (gE 10 10 rfl (by omega) (by decide)), c_firstDay, bd_s, g1, bd_s, lt_d, nI_1]
      refine ⟨_, rfl, rfl, h2.tr g2, (g4 _ h3).cg (fun x => ⟨fun z => ?_, fun z => ?_⟩)⟩
      · rcases z with (z | ⟨j, z1, z2, z3⟩) | z
        · exact Or.inl z
        · exact Or.inr ⟨j, z1, by omega, z3⟩
        · exact Or.inr ⟨1 + i, by omega, by omega, z⟩
      · rcases z with z | ⟨j, z1, z2, z3⟩
        · exact Or.inl (Or.inl z)
        · by_cases e : j = 1 + i
          · subst e; exact Or.inr z3
          · exact Or.inl (Or.inr ⟨j, z1, by omega, z3⟩)) (by
      rintro ⟨W, y⟩ ⟨h1, h2, h3⟩
      dsimp only at h1 h2 h3
      subst h1
      dsimp only
      unfold bl_X4_seek_51
      rw [if_pos (by decide)]
      exact ⟨_, rfl, h2, h3⟩) (W1, 1) BG ⟨rfl, b1, p1.cg (fun x => ⟨fun z => Or.inl z, fun z => by
        rcases z with z | ⟨j, z1, z2, -⟩
        · exact z
        · omega⟩)⟩ (BG_lt (by omega))
  rw [l2, bd_s]
  -- the wards' changes
  unfold b_X4_seek_79
  obtain ⟨W3, l3, b3, p3⟩ := loopN_inv (body := fun s : xM × Int32 => bl_X4_seek_79 s.1 (nI g) (nI last) s.2) (fun w s => s.2 = nI w ∧ Bt M s.1 15 ∧ PKT (hH V A ne nw g) last (fun x => ((x = 0 ∨ ∃ j, j < ne ∧ dyN V j = x) ∨ ∃ y, 1 ≤ y ∧ y < 10 ∧ x = 360 * y) ∨ ∃ u, u < w ∧ ∃ i, i < chC V u ∧ chN V u i = x) s.1) (fun W => Bt M W 15 ∧ PKT (hH V A ne nw g) last (Cand V nw ne) W) nw (by
      rintro w ⟨W, y⟩ hw ⟨h1, h2, h3⟩
      dsimp only at h1 h2 h3
      subst h1
      dsimp only
      obtain ⟨-, -, ⟨ch, hch, v2, hcd, -⟩, -⟩ := B.wf.w hw
      have ec : chC V w = ch := by
        show (V (7 + 37 * w + 2)).toInt.toNat = ch
        rw [v2, nI_toInt (by omega)]; rfl
      unfold bl_X4_seek_79 b_X4_seek_91
      rw [(bt W h2).rb.2.1, if_neg (nI_ge hw (by omega))]
      obtain ⟨X, x1, x2, x3⟩ := loopN_inv (body := fun s : xM × Int32 => bl_X4_seek_91 s.1 (nI g) (nI last) (nI w) s.2) (fun i s => s.2 = nI i ∧ Bt M s.1 15 ∧ PKT (hH V A ne nw g) last (fun x => (((x = 0 ∨ ∃ j, j < ne ∧ dyN V j = x) ∨ ∃ y, 1 ≤ y ∧ y < 10 ∧ x = 360 * y) ∨ ∃ u, u < w ∧ ∃ i, i < chC V u ∧ chN V u i = x) ∨ ∃ j, j < i ∧ chN V w j = x) s.1) (fun W => Bt M W 15 ∧ PKT (hH V A ne nw g) last (fun x => (((x = 0 ∨ ∃ j, j < ne ∧ dyN V j = x) ∨ ∃ y, 1 ≤ y ∧ y < 10 ∧ x = 360 * y) ∨ ∃ u, u < w ∧ ∃ i, i < chC V u ∧ chN V u i = x) ∨ ∃ j, j < ch ∧ chN V w j = x) W) ch (by
          rintro i ⟨Y, y⟩ hi ⟨k1, k2, k3⟩
          dsimp only at k1 k2 k3
          subst k1
          dsimp only
          have BY := bt Y k2
          obtain ⟨-, -, c2, -, -, c5, -⟩ := BY.k.w hw
          obtain ⟨d1, d2⟩ := (hcd i hi).1
          have d3 : V (7 + 37 * w + 3 + 2 * i) = nI (chN V w i) := by
            obtain ⟨n, n1, n2, n3⟩ := nI_of0 d1
            have : chN V w i = n := by
              show (V (7 + 37 * w + 3 + 2 * i)).toInt.toNat = n
              omega
            rw [this]; exact n2
          obtain ⟨W', g1, g2, -, g4⟩ := c_tryDay BY (g := g) (q := chN V w i) (last := last) (by show (V (7 + 37 * w + 3 + 2 * i)).toInt.toNat < 3600; omega) hl
          unfold bl_X4_seek_91
          rw [gd_n (by omega) (by decide), clN (by omega), c2, v2, if_neg (nI_ge hi (by omega)), gd_n (by omega) (by decide), gd_n (by omega) (by decide), clN (by omega), show 25 + 5 * w + 1 = 26 + 5 * w by omega, (c5 i (by rw [v2]; exact nI_lt' hi (by omega)) (by omega)).1, d3, g1, bd_s, lt_d, nI_1]
          refine ⟨_, rfl, rfl, k2.tr g2, (g4 _ k3).cg (fun x => ⟨fun z => ?_, fun z => ?_⟩)⟩
          · rcases z with (z | ⟨j, z1, z2⟩) | z
            · exact Or.inl z
            · exact Or.inr ⟨j, by omega, z2⟩
            · exact Or.inr ⟨i, by omega, z.symm⟩
          · rcases z with z | ⟨j, z1, z2⟩
            · exact Or.inl (Or.inl z)
            · by_cases e : j = i
              · subst e; exact Or.inr z2.symm
              · exact Or.inl (Or.inr ⟨j, by omega, z2⟩)) (by
          rintro ⟨Y, y⟩ ⟨k1, k2, k3⟩
          dsimp only at k1 k2 k3
          subst k1
          dsimp only
          obtain ⟨-, -, c2, -⟩ := (bt Y k2).k.w hw
          unfold bl_X4_seek_91
          rw [gd_n (by omega) (by decide), clN (by omega), c2, v2, if_pos (Int32.le_refl _)]
          exact ⟨_, rfl, k2, k3⟩) (W, 0) BG ⟨rfl, h2, h3.cg (fun x => ⟨fun z => Or.inl z, fun z => by
            rcases z with z | ⟨j, z1, -⟩
            · exact z
            · exact absurd z1 (Nat.not_lt_zero j)⟩)⟩ (BG_lt (by omega))
      rw [x1, bd_s, lt_d, nI_1]
      refine ⟨_, rfl, rfl, x2, x3.cg (fun x => ⟨fun z => ?_, fun z => ?_⟩)⟩
      · rcases z with (z | ⟨u, u1, i, u2, u3⟩) | ⟨j, z1, z2⟩
        · exact Or.inl z
        · exact Or.inr ⟨u, by omega, i, u2, u3⟩
        · exact Or.inr ⟨w, by omega, j, by rw [ec]; exact z1, z2⟩
      · rcases z with z | ⟨u, u1, i, u2, u3⟩
        · exact Or.inl (Or.inl z)
        · by_cases e : u = w
          · subst e; exact Or.inr ⟨i, by rw [← ec]; exact u2, u3⟩
          · exact Or.inl (Or.inr ⟨u, by omega, i, u2, u3⟩)) (by
      rintro ⟨W, y⟩ ⟨h1, h2, h3⟩
      dsimp only at h1 h2 h3
      subst h1
      dsimp only
      unfold bl_X4_seek_79
      rw [(bt W h2).rb.2.1, if_pos (Int32.le_refl _)]
      refine ⟨_, rfl, h2, h3.cg (fun x => ?_)⟩
      unfold Cand
      rw [or_assoc, or_assoc]) (W2, 0) BG ⟨rfl, b2, p2.cg (fun x => ⟨fun z => Or.inl z, fun z => by
        rcases z with z | ⟨j, z1, -⟩
        · exact z
        · exact absurd z1 (Nat.not_lt_zero j)⟩)⟩ (BG_lt (by omega))
  rw [l3, bd_s]
  exact ⟨W3, rfl, b3, PKT.fin B.wf hl p3⟩
def RH (N W : xM) : Prop := SameN N W ∧ ∀ k, k ≠ 0 → k ≠ 8 → k ≠ 9 → k ≠ 12 → W k = N k
theorem RH.sf {N W : xM} (h : RH N W) (j : Nat) (v : Int32) (hj : j ≠ 2 ∧ j ≠ 13 ∧ j ≠ 15) : RH N (uM W 0 j v) := ⟨h.1.sf j v hj, fun k a0 a8 a9 a12 => by rw [uM_row _ _ _ _ a0]; exact h.2 k a0 a8 a9 a12⟩
theorem kEst_mo (V A : Nat → Int32) (ne w : Nat) (d : Int32) : kMoneyOn V A ne w d + kOutOn V A ne w d = kEstOn V A ne w d := by
  unfold kMoneyOn
  rw [Int32.sub_eq_add_neg, Int32.add_assoc, Int32.add_left_neg, Int32.add_zero]
theorem m_laysHeld (B : BB M N V A ng nw ne no) {g last : Nat} (hl : last < 3600) : ∃ L, f_X11_laysHeld N (nI g) (nI last) = some L ∧ RH N L ∧ ∃ d, PK (hH V A ne nw g) last d ∧ L 0 22 = nI d ∧ L 0 23 = hH V A ne nw g d := by
  have hb := B.bd
  unfold f_X11_laysHeld b_X11_laysHeld_0 b_X11_laysHeld_2
  obtain ⟨W0, l0, b0, r0⟩ := loopN_inv (body := fun s : xM × Int32 => bl_X11_laysHeld_2 s.1 (nI g) (nI last) s.2) (fun i s => s.2 = nI i ∧ Bt N s.1 12 ∧ ∀ j, j < i → s.1 12 j = 0) (fun W => Bt N W 12 ∧ ∀ j, j < last + 1 → W 12 j = 0) (last + 1) (by
      rintro i ⟨W, y⟩ hi ⟨h1, h2, h3⟩
      dsimp only at h1 h2 h3
      subst h1
      dsimp only
      unfold bl_X11_laysHeld_2
      rw [if_neg (nI_nlt (by omega) (by omega)), gd_n (by omega) (by decide), clN (by omega), lt_d, lt_d, nI_1]
      refine ⟨_, rfl, rfl, h2.u _ _, fun j hj => ?_⟩
      dsimp only
      by_cases e : j = i
      · rw [e, uM_s]
      · rw [uM_j _ _ _ _ e]; exact h3 j (by omega)) (by
      rintro ⟨W, y⟩ ⟨h1, h2, h3⟩
      dsimp only at h1 h2 h3
      subst h1
      dsimp only
      unfold bl_X11_laysHeld_2
      rw [if_pos (nI_lt' (by omega) (by omega))]
      exact ⟨_, rfl, h2, h3⟩) (N, 0) BG ⟨rfl, Bt.rf N 12, fun j hj => absurd hj (Nat.not_lt_zero j)⟩ (BG_lt (by omega))
  rw [l0, bd_s]
  unfold b_X11_laysHeld_22
  obtain ⟨W1, l1, S1, r1⟩ := loopN_inv (body := fun s : xM × Int32 => bl_X11_laysHeld_22 s.1 (nI g) (nI last) s.2) (fun w s => s.2 = nI w ∧ RH N s.1 ∧ ∀ d, d < last + 1 → s.1 12 d = sI (hF V A ne g d) w) (fun W => RH N W ∧ ∀ d, d < last + 1 → W 12 d = hH V A ne nw g d) nw (by
      rintro w ⟨W, y⟩ hw ⟨h1, h2, h3⟩
      dsimp only at h1 h2 h3
      subst h1
      dsimp only
      have BW := B.sn h2.1
      obtain ⟨L, k1, k2, k3, k4, k5⟩ := m_laysMoneyR BW hw
      unfold bl_X11_laysHeld_22 b_X11_laysHeld_40
      rw [gd1, cl1, BW.wf4.c.2.1, if_neg (nI_ge hw (by omega)), k1, bd_s]
      obtain ⟨X, x1, x2, x3⟩ := loopN_inv (body := fun s : xM × Int32 => bl_X11_laysHeld_40 s.1 (nI g) (nI last) (nI w) s.2) (fun i s => s.2 = nI i ∧ Bt L s.1 12 ∧ ∀ d, d < last + 1 → s.1 12 d = if d < i then sI (hF V A ne g d) (w + 1) else sI (hF V A ne g d) w) (fun X => Bt L X 12 ∧ ∀ d, d < last + 1 → X 12 d = sI (hF V A ne g d) (w + 1)) (last + 1) (by
          rintro i ⟨Y, y⟩ hi ⟨q1, q2, q3⟩
          dsimp only at q1 q2 q3
          subst q1
          dsimp only
          have SY : SameN W Y := k2.bt q2 (by omega)
          have BY := BW.sn SY
          have e9 : Y 9 = L 9 := q2 9 (by decide)
          have go : ∀ v, v = hF V A ne g i w → b_X11_laysHeld_88 Y (nI g) (nI last) (nI w) (nI i) v (Y 12 i) (nI i) = some (.inl (uM Y 12 i (sI (hF V A ne g i) (w + 1)), nI (i + 1))) := fun v hv => by
            unfold b_X11_laysHeld_88
            rw [gd_n (by omega) (by decide), clN (by omega), lt_d, lt_d, nI_1, hv, q3 i hi, if_neg (Nat.lt_irrefl i)]
            rfl
          have fin : ∀ d, d < last + 1 → uM Y 12 i (sI (hF V A ne g i) (w + 1)) 12 d = if d < i + 1 then sI (hF V A ne g d) (w + 1) else sI (hF V A ne g d) w := fun d hd => by
            by_cases e : d = i
            · subst e; rw [uM_s, if_pos (by omega)]
            · rw [uM_j _ _ _ _ e, q3 d hd]
              by_cases c : d < i
              · rw [if_pos c, if_pos (by omega)]
              · rw [if_neg c, if_neg (by omega)]
          unfold bl_X11_laysHeld_40
          rw [if_neg (nI_nlt (by omega) (by omega)), gd_n (by omega) (by decide), clN (by omega), BY.rGuard hw, bd_s]
          by_cases c : kGuard V w (nI i) = nI g
          · rw [if_pos c, show (360 : Int32) + nI i = nI (360 + i) from nI_add 360 i, gd_n (by omega) (by decide), BY.rOut w, bd_s, clN (by omega), e9, k4 (360 + i) (by omega), mD_eq B.wf w (by omega), kEst_mo, go _ (by unfold hF; rw [if_pos c])]
            exact ⟨_, rfl, rfl, q2.u _ _, fin⟩
          · rw [if_neg c, go _ (by unfold hF; rw [if_neg c])]
            exact ⟨_, rfl, rfl, q2.u _ _, fin⟩) (by
          rintro ⟨Y, y⟩ ⟨q1, q2, q3⟩
          dsimp only at q1 q2 q3
          subst q1
          dsimp only
          unfold bl_X11_laysHeld_40
          rw [if_pos (nI_lt' (by omega) (by omega))]
          exact ⟨_, rfl, q2, fun d hd => by rw [q3 d hd, if_pos hd]⟩) (L, 0) BG ⟨rfl, Bt.rf L 12, fun d hd => by
            dsimp only
            rw [if_neg (Nat.not_lt_zero d), k5 12 (by decide) (by decide)]; exact h3 d hd⟩ (BG_lt (by omega))
      rw [x1, bd_s, lt_d, nI_1]
      exact ⟨_, rfl, rfl, ⟨h2.1.tr (k2.bt x2 (by omega)), fun k a0 a8 a9 a12 => ((x2 k a12).trans (k5 k a8 a9)).trans (h2.2 k a0 a8 a9 a12)⟩, x3⟩) (by
      rintro ⟨W, y⟩ ⟨h1, h2, h3⟩
      dsimp only at h1 h2 h3
      subst h1
      dsimp only
      unfold bl_X11_laysHeld_22
      rw [gd1, cl1, (B.sn h2.1).wf4.c.2.1, if_pos (Int32.le_refl _)]
      exact ⟨_, rfl, h2, h3⟩) (W0, 0) BG ⟨rfl, ⟨(SameN.rf N).bt b0 (by omega), fun k _ _ _ a12 => b0 k a12⟩, fun d hd => r0 d hd⟩ (BG_lt (by omega))
  rw [l1, bd_s, lt_d]
  unfold b_X11_laysHeld_109
  obtain ⟨W2, l2, S2, ⟨r12, d, dl, d22, dm⟩⟩ := loopN_inv (body := fun s : xM × Int32 => bl_X11_laysHeld_109 s.1 (nI last) s.2) (fun i s => s.2 = nI (1 + i) ∧ RH N s.1 ∧ s.1 12 = W1 12 ∧ ∃ d, d < 1 + i ∧ s.1 0 22 = nI d ∧ (∀ q, q < 1 + i → (hH V A ne nw g q).toInt ≤ (hH V A ne nw g d).toInt) ∧ ∀ q, q < d → (hH V A ne nw g q).toInt < (hH V A ne nw g d).toInt) (fun W => RH N W ∧ W 12 = W1 12 ∧ ∃ d, d < 1 + last ∧ W 0 22 = nI d ∧ (∀ q, q < 1 + last → (hH V A ne nw g q).toInt ≤ (hH V A ne nw g d).toInt) ∧ ∀ q, q < d → (hH V A ne nw g q).toInt < (hH V A ne nw g d).toInt) last (by
      rintro i ⟨W, y⟩ hi ⟨h1, h2, h12, d, d1, d2, d3, d4⟩
      dsimp only at h1 h2 h12 d2
      subst h1
      dsimp only
      unfold bl_X11_laysHeld_109 b_X11_laysHeld_141
      rw [if_neg (nI_nlt (by omega) (by omega)), gd_n (by omega) (by decide), d2, gd_n (by omega) (by decide), clN (by omega), clN (by omega), h12, r1 (1 + i) (by omega), r1 d (by omega)]
      by_cases c : hH V A ne nw g (1 + i) ≤ hH V A ne nw g d
      · rw [if_pos c, lt_d, lt_d, nI_1]
        rw [i_le] at c
        refine ⟨_, rfl, rfl, h2.sf 22 _ ⟨by decide, by decide, by decide⟩, (show uM W 0 22 (nI d) 12 = W 12 from uM_row _ _ _ _ (by decide)).trans h12, d, by omega, show uM W 0 22 (nI d) 0 22 = nI d from uM_s _ _ _ _, fun q hq => ?_, d4⟩
        by_cases e : q = 1 + i
        · rw [e]; exact c
        · exact d3 q (by omega)
      · rw [if_neg c, lt_d, lt_d, nI_1]
        rw [i_le] at c
        refine ⟨_, rfl, rfl, h2.sf 22 _ ⟨by decide, by decide, by decide⟩, (show uM W 0 22 (nI (1 + i)) 12 = W 12 from uM_row _ _ _ _ (by decide)).trans h12, 1 + i, by omega, show uM W 0 22 (nI (1 + i)) 0 22 = nI (1 + i) from uM_s _ _ _ _, fun q hq => ?_, fun q hq => ?_⟩
        · by_cases e : q = 1 + i
          · rw [e]; exact Int.le_refl _
          · have := d3 q (by omega); omega
        · have := d3 q (by omega); omega) (by
      rintro ⟨W, y⟩ ⟨h1, h2, h3⟩
      dsimp only at h1 h2 h3
      subst h1
      dsimp only
      unfold bl_X11_laysHeld_109
      rw [if_pos (nI_lt' (by omega) (by omega))]
      exact ⟨_, rfl, h2, h3⟩) (uM W1 0 22 0, 1) BG ⟨rfl, S1.sf 22 _ ⟨by decide, by decide, by decide⟩, show uM W1 0 22 0 12 = W1 12 from uM_row _ _ _ _ (by decide), 0, by omega, show uM W1 0 22 0 0 22 = nI 0 from uM_s _ _ _ _, fun q hq => by rw [show q = 0 by omega]; exact Int.le_refl _, fun q hq => absurd hq (Nat.not_lt_zero q)⟩ (BG_lt (by omega))
  rw [l2, bd_s, d22, gd_n (by omega) (by decide), clN (by omega), lt_d, r12, r1 d (by omega)]
  exact ⟨_, rfl, S2.sf 23 _ ⟨by decide, by decide, by decide⟩, d, ⟨by omega, fun q hq => dm.1 q (by omega), dm.2⟩, by rw [uM_j _ _ _ _ (by decide)]; exact d22, uM_s _ _ _ _⟩
end
