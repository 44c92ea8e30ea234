/-! dispute, needed -/
section
variable {M N : xM} {V A : Nat → Int32} {ng nw ne no : Nat}
abbrev dKey (V A : Nat → Int32) (i : Nat) : Int := (kPart V A 3 i).toInt
abbrev dP (V A : Nat → Int32) (x : Int32) (i : Nat) : Prop := 0 < dKey V A i ∧ (x = -1 ∨ V (155 + 7 * i + 1) = x)
abbrev dPos (V A : Nat → Int32) : (Nat → Nat) → Nat → Nat → Nat := fun R n e => pIns (fun j => dKey V A j < dKey V A e) R n
abbrev dR (V A : Nat → Int32) (x : Int32) : Nat → Nat × (Nat → Nat) := bR (dP V A x) (dPos V A) id
theorem dPos_le (V A : Nat → Int32) : ∀ R n x, dPos V A R n x ≤ n := fun R n x => pIns_le _ R n
theorem dR_yes {x : Int32} {p : Nat} (h : dP V A x p) : dR V A x (p + 1) = ((dR V A x p).1 + 1, insR (dR V A x p).2 (dPos V A (dR V A x p).2 (dR V A x p).1 p) p) := by
  show bR _ _ _ (p + 1) = _
  rw [bR, if_pos h]; rfl
theorem dR_no {x : Int32} {p : Nat} (h : ¬ dP V A x p) : dR V A x (p + 1) = dR V A x p := by
  show bR _ _ _ (p + 1) = _
  rw [bR, if_neg h]
theorem dR_mem {x : Int32} {e q : Nat} (h : q < (dR V A x e).1) : (dR V A x e).2 q < e ∧ dP V A x ((dR V A x e).2 q) := by
  obtain ⟨i, h1, h2, h3⟩ := bR_mem _ _ _ (dPos_le V A) e q h
  rw [show (dR V A x e).2 q = i from h3]
  exact ⟨h1, h2⟩
theorem c_fillDisputes (B : BB M N V A ng nw ne no) (x : Int32) : ∃ M1, f_X1_fillDisputes M x = some (nI (dR V A x ne).1, M1) ∧ Bt M M1 16 ∧ ∀ q, q < (dR V A x ne).1 → M1 16 q = nI ((dR V A x ne).2 q) := by
  have hb := B.bd
  simp only [f_X1_fillDisputes, b_X1_fillDisputes_0, b_X1_fillDisputes_5]
  have hlo := loopN_inv (body := fun s : xM × Int32 × Int32 => bl_X1_fillDisputes_5 s.1 x s.2.1 s.2.2)
    (I := fun p s => s.2.2 = nI p ∧ s.2.1 = nI (dR V A x p).1 ∧ Bt M s.1 16 ∧ ∀ q, q < (dR V A x p).1 → s.1 16 q = nI ((dR V A x p).2 q))
    (P := fun s => s.2 = nI (dR V A x ne).1 ∧ Bt M s.1 16 ∧ ∀ q, q < (dR V A x ne).1 → s.1 16 q = nI ((dR V A x ne).2 q)) ne ?_ ?_ (M, 0, 0) BG ⟨rfl, rfl, Bt.rf M 16, fun q hq => absurd hq (Nat.not_lt_zero q)⟩ (BG_lt (by omega))
  · obtain ⟨⟨M1, y⟩, hl, h1, h2, h3⟩ := hlo
    dsimp only at h1
    subst h1
    exact ⟨M1, by rw [hl, bd_s], h2, h3⟩
  · rintro p ⟨W, y, z⟩ hp ⟨h1, h2, h3, h4⟩
    dsimp only at h1 h2 h3 h4
    subst h1 h2
    have BW := B.sm ((SameM.rf M).bt h3 (by omega))
    obtain ⟨-, w1, -⟩ := BW.k.2.1.e hp
    have hle : (dR V A x p).1 ≤ p := bR_le (dP V A x) (dPos V A) id p
    dsimp only
    simp only [bl_X1_fillDisputes_5, b_X1_fillDisputes_104, b_X1_fillDisputes_51, b_X1_fillDisputes_54, b_X1_fillDisputes_95, lt_d, nI_1]
    rw [BW.k.ne.1, if_neg (nI_ge hp (by omega)), gd_n (by omega) (by decide), clN (by omega), c_part BW.k hp, bd_s, gd_n (by omega) (by decide), w1]
    have no' : ¬ dP V A x p → ∃ s', some (Sum.inl (W, nI (dR V A x p).1, nI (p + 1))) = some (Sum.inl s' : (xM × Int32 × Int32) ⊕ (xM × Int32)) ∧ s'.2.2 = nI (p + 1) ∧ s'.2.1 = nI (dR V A x (p + 1)).1 ∧ Bt M s'.1 16 ∧ ∀ q, q < (dR V A x (p + 1)).1 → s'.1 16 q = nI ((dR V A x (p + 1)).2 q) := by
      intro hn
      rw [dR_no hn]
      exact ⟨_, rfl, rfl, rfl, h3, h4⟩
    by_cases c1 : kPart V A 3 p ≤ 0
    · rw [if_pos c1]
      refine no' (fun z => ?_)
      have z1 : 0 < (kPart V A 3 p).toInt := z.1
      rw [i_le, i0] at c1
      omega
    rw [if_neg c1]
    have k1 : 0 < dKey V A p := by rw [i_le, i0] at c1; show 0 < (kPart V A 3 p).toInt; omega
    have yes : dP V A x p → ∃ s', (bd (loopN (fun s : xM × Int32 => bl_X1_fillDisputes_54 s.1 x (nI (dR V A x p).1) (nI p) (kPart V A 3 p) s.2) BG (W, nI (dR V A x p).1)) (fun v => gd v.2 40 (some (Sum.inl (uM v.1 16 v.2.toNatClampNeg (nI p), nI (dR V A x p).1 + 1, nI p + 1))))) = some (Sum.inl s' : (xM × Int32 × Int32) ⊕ (xM × Int32)) ∧ s'.2.2 = nI (p + 1) ∧ s'.2.1 = nI (dR V A x (p + 1)).1 ∧ Bt M s'.1 16 ∧ ∀ q, q < (dR V A x (p + 1)).1 → s'.1 16 q = nI ((dR V A x (p + 1)).2 q) := by
      intro hy
      rw [dR_yes hy]
      obtain ⟨W1, l1, l2, l3, l4⟩ := insL (body := fun s : xM × Int32 => bl_X1_fillDisputes_54 s.1 x (nI (dR V A x p).1) (nI p) (kPart V A 3 p) s.2) W 16 (dR V A x p).1 (dR V A x p).2 (fun j => dKey V A j < dKey V A p) (by omega) (fun W1 k hb1 hk hg => by
        have BW1 := BW.sm ((SameM.rf W).bt hb1 (by omega))
        obtain ⟨mm1, mm2⟩ := dR_mem hk
        dsimp only
        simp only [bl_X1_fillDisputes_54, lt_d]
        have e1 : nI (k + 1) - 1 = nI k := pk_sub (a := k + 1) (b := 1) (by omega)
        have e2 : nI (k + 1) + (-1 : Int32) = nI k := by rw [show nI (k + 1) + (-1 : Int32) = nI (k + 1) - 1 from (Int32.sub_eq_add_neg _ _).symm, e1]
        rw [if_neg (show ¬ nI (k + 1) ≤ 0 from nI_ge (a := 0) (by omega) (by omega)), e1, e2, gd_n (by omega) (by decide), clN (by omega), hg, gd_n (by omega) (by decide), clN (by omega), c_part BW1.k (by omega), bd_s, gd_n (by omega) (by decide), gd_n (by omega) (by decide), clN (by omega)]
        by_cases c : dKey V A ((dR V A x p).2 k) < dKey V A p
        · rw [if_pos c, if_neg (fun z => by rw [i_le] at z; have : dKey V A p ≤ dKey V A ((dR V A x p).2 k) := z; omega)]
        · rw [if_neg c, if_pos (by rw [i_le]; show dKey V A p ≤ dKey V A ((dR V A x p).2 k); omega)]) (fun W1 => by
        simp only [bl_X1_fillDisputes_54]
        rw [if_pos (show nI 0 ≤ 0 from Int32.le_refl 0)]) h4
      have hpp : pIns (fun j => dKey V A j < dKey V A p) (dR V A x p).2 (dR V A x p).1 ≤ (dR V A x p).1 := pIns_le _ _ _
      rw [l1, bd_s, gd_n (by omega) (by decide), clN (by omega), nI_1, nI_1]
      refine ⟨_, rfl, rfl, rfl, (h3.tr l2).u _ _, ?_⟩
      exact ins_row l3 l4
    rw [nI_1] at yes
    simp only [nI_1] at yes
    by_cases c2 : x = -1
    · rw [if_pos c2]; exact yes ⟨k1, Or.inl c2⟩
    rw [if_neg c2]
    by_cases c3 : V (155 + 7 * p + 1) = x
    · rw [if_pos c3]; exact yes ⟨k1, Or.inr c3⟩
    · rw [if_neg c3]; exact no' (fun z => z.2.elim c2 c3)
  · rintro ⟨W, y, z⟩ ⟨h1, h2, h3, h4⟩
    dsimp only at h1 h2 h3 h4
    subst h1 h2
    have BW := B.sm ((SameM.rf M).bt h3 (by omega))
    dsimp only
    simp only [bl_X1_fillDisputes_5]
    rw [BW.k.ne.1, if_pos (nI_le (Nat.le_refl ne) (by omega))]
    exact ⟨_, rfl, rfl, h3, h4⟩
theorem kPart3 {i : Nat} (h : V (155 + 7 * i) = 1) : kPart V A 3 i = V (155 + 7 * i + 3) - A i := by
  unfold kPart
  rw [if_neg (by decide), if_neg (by decide), if_pos rfl, if_pos h]
theorem kPart3n {i : Nat} (h : ¬ V (155 + 7 * i) = 1) : kPart V A 3 i = 0 := by
  unfold kPart
  rw [if_neg (by decide), if_neg (by decide), if_pos rfl, if_neg h]
theorem dP_pay {x : Int32} {i : Nat} (h : dP V A x i) : V (155 + 7 * i) = 1 := by
  by_cases c : V (155 + 7 * i) = 1
  · exact c
  · have := h.1
    unfold dKey at this
    rw [kPart3n c, i0] at this
    omega
theorem Ls.a8 {L W : xM} (h : Ls L W) (hA : ∀ i, i < ne → L 8 i = A i) : ∀ i, i < ne → W 8 i = A i := fun i hi => by rw [h.1 8 (by decide) (by decide)]; exact hA i hi
theorem m_laysDisputes (B : BB M N V A ng nw ne no) (x : Int32) : ∃ L, f_X11_laysDisputes N x = some L ∧ SameN N L ∧ (∀ i, i < ne → L 8 i = A i) ∧ L 0 25 = nI (dR V A x ne).1 ∧ ∀ q, q < (dR V A x ne).1 → L 13 q = nI ((dR V A x ne).2 q) := by
  have hb := B.bd
  obtain ⟨L, hL, SL, hA⟩ := B.lays
  simp only [f_X11_laysDisputes, b_X11_laysDisputes_0, b_X11_laysDisputes_11, lt_d]
  rw [hL, bd_s]
  have hlo := loopN_inv (body := fun s : xM × Int32 => bl_X11_laysDisputes_11 s.1 x s.2)
    (I := fun p s => s.2 = nI p ∧ s.1 0 25 = nI (dR V A x p).1 ∧ Ls L s.1 ∧ ∀ q, q < (dR V A x p).1 → s.1 13 q = nI ((dR V A x p).2 q))
    (P := fun W => W 0 25 = nI (dR V A x ne).1 ∧ Ls L W ∧ ∀ q, q < (dR V A x ne).1 → W 13 q = nI ((dR V A x ne).2 q)) ne ?_ ?_ (uM L 0 25 0, 0) BG ⟨rfl, (show uM L 0 25 0 0 25 = 0 from uM_s _ _ _ _), (Ls.rf L).u0 0, fun q hq => absurd hq (Nat.not_lt_zero q)⟩ (BG_lt (by omega))
  · obtain ⟨W, hl, h1, h2, h3⟩ := hlo
    rw [hl, bd_s]
    exact ⟨W, rfl, SL.ls h2, h2.a8 hA, h1, h3⟩
  · rintro p ⟨W, y⟩ hp ⟨h1, h2, h3, h4⟩
    dsimp only at h1 h2 h3 h4
    subst h1
    have BW := (B.sn SL).sn ((SameN.rf L).ls h3)
    have hAW := h3.a8 hA
    have hle : (dR V A x p).1 ≤ p := bR_le (dP V A x) (dPos V A) id p
    have t1 : ¬ (1 : Int32) = 0 := by decide
    dsimp only
    simp only [bl_X11_laysDisputes_11, b_X11_laysDisputes_140, b_X11_laysDisputes_46, b_X11_laysDisputes_58, b_X11_laysDisputes_59, b_X11_laysDisputes_66, b_X11_laysDisputes_118, lt_d, nI_1, t1, eq_self, if_true, if_false]
    rw [gd_d (by decide) (by decide), cl2, BW.1, B.wf.c.2.2.1, if_neg (nI_ge hp (by omega)), BW.e0 hp, bd_s, BW.eOf 1 hp 1 (by decide) rfl, bd_s, BW.rDis hAW hp, bd_s]
    -- where nothing is put in
    have hl0 : loopN (fun s : xM × Int32 => bl_X11_laysDisputes_66 s.1 x (nI p) 0 s.2) BG (W, W 0 25) = some (W, W 0 25) := by
      have hb0 : bl_X11_laysDisputes_66 W x (nI p) 0 (W 0 25) = some (.inr (W, W 0 25)) := by
        simp only [bl_X11_laysDisputes_66]
        rw [if_pos trivial]
      show loopN _ (99999 + 1) _ = _
      rw [loopN, hb0]
    rw [hl0, bd_s]
    have no' : ¬ dP V A x p → ∃ s', some (Sum.inl (W, nI (p + 1))) = some (Sum.inl s' : (xM × Int32) ⊕ xM) ∧ s'.2 = nI (p + 1) ∧ s'.1 0 25 = nI (dR V A x (p + 1)).1 ∧ Ls L s'.1 ∧ ∀ q, q < (dR V A x (p + 1)).1 → s'.1 13 q = nI ((dR V A x (p + 1)).2 q) := by
      intro hn
      rw [dR_no hn]
      exact ⟨_, rfl, rfl, h2, h3, h4⟩
    by_cases c1 : V (155 + 7 * p) = 1
    rotate_left
    · rw [if_neg c1]; exact no' (fun z => c1 (dP_pay z))
    rw [if_pos c1]
    have kp := kPart3 (V := V) (A := A) c1
    rw [← kp]
    -- where it is put in
    have yes : dP V A x p → ∃ s', (bd (loopN (fun s : xM × Int32 => bl_X11_laysDisputes_66 s.1 x (nI p) 1 s.2) BG (W, W 0 25)) (fun v => gd v.2 1000 (some (Sum.inl (uM (uM v.1 13 v.2.toNatClampNeg (nI p)) 0 25 ((uM v.1 13 v.2.toNatClampNeg (nI p)) 0 25 + 1), nI (p + 1)))))) = some (Sum.inl s' : (xM × Int32) ⊕ xM) ∧ s'.2 = nI (p + 1) ∧ s'.1 0 25 = nI (dR V A x (p + 1)).1 ∧ Ls L s'.1 ∧ ∀ q, q < (dR V A x (p + 1)).1 → s'.1 13 q = nI ((dR V A x (p + 1)).2 q) := by
      intro hy
      rw [dR_yes hy, h2]
      obtain ⟨W1, l1, l2, l3, l4⟩ := insL (body := fun s : xM × Int32 => bl_X11_laysDisputes_66 s.1 x (nI p) 1 s.2) W 13 (dR V A x p).1 (dR V A x p).2 (fun j => dKey V A j < dKey V A p) (by omega) (fun W1 k hb1 hk hg => by
        have hL1 := h3.bt hb1
        have BW1 := (B.sn SL).sn ((SameN.rf L).ls hL1)
        have hA1 := hL1.a8 hA
        obtain ⟨mm1, mm2⟩ := dR_mem hk
        dsimp only
        simp only [bl_X11_laysDisputes_66, lt_d]
        have e1 : nI (k + 1) - 1 = nI k := pk_sub (a := k + 1) (b := 1) (by omega)
        have e2 : nI (k + 1) + (-1 : Int32) = nI k := by rw [show nI (k + 1) + (-1 : Int32) = nI (k + 1) - 1 from (Int32.sub_eq_add_neg _ _).symm, e1]
        rw [if_neg (show ¬ (1 : Int32) = 0 by decide), if_neg (show ¬ nI (k + 1) ≤ 0 from nI_ge (a := 0) (by omega) (by omega)), e1, e2, gd_n (by omega) (by decide), clN (by omega), hg, BW1.rDis hA1 (by omega), bd_s, BW1.rDis hA1 hp, bd_s, gd_n (by omega) (by decide), gd_n (by omega) (by decide), clN (by omega), ← kp, ← kPart3 (dP_pay mm2)]
        by_cases c : dKey V A ((dR V A x p).2 k) < dKey V A p
        · rw [if_pos c, if_neg (fun z => by rw [i_le] at z; have : dKey V A p ≤ dKey V A ((dR V A x p).2 k) := z; omega)]
        · rw [if_neg c, if_pos (by rw [i_le]; show dKey V A p ≤ dKey V A ((dR V A x p).2 k); omega)]) (fun W1 => by
        simp only [bl_X11_laysDisputes_66]
        rw [if_neg (show ¬ (1 : Int32) = 0 by decide), if_pos (show nI 0 ≤ 0 from Int32.le_refl 0)]) h4
      have hpp : pIns (fun j => dKey V A j < dKey V A p) (dR V A x p).2 (dR V A x p).1 ≤ (dR V A x p).1 := pIns_le _ _ _
      rw [l1, bd_s]
      dsimp only
      rw [gd_n (by omega) (by decide), clN (by omega), uM_row _ _ _ _ (by decide), l2 0 (by decide), h2, nI_1]
      refine ⟨_, rfl, rfl, (by dsimp only; exact uM_s _ _ _ _), ((h3.bt l2).u13 _ _).u0 _, fun q hq => ?_⟩
      dsimp only at hq ⊢
      rw [uM_row _ _ _ _ (by decide)]
      exact ins_row l3 l4 q hq
    by_cases k1 : kPart V A 3 p ≤ 0
    · rw [if_pos k1]
      have hn : ¬ dP V A x p := fun z => by
        have z1 : 0 < (kPart V A 3 p).toInt := z.1
        rw [i_le, i0] at k1
        omega
      by_cases c2 : x = -1
      · rw [if_pos c2]; exact no' hn
      rw [if_neg c2]
      split
      · exact no' hn
      · exact no' hn
    rw [if_neg k1]
    have k2 : 0 < dKey V A p := by rw [i_le, i0] at k1; show 0 < (kPart V A 3 p).toInt; omega
    by_cases c2 : x = -1
    · rw [if_pos c2]; exact yes ⟨k2, Or.inl c2⟩
    rw [if_neg c2]
    by_cases c3 : V (155 + 7 * p + 1) = x
    · rw [if_pos c3]; exact yes ⟨k2, Or.inr c3⟩
    · rw [if_neg c3]; exact no' (fun z => z.2.elim c2 c3)
  · rintro ⟨W, y⟩ ⟨h1, h2, h3, h4⟩
    dsimp only at h1 h2 h3 h4
    subst h1
    have BW := (B.sn SL).sn ((SameN.rf L).ls h3)
    dsimp only
    simp only [bl_X11_laysDisputes_11]
    rw [gd_d (by decide) (by decide), cl2, BW.1, B.wf.c.2.2.1, if_pos (nI_le (Nat.le_refl ne) (by omega))]
    exact ⟨_, rfl, h2, h3, h4⟩
end
theorem c_dispute {M N : xM} (h : Rel M N) (k : Int32) : ∃ r M1 N1, f_X10_dispute M k = some (r, M1) ∧ f_X11_dispute N k = some (r, N1) ∧ SameM M M1 ∧ SameN N N1 := by
  obtain ⟨N1, e1, S, V, A, ng, nw, ne, no, B⟩ := h.th
  have hb := B.bd
  simp only [f_X10_dispute, b_X10_dispute_0, f_X11_dispute, b_X11_dispute_0, lt_d, e1]
  obtain ⟨M1, g1, g2, g3⟩ := c_fillDisputes B (-1)
  obtain ⟨L, l1, l2, l3, l4, l5⟩ := m_laysDisputes B (-1)
  have hle : (dR V A (-1) ne).1 ≤ ne := bR_le (dP V A (-1)) (dPos V A) id ne
  rw [g1, bd2_s, c_fromRow (by omega) g3, bd_s, l1, bd_s, m_told (by omega) l4 l5]
  exact ⟨_, _, _, rfl, rfl, (SameM.rf M).bt g2 (by omega), S.tr l2⟩
