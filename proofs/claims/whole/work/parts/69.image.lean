/-! undo, image, back -/
theorem m_undoL (N : xM) {c : Nat} (hc : c < 10) (h : N 0 13 = nI c) : ∃ W, loopN (fun s : xM × Int32 => bl_X11_undo_26 s.1 s.2) BG (N, 0) = some W ∧ Bt N W 4 ∧ ∀ k, k < 495 → W 4 k = N 5 (495 * c + k) := by
  obtain ⟨W, hW, b1, b2⟩ := loopN_inv (body := fun s : xM × Int32 => bl_X11_undo_26 s.1 s.2) (fun i s => s.2 = nI i ∧ Bt N s.1 4 ∧ ∀ k, k < i → s.1 4 k = N 5 (495 * c + k)) (fun r => Bt N r 4 ∧ ∀ k, k < 495 → r 4 k = N 5 (495 * c + k)) 495 (fun i s hi hI => by
      obtain ⟨W, x⟩ := s
      obtain ⟨e, hb, h1⟩ := hI
      have e' : x = nI i := e
      subst e'
      have hb : Bt N W 4 := hb
      have e1 : (495 : Int32) * nI c + nI i = nI (495 * c + i) := by rw [show (495 : Int32) = nI 495 from rfl, pk_mul, nI_add]
      refine ⟨(uM W 4 i (N 5 (495 * c + i)), nI (i + 1)), ?_, rfl, hb.u _ _, fun j hj => ?_⟩
      · show bl_X11_undo_26 W (nI i) = _
        unfold bl_X11_undo_26
        rw [if_neg (gE 495 495 rfl hi (by decide)), hb 0 (by decide), h, e1, gd_n (by omega) (by decide), gd_n hi (by decide), lt_d, lt_d, clN (by omega), clN (by omega), hb 5 (by decide), nI_1]
      · show uM W 4 i (N 5 (495 * c + i)) 4 j = _
        by_cases e : j = i
        · subst e; exact uM_s _ _ _ _
        · rw [uM_j _ _ _ _ e]; exact h1 j (by omega)) (fun s hI => by
      obtain ⟨W, x⟩ := s
      obtain ⟨e, hb, h1⟩ := hI
      have e' : x = nI 495 := e
      subst e'
      refine ⟨W, ?_, hb, h1⟩
      show bl_X11_undo_26 W (nI 495) = _
      unfold bl_X11_undo_26
      rw [if_pos (by decide)]) (N, 0) BG ⟨rfl, Bt.rf N 4, fun j hj => absurd hj (Nat.not_lt_zero j)⟩ (BG_lt (by omega))
  exact ⟨W, hW, b1, b2⟩
theorem m_imageL (N : xM) : ∃ W, loopN (fun s : xM × Int32 => bl_X11_image_7 s.1 s.2) BG (N, 0) = some W ∧ Bt N W 6 ∧ ∀ k, k < 495 → W 6 k = N 4 k := by
  obtain ⟨W, hW, b1, b2⟩ := loopN_inv (body := fun s : xM × Int32 => bl_X11_image_7 s.1 s.2) (fun i s => s.2 = nI i ∧ Bt N s.1 6 ∧ ∀ k, k < i → s.1 6 k = N 4 k) (fun r => Bt N r 6 ∧ ∀ k, k < 495 → r 6 k = N 4 k) 495 (fun i s hi hI => by
      obtain ⟨W, x⟩ := s
      obtain ⟨e, hb, h1⟩ := hI
      have e' : x = nI i := e
      subst e'
      have hb : Bt N W 6 := hb
      refine ⟨(uM W 6 i (N 4 i), nI (i + 1)), ?_, rfl, hb.u _ _, fun j hj => ?_⟩
      · show bl_X11_image_7 W (nI i) = _
        unfold bl_X11_image_7
        rw [if_neg (gE 495 495 rfl hi (by decide)), gd_n hi (by decide), gd_n hi (by decide), lt_d, lt_d, clN (by omega), hb 4 (by decide), nI_1]
      · show uM W 6 i (N 4 i) 6 j = _
        by_cases e : j = i
        · subst e; exact uM_s _ _ _ _
        · rw [uM_j _ _ _ _ e]; exact h1 j (by omega)) (fun s hI => by
      obtain ⟨W, x⟩ := s
      obtain ⟨e, hb, h1⟩ := hI
      have e' : x = nI 495 := e
      subst e'
      refine ⟨W, ?_, hb, h1⟩
      show bl_X11_image_7 W (nI 495) = _
      unfold bl_X11_image_7
      rw [if_pos (by decide)]) (N, 0) BG ⟨rfl, Bt.rf N 6, fun j hj => absurd hj (Nat.not_lt_zero j)⟩ (BG_lt (by omega))
  exact ⟨W, hW, b1, b2⟩
theorem m_backL (N : xM) : ∃ W, loopN (fun s : xM × Int32 => bl_X11_back_16 s.1 s.2) BG (N, 0) = some W ∧ Bt N W 4 ∧ ∀ k, k < 495 → W 4 k = N 6 k := by
  obtain ⟨W, hW, b1, b2⟩ := loopN_inv (body := fun s : xM × Int32 => bl_X11_back_16 s.1 s.2) (fun i s => s.2 = nI i ∧ Bt N s.1 4 ∧ ∀ k, k < i → s.1 4 k = N 6 k) (fun r => Bt N r 4 ∧ ∀ k, k < 495 → r 4 k = N 6 k) 495 (fun i s hi hI => by
      obtain ⟨W, x⟩ := s
      obtain ⟨e, hb, h1⟩ := hI
      have e' : x = nI i := e
      subst e'
      have hb : Bt N W 4 := hb
      refine ⟨(uM W 4 i (N 6 i), nI (i + 1)), ?_, rfl, hb.u _ _, fun j hj => ?_⟩
      · show bl_X11_back_16 W (nI i) = _
        unfold bl_X11_back_16
        rw [if_neg (gE 495 495 rfl hi (by decide)), gd_n hi (by decide), gd_n hi (by decide), lt_d, lt_d, clN (by omega), hb 6 (by decide), nI_1]
      · show uM W 4 i (N 6 i) 4 j = _
        by_cases e : j = i
        · subst e; exact uM_s _ _ _ _
        · rw [uM_j _ _ _ _ e]; exact h1 j (by omega)) (fun s hI => by
      obtain ⟨W, x⟩ := s
      obtain ⟨e, hb, h1⟩ := hI
      have e' : x = nI 495 := e
      subst e'
      refine ⟨W, ?_, hb, h1⟩
      show bl_X11_back_16 W (nI 495) = _
      unfold bl_X11_back_16
      rw [if_pos (by decide)]) (N, 0) BG ⟨rfl, Bt.rf N 4, fun j hj => absurd hj (Nat.not_lt_zero j)⟩ (BG_lt (by omega))
  exact ⟨W, hW, b1, b2⟩
theorem c_undo {M N : xM} (h : Rel M N) : ∃ r M1 N1, f_X10_undo M = some (r, M1) ∧ f_X11_undo N = some (r, N1) ∧ Rel M1 N1 := by
  have R := h.sn (SameN.th N 0)
  unfold f_X10_undo b_X10_undo_0 f_X11_undo b_X11_undo_0
  rw [lt_d (uM N 0 0 0)]
  generalize uM N 0 0 0 = N0 at *
  have R' := R
  obtain ⟨⟨n0, t0, t1, t2, t3⟩, hr, hq, ⟨c, c0, c1, c2, c3⟩, ⟨g0, w0, e0, o0, b1, b2, b3⟩, i1, i2⟩ := R
  rw [c1, c2]
  by_cases e : c = 0
  · subst e
    rw [if_pos (by decide), if_pos (by decide)]
    exact ⟨_, _, _, rfl, rfl, R'⟩
  obtain ⟨c', rfl⟩ : ∃ c', c = c' + 1 := ⟨c - 1, by omega⟩
  rw [if_neg (nI_ne0 (by omega) (by omega)), if_neg (nI_ne0 (by omega) (by omega)), nI_pred, lt_d (uM M 6 0 (nI c')), lt_d (uM N0 0 13 (nI c')), uM_s]
  generalize hM2 : uM M 6 0 (nI c') = M2
  generalize hN1 : uM N0 0 13 (nI c') = N1
  have f2 : ∀ k, k ≠ 6 → M2 k = M k := fun k hk => by rw [← hM2]; exact uM_row _ _ _ _ hk
  have fN : ∀ k, k ≠ 0 → N1 k = N0 k := fun k hk => by rw [← hN1]; exact uM_row _ _ _ _ hk
  have n13 : N1 0 13 = nI c' := by rw [← hN1]; exact uM_s _ _ _ _
  have n0j : ∀ j, j ≠ 13 → N1 0 j = N0 0 j := fun j hj => by rw [← hN1]; exact uM_j _ _ _ _ hj
  have m60 : M2 6 0 = nI c' := by rw [← hM2]; exact uM_s _ _ _ _
  obtain ⟨N2, hN2, q1, q2⟩ := m_undoL N1 (by omega) n13
  unfold b_X11_undo_26
  rw [hN2, bd_s, q1 0 (by decide), n13, gd_n (by omega) (by decide), gd_n (by omega) (by decide), gd_n (by omega) (by decide), clN (by omega), f2 7 (by decide), f2 8 (by decide), f2 9 (by decide)]
  obtain ⟨hE, hok⟩ := c3 c' (by omega)
  have hsn : snap N0 (c' + 1) (c' + 1) = N0 4 := by
    funext k
    exact if_pos rfl
  rw [hsn] at hE
  have hV1 : ∀ k, k < 495 → N2 4 k = snap N0 (c' + 1) c' k := fun k hk => by
    rw [q2 k hk, fN 5 (by decide)]
    exact (if_neg (by omega)).symm
  obtain ⟨ng, nw, ne, no, hWF, hEq⟩ := EqV_ex (EqV.cg hE hV1 (fun k _ => rfl))
  obtain ⟨M3, r1, r2, r3⟩ := c_takeBack (M := M2) b1 (b2.kp b1.bd (fun k z1 z2 z3 z4 => f2 k (by omega))) hok hWF hEq
  obtain ⟨M4, s1, s2, s3, s4, s5⟩ := hWF.reck (r3.eqf hEq)
  have k4 : KpB M2 M4 := r2.tr s2
  rw [r1, bd_s, s1, bd_s, k4 6 (by omega) (by omega) (by omega), m60]
  have f : ∀ k, (k < 3 ∨ (7 ≤ k ∧ k ≤ 10) ∨ 97 ≤ k ∨ k = 18) → M4 k = M k := fun k hk => (k4 k (by omega) (by omega) (by omega)).trans (f2 k (by omega))
  have g : ∀ k, k ≠ 0 → k ≠ 4 → N2 k = N0 k := fun k a b => (q1 k b).trans (fN k a)
  have g0 : ∀ j, j ≠ 13 → N2 0 j = N0 0 j := fun j hj => by rw [q1 0 (by decide)]; exact n0j j hj
  refine ⟨_, _, _, rfl, rfl, ⟨n0, t0, by rw [f 1 (by omega)]; exact t1, by rw [g0 2 (by omega)]; exact t2, by rw [f 2 (by omega), g 1 (by omega) (by omega)]; exact t3⟩, fun k hk => by rw [f 18 (by omega), g 3 (by omega) (by omega)]; exact hr k hk, fun r hh => by rw [f 10 (by omega), g 7 (by omega) (by omega)]; exact hq r hh,
    ⟨c', by omega, by rw [k4 6 (by omega) (by omega) (by omega)]; exact m60, by rw [q1 0 (by decide)]; exact n13, fun j hj => ?_⟩, ⟨ng, nw, ne, no, hWF, s3, fun i hi hp => ?_⟩, by rw [f 0 (by omega), g0 15 (by omega)]; exact i1, ?_⟩
  · obtain ⟨h1, h2⟩ := c3 j (by omega)
    rw [f 7 (by omega), f 8 (by omega), f 9 (by omega)]
    have e1 : snap N2 c' j = snap N0 (c' + 1) j := by
      funext k
      show (if j = c' then _ else N2 5 (495 * j + k)) = (if j = c' + 1 then _ else N0 5 (495 * j + k))
      rw [if_neg (by omega), if_neg (by omega), g 5 (by omega) (by omega)]
    refine ⟨EqV.cg h1 (fun k _ => by rw [e1]) (undoV_cg (fun k hk => ?_) _ _ _), h2⟩
    by_cases e : j + 1 = c'
    · rw [e, ← hV1 k hk]
      exact if_pos rfl
    · show (if j + 1 = c' then _ else N2 5 (495 * (j + 1) + k)) = (if j + 1 = c' + 1 then _ else N0 5 (495 * (j + 1) + k))
      rw [if_neg e, if_neg (by omega), g 5 (by omega) (by omega)]
  · have e18 : M3 18 1 = N2 3 1 := by
      rw [r2 18 (by omega) (by omega) (by omega), f2 18 (by omega), g 3 (by omega) (by omega)]; exact (hr 1 (by decide)).1
    rw [← e18]; exact s4 i hi hp
  · rw [g0 15 (by omega), g 6 (by omega) (by omega)]
    rcases i2 with i2 | ⟨i2, ng', nw', ne', no', d1, d2, d3⟩
    · exact Or.inl i2
    · exact Or.inr ⟨i2, ng', nw', ne', no', d1, d2.kp d1.bd (fun k p1 p2 p3 p4 => f k (by omega)), fun i hi hp => by rw [f _ (by omega), g 3 (by omega) (by omega)]; exact d3 i hi hp⟩
-- become
theorem uC_row (M : xM) (a b n : Nat) {k : Nat} (h : k ≠ b) : uC M a b n k = M k := if_neg h
theorem uC_at (M : xM) (a b n : Nat) {j : Nat} (h : j < n) : uC M a b n b j = M a j := by
  show (if b = b then va_cpy (M a) (M b) 0 0 n else M b) j = _
  rw [if_pos rfl, pk_cpy_in (by omega) (by omega), Nat.sub_zero, Nat.zero_add]
theorem gz_of {β : Type} {b : Int32} (h : b = 0 ∨ b = 1) (o : Option β) : gz b o = o := if_pos h
theorem c_wBecome (M : xM) {a b : Nat} (hd : a + 5 ≤ b ∨ b + 5 ≤ a) (h6 : M b 6 = 0 ∨ M b 6 = 1) : ∃ W, f_X8_become M a b = some W ∧ (∀ k, ¬ (a ≤ k ∧ k < a + 5) → W k = M k) ∧ (W a 0 = M b 0 ∧ W a 1 = M b 1 ∧ W a 2 = M b 2 ∧ W a 5 = M b 5 ∧ W a 6 = M b 6) ∧ (∀ j, j < 6 → W (a + 1) j = M (b + 1) j ∧ W (a + 2) j = M (b + 2) j) ∧ ∀ j, j < 10 → W (a + 3) j = M (b + 3) j ∧ W (a + 4) j = M (b + 4) j := by
  obtain ⟨W, hW, w1, w2, w3, w4, w5, w6⟩ := c_begin M a (M b 0) (M b 1)
  have nb : b ≠ a := by omega
  unfold f_X8_become b_X8_become_0
  rw [hW, bd_s, lt_d, lt_d, uM_row _ _ _ _ nb, uM_row _ _ _ _ nb, w1 b nb, gz_of h6, lt_d]
  generalize hW5 : uM (uM (uM W a 2 (M b 2)) a 5 (M b 5)) a 6 (M b 6) = W5
  have f5 : ∀ k, k ≠ a → W5 k = M k := fun k hk => by rw [← hW5, uM_row _ _ _ _ hk, uM_row _ _ _ _ hk, uM_row _ _ _ _ hk]; exact w1 k hk
  have v0 : W5 a 0 = M b 0 := by rw [← hW5, uM_j _ _ _ _ (by decide), uM_j _ _ _ _ (by decide), uM_j _ _ _ _ (by decide)]; exact w2
  have v1 : W5 a 1 = M b 1 := by rw [← hW5, uM_j _ _ _ _ (by decide), uM_j _ _ _ _ (by decide), uM_j _ _ _ _ (by decide)]; exact w3
  have v2 : W5 a 2 = M b 2 := by rw [← hW5, uM_j _ _ _ _ (by decide), uM_j _ _ _ _ (by decide), uM_s]
  have v5 : W5 a 5 = M b 5 := by rw [← hW5, uM_j _ _ _ _ (by decide), uM_s]
  have v6 : W5 a 6 = M b 6 := by rw [← hW5, uM_s]
  clear hW5
  rw [lt_d, lt_d, lt_d, lt_d]
  refine ⟨_, rfl, fun k hk => ?_, ?_, fun j hj => ?_, fun j hj => ?_⟩
  · rw [uC_row _ _ _ _ (by omega), uC_row _ _ _ _ (by omega), uC_row _ _ _ _ (by omega), uC_row _ _ _ _ (by omega)]; exact f5 k (by omega)
  · rw [uC_row _ _ _ _ (by omega), uC_row _ _ _ _ (by omega), uC_row _ _ _ _ (by omega), uC_row _ _ _ _ (by omega)]; exact ⟨v0, v1, v2, v5, v6⟩
  · constructor
    · rw [uC_row _ _ _ _ (by omega), uC_row _ _ _ _ (by omega), uC_row _ _ _ _ (by omega), uC_at _ _ _ _ hj, f5 _ (by omega)]
    · rw [uC_row _ _ _ _ (by omega), uC_row _ _ _ _ (by omega), uC_at _ _ _ _ hj, uC_row _ _ _ _ (by omega), f5 _ (by omega)]
  · constructor
    · rw [uC_row _ _ _ _ (by omega), uC_at _ _ _ _ hj, uC_row _ _ _ _ (by omega), uC_row _ _ _ _ (by omega), f5 _ (by omega)]
    · rw [uC_at _ _ _ _ hj, uC_row _ _ _ _ (by omega), uC_row _ _ _ _ (by omega), uC_row _ _ _ _ (by omega), f5 _ (by omega)]
theorem c_eBecome (M : xM) {a b : Nat} (hd : a ≠ b) (h6 : M b 6 = 0 ∨ M b 6 = 1) (h7 : M b 7 = 0 ∨ M b 7 = 1) : ∃ W, f_X2_become M a b = some W ∧ (∀ k, k ≠ a → W k = M k) ∧ ∀ j, j < 9 → W a j = M b j := by
  have e6 : M b 6 = pI (M b 6 = 1) := by
    rcases h6 with e | e
    · rw [e]; rfl
    · rw [e]; rfl
  obtain ⟨W, hW, w1, u0, u1, u2, u3, u4, u5, u6, u7, u8⟩ := c_tell M a (M b 0) (M b 1) (M b 2) (M b 3) (M b 4) (M b 5) (M b 6 = 1)
  unfold f_X2_become b_X2_become_0
  rw [← e6] at hW u6
  rw [hW, bd_s, w1 b (Ne.symm hd), gz_of h7, lt_d, uM_row _ _ _ _ (Ne.symm hd), w1 b (Ne.symm hd), lt_d]
  refine ⟨_, rfl, fun k hk => by rw [uM_row _ _ _ _ hk, uM_row _ _ _ _ hk]; exact w1 k hk, fun j hj => ?_⟩
  have : j = 0 ∨ j = 1 ∨ j = 2 ∨ j = 3 ∨ j = 4 ∨ j = 5 ∨ j = 6 ∨ j = 7 ∨ j = 8 := by omega
  rcases this with rfl | rfl | rfl | rfl | rfl | rfl | rfl | rfl | rfl
  · rw [uM_j _ _ _ _ (by decide), uM_j _ _ _ _ (by decide)]; exact u0
  · rw [uM_j _ _ _ _ (by decide), uM_j _ _ _ _ (by decide)]; exact u1
  · rw [uM_j _ _ _ _ (by decide), uM_j _ _ _ _ (by decide)]; exact u2
  · rw [uM_j _ _ _ _ (by decide), uM_j _ _ _ _ (by decide)]; exact u3
  · rw [uM_j _ _ _ _ (by decide), uM_j _ _ _ _ (by decide)]; exact u4
  · rw [uM_j _ _ _ _ (by decide), uM_j _ _ _ _ (by decide)]; exact u5
  · rw [uM_j _ _ _ _ (by decide), uM_j _ _ _ _ (by decide)]; exact u6
  · rw [uM_j _ _ _ _ (by decide), uM_s]
  · rw [uM_s]
