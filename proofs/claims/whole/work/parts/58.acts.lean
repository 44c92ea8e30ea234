/-! what is kept of acts on both sides -/
theorem up1_s (V : Nat → Int32) (k : Nat) (x : Int32) : up1 V k x k = x := if_pos rfl
theorem up1_n (V : Nat → Int32) (k : Nat) (x : Int32) {j : Nat} (h : j ≠ k) : up1 V k x j = V j := if_neg h
theorem gE (x : Int32) {i : Nat} (n : Nat) (e : x = nI n) (h : i < n) (hn : n < 2 ^ 31) : ¬ x ≤ nI i := e ▸ nI_ge h hn
theorem lE (x : Int32) {i : Nat} (n : Nat) (e : x = nI n) (h : i < n) (hn : n < 2 ^ 31) : nI i < x := e ▸ nI_lt h hn
theorem nE (x : Int32) {i : Nat} (n : Nat) (e : x = nI n) (h : i < n) (hn : n < 2 ^ 31) : ¬ nI i = x := fun z => by
  rw [e, nI_eq (by omega) hn] at z; omega
def eA (c : Nat) : Nat := if c = 10 then 1 else 0
theorem eA_10 : eA 10 = 1 := rfl
theorem eA_n {c : Nat} (h : c < 10) : eA c = 0 := if_neg (by omega)
theorem m_keepsL (N : xM) {c : Nat} (hc : c < 10) (h : N 0 13 = nI c) : ∃ N1, b_X11_keeps_52 N = some N1 ∧ (∀ k, k ≠ 5 → k ≠ 0 → N1 k = N k) ∧ (∀ j, j ≠ 13 → N1 0 j = N 0 j) ∧ N1 0 13 = nI (c + 1) ∧ (∀ j, j < 495 → N1 5 (495 * c + j) = N 4 j) ∧ ∀ q, q < 495 * c → N1 5 q = N 5 q := by
  obtain ⟨W, hW, b1, b2, b3⟩ := loopN_inv (body := fun s : xM × Int32 => bl_X11_keeps_54 s.1 s.2) (fun i s => s.2 = nI i ∧ Bt N s.1 5 ∧ (∀ j, j < i → s.1 5 (495 * c + j) = N 4 j) ∧ ∀ q, q < 495 * c → s.1 5 q = N 5 q) (fun r => Bt N r 5 ∧ (∀ j, j < 495 → r 5 (495 * c + j) = N 4 j) ∧ ∀ q, q < 495 * c → r 5 q = N 5 q) 495 (fun i s hi hI => by
      obtain ⟨W, x⟩ := s
      obtain ⟨e, hb, h1, h2⟩ := hI
      have e' : x = nI i := e
      subst e'
      have hb : Bt N W 5 := hb
      have e1 : (495 : Int32) * nI c + nI i = nI (495 * c + i) := by rw [show (495 : Int32) = nI 495 from rfl, pk_mul, nI_add]
      refine ⟨(uM W 5 (495 * c + i) (N 4 i), nI (i + 1)), ?_, rfl, hb.u _ _, fun j hj => ?_, fun q hq => ?_⟩
      · show bl_X11_keeps_54 W (nI i) = _
        unfold bl_X11_keeps_54
        rw [if_neg (gE 495 495 rfl hi (by decide)), gd_n hi (by decide), hb 0 (by decide), h, e1, gd_n (by omega) (by decide), lt_d, lt_d, clN (by omega), clN (by omega), hb 4 (by decide), nI_1]
      · show uM W 5 (495 * c + i) (N 4 i) 5 (495 * c + j) = _
        by_cases e : j = i
        · subst e; exact uM_s _ _ _ _
        · rw [uM_j _ _ _ _ (by omega)]; exact h1 j (by omega)
      · show uM W 5 (495 * c + i) (N 4 i) 5 q = _
        rw [uM_j _ _ _ _ (by omega)]; exact h2 q hq) (fun s hI => by
      obtain ⟨W, x⟩ := s
      obtain ⟨e, hb, h1, h2⟩ := hI
      have e' : x = nI 495 := e
      subst e'
      refine ⟨W, ?_, hb, h1, h2⟩
      show bl_X11_keeps_54 W (nI 495) = _
      unfold bl_X11_keeps_54
      rw [if_pos (by decide)]) (N, 0) BG ⟨rfl, Bt.rf N 5, fun j hj => absurd hj (Nat.not_lt_zero j), fun q _ => rfl⟩ (BG_lt (by omega))
  refine ⟨uM W 0 13 (nI (c + 1)), ?_, fun k h5 h0 => by rw [uM_row _ _ _ _ h0]; exact b1 k h5, fun j hj => by rw [uM_j _ _ _ _ hj, b1 0 (by decide)], uM_s _ _ _ _, fun j hj => by rw [uM_row _ _ _ _ (by decide)]; exact b2 j hj, fun q hq => by rw [uM_row _ _ _ _ (by decide)]; exact b3 q hq⟩
  unfold b_X11_keeps_52 b_X11_keeps_54
  rw [hW, bd_s, lt_d, b1 0 (by decide), h, nI_1]
theorem m_shift (N : xM) : ∃ W, loopN (fun s : xM × Int32 => bl_X11_keeps_13 s.1 s.2) BG (N, 495) = some W ∧ Bt N W 5 ∧ ∀ j, j < 4455 → W 5 j = N 5 (j + 495) := by
  obtain ⟨W, hW, b1, b2⟩ := loopN_inv (body := fun s : xM × Int32 => bl_X11_keeps_13 s.1 s.2) (fun i s => s.2 = nI (495 + i) ∧ Bt N s.1 5 ∧ (∀ j, j < i → s.1 5 j = N 5 (j + 495)) ∧ ∀ q, i ≤ q → s.1 5 q = N 5 q) (fun r => Bt N r 5 ∧ ∀ j, j < 4455 → r 5 j = N 5 (j + 495)) 4455 (fun i s hi hI => by
      obtain ⟨W, x⟩ := s
      obtain ⟨e, hb, h1, h2⟩ := hI
      have e' : x = nI (495 + i) := e
      subst e'
      have e1 : nI (495 + i) - (495 : Int32) = nI i := by rw [show (495 : Int32) = nI 495 from rfl, nI_sub _ _ (by omega), Nat.add_sub_cancel_left]
      refine ⟨(uM W 5 i (N 5 (i + 495)), nI (495 + (i + 1))), ?_, rfl, hb.u _ _, fun j hj => ?_, fun q hq => ?_⟩
      · show bl_X11_keeps_13 W (nI (495 + i)) = _
        unfold bl_X11_keeps_13
        rw [if_neg (gE 4950 4950 rfl (by omega) (by decide)), gd_n (by omega) (by decide), e1, gd_n (by omega) (by decide), lt_d, lt_d, clN (by omega), clN (by omega), show W 5 (495 + i) = N 5 (i + 495) from (h2 (495 + i) (by omega)).trans (congrArg (N 5) (Nat.add_comm 495 i)), nI_1, Nat.add_assoc]
      · show uM W 5 i (N 5 (i + 495)) 5 j = _
        by_cases e : j = i
        · subst e; exact uM_s _ _ _ _
        · rw [uM_j _ _ _ _ (by omega)]; exact h1 j (by omega)
      · show uM W 5 i (N 5 (i + 495)) 5 q = _
        rw [uM_j _ _ _ _ (by omega)]; exact h2 q (by omega)) (fun s hI => by
      obtain ⟨W, x⟩ := s
      obtain ⟨e, hb, h1, h2⟩ := hI
      have e' : x = nI 4950 := e
      subst e'
      refine ⟨W, ?_, hb, h1⟩
      show bl_X11_keeps_13 W (nI 4950) = _
      unfold bl_X11_keeps_13
      rw [if_pos (by decide)]) (N, 495) BG ⟨rfl, Bt.rf N 5, fun j hj => absurd hj (Nat.not_lt_zero j), fun q _ => rfl⟩ (BG_lt (by omega))
  exact ⟨W, hW, b1, b2⟩
theorem m_keeps (N : xM) {c : Nat} (hc : c ≤ 10) (h : N 0 13 = nI c) : ∃ N1, f_X11_keeps N = some N1 ∧ (∀ k, k ≠ 5 → k ≠ 0 → N1 k = N k) ∧ (∀ j, j ≠ 13 → N1 0 j = N 0 j) ∧ N1 0 13 = nI (c + 1 - eA c) ∧ ∀ j, j < c + 1 - eA c → ∀ k, k < 495 → N1 5 (495 * j + k) = snap N c (j + eA c) k := by
  unfold f_X11_keeps b_X11_keeps_0
  by_cases e : c = 10
  · subst e
    rw [if_pos (by rw [h]; rfl)]
    obtain ⟨W, hW, b1, b2⟩ := m_shift N
    unfold b_X11_keeps_13
    rw [hW, bd_s, lt_d]
    have e9 : (uM W 0 13 (W 0 13 - 1)) 0 13 = nI 9 := by rw [uM_s, b1 0 (by decide), h]; rfl
    obtain ⟨N1, g1, g2, g3, g4, g5, g6⟩ := m_keepsL (uM W 0 13 (W 0 13 - 1)) (c := 9) (by omega) e9
    refine ⟨N1, g1, fun k h5 h0 => by rw [g2 k h5 h0, uM_row _ _ _ _ h0]; exact b1 k h5, fun j hj => by rw [g3 j hj, uM_j _ _ _ _ hj, b1 0 (by decide)], g4, fun j hj k hk => ?_⟩
    have hj' : j < 10 := hj
    rw [eA_10]
    unfold snap
    by_cases e2 : j = 9
    · subst e2
      rw [if_pos rfl, g5 k hk, uM_row _ _ _ _ (by decide), b1 4 (by decide)]
    · rw [if_neg (by omega), g6 _ (by omega), uM_row _ _ _ _ (by decide), b2 _ (by omega)]
      exact congrArg (N 5) (by omega)
  · have hc' : c < 10 := by omega
    rw [if_neg (by rw [h]; exact nE 10 10 rfl hc' (by decide))]
    obtain ⟨N1, g1, g2, g3, g4, g5, g6⟩ := m_keepsL N hc' h
    rw [eA_n hc']
    refine ⟨N1, g1, g2, g3, g4, fun j hj k hk => ?_⟩
    unfold snap
    by_cases e2 : j = c
    · subst e2; rw [if_pos (Nat.add_zero j)]; exact g5 k hk
    · rw [if_neg (by omega)]; exact g6 _ (by omega)
theorem u3 (W : xM) (a : Nat) (x y z : Int32) : (∀ k, k ≠ 7 → k ≠ 8 → k ≠ 9 → uM (uM (uM W 7 a x) 8 a y) 9 a z k = W k) ∧ (uM (uM (uM W 7 a x) 8 a y) 9 a z 7 = upd (W 7) a x ∧ uM (uM (uM W 7 a x) 8 a y) 9 a z 8 = upd (W 8) a y ∧ uM (uM (uM W 7 a x) 8 a y) 9 a z 9 = upd (W 9) a z) := by
  refine ⟨fun k h7 h8 h9 => by rw [uM_row _ _ _ _ h9, uM_row _ _ _ _ h8, uM_row _ _ _ _ h7], ?_, ?_, ?_⟩ <;> simp [uM]
theorem c_drop (M : xM) : ∃ W, f_X0_dropOldest M = some W ∧ (∀ k, k ≠ 6 → k ≠ 7 → k ≠ 8 → k ≠ 9 → W k = M k) ∧ W 6 0 = nI 9 ∧ ∀ j, j < 9 → W 7 j = M 7 (j + 1) ∧ W 8 j = M 8 (j + 1) ∧ W 9 j = M 9 (j + 1) := by
  obtain ⟨W, hW, b1, b2⟩ := loopN_inv (body := fun s : xM × Int32 => bl_X0_dropOldest_2 s.1 s.2) (fun i s => s.2 = nI (1 + i) ∧ (∀ k, k ≠ 7 → k ≠ 8 → k ≠ 9 → s.1 k = M k) ∧ (∀ j, j < i → s.1 7 j = M 7 (j + 1) ∧ s.1 8 j = M 8 (j + 1) ∧ s.1 9 j = M 9 (j + 1)) ∧ ∀ q, i ≤ q → s.1 7 q = M 7 q ∧ s.1 8 q = M 8 q ∧ s.1 9 q = M 9 q) (fun r => (∀ k, k ≠ 7 → k ≠ 8 → k ≠ 9 → r k = M k) ∧ ∀ j, j < 9 → r 7 j = M 7 (j + 1) ∧ r 8 j = M 8 (j + 1) ∧ r 9 j = M 9 (j + 1)) 9 (fun i s hi hI => by
      obtain ⟨W, x⟩ := s
      obtain ⟨e, hb, h1, h2⟩ := hI
      have e' : x = nI (1 + i) := e
      subst e'
      have e1 : nI (1 + i) - (1 : Int32) = nI i := by rw [show (1 : Int32) = nI 1 from rfl, nI_sub _ _ (by omega), Nat.add_sub_cancel_left]
      obtain ⟨q1, q2, q3⟩ := h2 (1 + i) (by omega)
      have q1 : W 7 (1 + i) = M 7 (1 + i) := q1
      have q2 : W 8 (1 + i) = M 8 (1 + i) := q2
      have q3 : W 9 (1 + i) = M 9 (1 + i) := q3
      obtain ⟨u1, u7, u8, u9⟩ := u3 W i (M 7 (1 + i)) (M 8 (1 + i)) (M 9 (1 + i))
      refine ⟨(uM (uM (uM W 7 i (M 7 (1 + i))) 8 i (M 8 (1 + i))) 9 i (M 9 (1 + i)), nI (1 + (i + 1))), ?_, rfl, fun k h7 h8 h9 => (u1 k h7 h8 h9).trans (hb k h7 h8 h9), fun j hj => ?_, fun q hq => ?_⟩
      · show bl_X0_dropOldest_2 W (nI (1 + i)) = _
        unfold bl_X0_dropOldest_2
        rw [if_neg (gE 10 10 rfl (by omega) (by decide)), gd_n (by omega) (by decide), e1, gd_n (by omega) (by decide), clN (by omega), clN (by omega), lt_d, q1, gd_n (by omega) (by decide), gd_n (by omega) (by decide), lt_d, uM_row _ _ _ _ (by decide), q2, gd_n (by omega) (by decide), gd_n (by omega) (by decide), lt_d, uM_row _ _ _ _ (by decide), uM_row _ _ _ _ (by decide), q3, lt_d, nI_1]
        rfl
      · show (uM (uM (uM W 7 i (M 7 (1 + i))) 8 i (M 8 (1 + i))) 9 i (M 9 (1 + i))) 7 j = _ ∧ (uM (uM (uM W 7 i (M 7 (1 + i))) 8 i (M 8 (1 + i))) 9 i (M 9 (1 + i))) 8 j = _ ∧ (uM (uM (uM W 7 i (M 7 (1 + i))) 8 i (M 8 (1 + i))) 9 i (M 9 (1 + i))) 9 j = _
        rw [u7, u8, u9]
        by_cases e : j = i
        · subst e; rw [pk_us, pk_us, pk_us, Nat.add_comm 1 j]; exact ⟨rfl, rfl, rfl⟩
        · rw [pk_un e, pk_un e, pk_un e]; exact h1 j (by omega)
      · show (uM (uM (uM W 7 i (M 7 (1 + i))) 8 i (M 8 (1 + i))) 9 i (M 9 (1 + i))) 7 q = _ ∧ (uM (uM (uM W 7 i (M 7 (1 + i))) 8 i (M 8 (1 + i))) 9 i (M 9 (1 + i))) 8 q = _ ∧ (uM (uM (uM W 7 i (M 7 (1 + i))) 8 i (M 8 (1 + i))) 9 i (M 9 (1 + i))) 9 q = _
        rw [u7, u8, u9, pk_un (by omega), pk_un (by omega), pk_un (by omega)]; exact h2 q (by omega)) (fun s hI => by
      obtain ⟨W, x⟩ := s
      obtain ⟨e, hb, h1, h2⟩ := hI
      have e' : x = nI 10 := e
      subst e'
      refine ⟨W, ?_, hb, h1⟩
      show bl_X0_dropOldest_2 W (nI 10) = _
      unfold bl_X0_dropOldest_2
      rw [if_pos (by decide)]) (M, 1) BG ⟨rfl, fun _ _ _ _ => rfl, fun j hj => absurd hj (Nat.not_lt_zero j), fun q _ => ⟨rfl, rfl, rfl⟩⟩ (BG_lt (by omega))
  refine ⟨uM W 6 0 9, ?_, fun k h6 h7 h8 h9 => by rw [uM_row _ _ _ _ h6]; exact b1 k h7 h8 h9, uM_s _ _ _ _, fun j hj => by rw [uM_row _ _ _ _ (by decide), uM_row _ _ _ _ (by decide), uM_row _ _ _ _ (by decide)]; exact b2 j hj⟩
  unfold f_X0_dropOldest b_X0_dropOldest_0 b_X0_dropOldest_2
  rw [hW, bd_s, lt_d]
theorem c_noteL (M : xM) {c : Nat} (hc : c < 10) (h : M 6 0 = nI c) (a n x : Int32) : ∃ W, b_X0_note_13 M a n x = some W ∧ (∀ k, k ≠ 6 → k ≠ 7 → k ≠ 8 → k ≠ 9 → W k = M k) ∧ W 6 0 = nI (c + 1) ∧ W 7 = upd (M 7) c a ∧ W 8 = upd (M 8) c n ∧ W 9 = upd (M 9) c x := by
  obtain ⟨u1, u7, u8, u9⟩ := u3 M c a n x
  refine ⟨uM (uM (uM (uM M 7 c a) 8 c n) 9 c x) 6 0 (nI (c + 1)), ?_, fun k h6 h7 h8 h9 => by rw [uM_row _ _ _ _ h6]; exact u1 k h7 h8 h9, uM_s _ _ _ _, by rw [uM_row _ _ _ _ (by decide)]; exact u7, by rw [uM_row _ _ _ _ (by decide)]; exact u8, by rw [uM_row _ _ _ _ (by decide)]; exact u9⟩
  have r7 : (uM M 7 c a) 6 0 = nI c := by rw [uM_row _ _ _ _ (by decide)]; exact h
  have r8 : (uM (uM M 7 c a) 8 c n) 6 0 = nI c := by rw [uM_row _ _ _ _ (by decide)]; exact r7
  have r9 : (uM (uM (uM M 7 c a) 8 c n) 9 c x) 6 0 = nI c := by rw [uM_row _ _ _ _ (by decide)]; exact r8
  unfold b_X0_note_13
  rw [h, gd_n hc (by decide), clN (by omega), lt_d, r7, gd_n hc (by decide), clN (by omega), lt_d, r8, gd_n hc (by decide), clN (by omega), lt_d, r9, lt_d, nI_1]
theorem c_note (M : xM) {c : Nat} (hc : c ≤ 10) (h : M 6 0 = nI c) (a n x : Int32) : ∃ W, f_X0_note M a n x = some W ∧ (∀ k, k ≠ 6 → k ≠ 7 → k ≠ 8 → k ≠ 9 → W k = M k) ∧ W 6 0 = nI (c + 1 - eA c) ∧ (W 7 (c - eA c) = a ∧ W 8 (c - eA c) = n ∧ W 9 (c - eA c) = x) ∧ ∀ j, j < c - eA c → W 7 j = M 7 (j + eA c) ∧ W 8 j = M 8 (j + eA c) ∧ W 9 j = M 9 (j + eA c) := by
  unfold f_X0_note b_X0_note_0
  by_cases e : c = 10
  · subst e
    rw [if_pos (by rw [h]; rfl)]
    obtain ⟨W, hW, b1, b2, b3⟩ := c_drop M
    rw [hW, bd_s]
    obtain ⟨W2, g1, g2, g3, g7, g8, g9⟩ := c_noteL W (c := 9) (by omega) b2 a n x
    refine ⟨W2, g1, fun k h6 h7 h8 h9 => (g2 k h6 h7 h8 h9).trans (b1 k h6 h7 h8 h9), g3, ?_, fun j hj => ?_⟩
    · rw [g7, g8, g9]; exact ⟨pk_us, pk_us, pk_us⟩
    · have hj' : j < 9 := hj
      rw [g7, g8, g9, pk_un (by omega), pk_un (by omega), pk_un (by omega)]; exact b3 j hj'
  · have hc' : c < 10 := by omega
    rw [if_neg (by rw [h]; exact nE 10 10 rfl hc' (by decide))]
    obtain ⟨W2, g1, g2, g3, g7, g8, g9⟩ := c_noteL M hc' h a n x
    rw [eA_n hc']
    refine ⟨W2, g1, g2, g3, ?_, fun j hj => ?_⟩
    · rw [g7, g8, g9]; exact ⟨pk_us, pk_us, pk_us⟩
    · have hj' : j < c := hj
      rw [g7, g8, g9, pk_un (by omega), pk_un (by omega), pk_un (by omega)]; exact ⟨rfl, rfl, rfl⟩
