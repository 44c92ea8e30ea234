/-! image, back -/
section
variable {V : Nat → Int32} {ng nw ne no : Nat}
theorem c_becW {W : xM} {a b : Nat} (hd : a + 80 ≤ b ∨ b + 80 ≤ a) (hn : nw ≤ 4) (hc : W a 3 = nI nw) (hw : ∀ w, w < nw → RBw W b V w) (h6 : ∀ w, w < nw → V (7 + 37 * w + 36) = 0 ∨ V (7 + 37 * w + 36) = 1) : ∃ W1, loopN (fun s : xM × Int32 => bl_X1_become_48 s.1 a b s.2) BG (W, 0) = some W1 ∧ (∀ k, ¬ (a + 8 ≤ k ∧ k < a + 28) → W1 k = W k) ∧ ∀ w, w < nw → RBw W1 a V w := by
  obtain ⟨W1, hW1, b1, b2⟩ := loopN_inv (body := fun s : xM × Int32 => bl_X1_become_48 s.1 a b s.2) (fun i s => s.2 = nI i ∧ (∀ k, ¬ (a + 8 ≤ k ∧ k < a + 8 + 5 * i) → s.1 k = W k) ∧ ∀ w, w < i → RBw s.1 a V w) (fun r => (∀ k, ¬ (a + 8 ≤ k ∧ k < a + 28) → r k = W k) ∧ ∀ w, w < nw → RBw r a V w) nw (fun i s hi hI => by
      obtain ⟨W2, x⟩ := s
      obtain ⟨e, hk, h1⟩ := hI
      have e' : x = nI i := e
      subst e'
      have hk : ∀ k, ¬ (a + 8 ≤ k ∧ k < a + 8 + 5 * i) → W2 k = W k := hk
      have h1 : ∀ w, w < i → RBw W2 a V w := h1
      obtain ⟨p0, p1, p2, p5, p6, p7, p8⟩ := hw i hi
      have fb : ∀ j, j < 5 → W2 (b + 8 + 5 * i + j) = W (b + 8 + 5 * i + j) := fun j hj => hk _ (by omega)
      have fb0 : W2 (b + 8 + 5 * i) = W (b + 8 + 5 * i) := fb 0 (by omega)
      obtain ⟨W3, g1, g2, ⟨v0, v1, v2, v5, v6⟩, g4, g5⟩ := c_wBecome W2 (a := a + 8 + 5 * i) (b := b + 8 + 5 * i) (by omega) (by rw [fb0, p6]; exact h6 i hi)
      refine ⟨(W3, nI (i + 1)), ?_, rfl, fun k hk' => ?_, fun w hw' => ?_⟩
      · show bl_X1_become_48 W2 a b (nI i) = _
        unfold bl_X1_become_48
        rw [hk a (by omega), hc, if_neg (nI_ge hi (by omega)), gd_n (by omega) (by decide), gd_n (by omega) (by decide), clN (by omega), g1, bd_s, lt_d, nI_1]
      · show W3 k = W k
        rw [g2 k (by omega)]; exact hk k (by omega)
      · show RBw W3 a V w
        by_cases e : w = i
        · subst e
          refine ⟨by rw [v0, fb0]; exact p0, by rw [v1, fb0]; exact p1, by rw [v2, fb0]; exact p2, by rw [v5, fb0]; exact p5, by rw [v6, fb0]; exact p6, fun j h1 hj => ?_, fun y h1 hy => ?_⟩
          · obtain ⟨z1, z2⟩ := g4 j hj
            rw [show a + 9 + 5 * w = a + 8 + 5 * w + 1 by omega, show a + 10 + 5 * w = a + 8 + 5 * w + 2 by omega, z1, z2, fb 1 (by omega), fb 2 (by omega), show b + 8 + 5 * w + 1 = b + 9 + 5 * w by omega, show b + 8 + 5 * w + 2 = b + 10 + 5 * w by omega]
            exact p7 j h1 hj
          · obtain ⟨z1, z2⟩ := g5 y hy
            rw [show a + 11 + 5 * w = a + 8 + 5 * w + 3 by omega, show a + 12 + 5 * w = a + 8 + 5 * w + 4 by omega, z1, z2, fb 3 (by omega), fb 4 (by omega), show b + 8 + 5 * w + 3 = b + 11 + 5 * w by omega, show b + 8 + 5 * w + 4 = b + 12 + 5 * w by omega]
            exact p8 y h1 hy
        · exact (h1 w (by omega)).cg (fun j hj => g2 _ (by omega)) (fun j hj => rfl)) (fun s hI => by
      obtain ⟨W2, x⟩ := s
      obtain ⟨e, hk, h1⟩ := hI
      have e' : x = nI nw := e
      subst e'
      have hk : ∀ k, ¬ (a + 8 ≤ k ∧ k < a + 8 + 5 * nw) → W2 k = W k := hk
      refine ⟨W2, ?_, fun k hk' => hk k (by omega), h1⟩
      show bl_X1_become_48 W2 a b (nI nw) = _
      unfold bl_X1_become_48
      rw [hk a (by omega), hc, if_pos (Int32.le_refl _)]) (W, 0) BG ⟨rfl, fun _ _ => rfl, fun j hj => absurd hj (Nat.not_lt_zero j)⟩ (BG_lt (by omega))
  exact ⟨W1, hW1, b1, b2⟩
theorem c_becE {W : xM} {a b : Nat} (hd : a + 80 ≤ b ∨ b + 80 ≤ a) (hn : ne ≤ 40) (hc : W a 5 = nI ne) (hw : ∀ i, i < ne → RBn W b V i) (h6 : ∀ i, i < ne → V (155 + 7 * i + 6) = 0 ∨ V (155 + 7 * i + 6) = 1) : ∃ W1, loopN (fun s : xM × Int32 => bl_X1_become_79 s.1 a b s.2) BG (W, 0) = some W1 ∧ (∀ k, ¬ (a + 28 ≤ k ∧ k < a + 68) → W1 k = W k) ∧ ∀ i, i < ne → RBn W1 a V i ∧ W1 (a + 28 + i) 8 = W (b + 28 + i) 8 := by
  obtain ⟨W1, hW1, b1, b2⟩ := loopN_inv (body := fun s : xM × Int32 => bl_X1_become_79 s.1 a b s.2) (fun i s => s.2 = nI i ∧ (∀ k, ¬ (a + 28 ≤ k ∧ k < a + 28 + i) → s.1 k = W k) ∧ ∀ w, w < i → RBn s.1 a V w ∧ s.1 (a + 28 + w) 8 = W (b + 28 + w) 8) (fun r => (∀ k, ¬ (a + 28 ≤ k ∧ k < a + 68) → r k = W k) ∧ ∀ w, w < ne → RBn r a V w ∧ r (a + 28 + w) 8 = W (b + 28 + w) 8) ne (fun i s hi hI => by
      obtain ⟨W2, x⟩ := s
      obtain ⟨e, hk, h1⟩ := hI
      have e' : x = nI i := e
      subst e'
      have hk : ∀ k, ¬ (a + 28 ≤ k ∧ k < a + 28 + i) → W2 k = W k := hk
      have h1 : ∀ w, w < i → RBn W2 a V w ∧ W2 (a + 28 + w) 8 = W (b + 28 + w) 8 := h1
      obtain ⟨p0, p7, p6⟩ := hw i hi
      have fb0 : W2 (b + 28 + i) = W (b + 28 + i) := hk _ (by omega)
      obtain ⟨W3, g1, g2, g3⟩ := c_eBecome W2 (a := a + 28 + i) (b := b + 28 + i) (by omega) (by
        rw [fb0]
        rcases p6 with z | z
        · exact Or.inr z.1
        · exact Or.inl z.1) (by rw [fb0, p7]; exact h6 i hi)
      refine ⟨(W3, nI (i + 1)), ?_, rfl, fun k hk' => ?_, fun w hw' => ?_⟩
      · show bl_X1_become_79 W2 a b (nI i) = _
        unfold bl_X1_become_79
        rw [hk a (by omega), hc, if_neg (nI_ge hi (by omega)), gd_n (by omega) (by decide), gd_n (by omega) (by decide), clN (by omega), g1, bd_s, lt_d, nI_1]
      · show W3 k = W k
        rw [g2 k (by omega)]; exact hk k (by omega)
      · show RBn W3 a V w ∧ W3 (a + 28 + w) 8 = W (b + 28 + w) 8
        by_cases e : w = i
        · subst e
          refine ⟨⟨fun j hj => by rw [g3 j (by omega), fb0]; exact p0 j hj, by rw [g3 7 (by omega), fb0]; exact p7, by rw [g3 6 (by omega), fb0]; exact p6⟩, by rw [g3 8 (by omega), fb0]⟩
        · obtain ⟨z1, z2⟩ := h1 w (by omega)
          have e2 : W3 (a + 28 + w) = W2 (a + 28 + w) := g2 _ (by omega)
          exact ⟨z1.cg (fun j hj => by rw [e2]) (fun j hj => rfl) (fun q hq => ⟨rfl, rfl⟩), by rw [e2]; exact z2⟩) (fun s hI => by
      obtain ⟨W2, x⟩ := s
      obtain ⟨e, hk, h1⟩ := hI
      have e' : x = nI ne := e
      subst e'
      have hk : ∀ k, ¬ (a + 28 ≤ k ∧ k < a + 28 + ne) → W2 k = W k := hk
      refine ⟨W2, ?_, fun k hk' => hk k (by omega), h1⟩
      show bl_X1_become_79 W2 a b (nI ne) = _
      unfold bl_X1_become_79
      rw [hk a (by omega), hc, if_pos (Int32.le_refl _)]) (W, 0) BG ⟨rfl, fun _ _ => rfl, fun j hj => absurd hj (Nat.not_lt_zero j)⟩ (BG_lt (by omega))
  exact ⟨W1, hW1, b1, b2⟩
theorem c_becO {W : xM} {a b : Nat} (hd : a + 80 ≤ b ∨ b + 80 ≤ a) (hn : no ≤ 12) (hc : W a 7 = nI no) (hw : ∀ i, i < no → RBr W b V i) : ∃ W1, loopN (fun s : xM × Int32 => bl_X1_become_110 s.1 a b s.2) BG (W, 0) = some W1 ∧ (∀ k, ¬ (a + 68 ≤ k ∧ k < a + 80) → W1 k = W k) ∧ ∀ i, i < no → RBr W1 a V i := by
  obtain ⟨W1, hW1, b1, b2⟩ := loopN_inv (body := fun s : xM × Int32 => bl_X1_become_110 s.1 a b s.2) (fun i s => s.2 = nI i ∧ (∀ k, ¬ (a + 68 ≤ k ∧ k < a + 68 + i) → s.1 k = W k) ∧ ∀ w, w < i → RBr s.1 a V w) (fun r => (∀ k, ¬ (a + 68 ≤ k ∧ k < a + 80) → r k = W k) ∧ ∀ w, w < no → RBr r a V w) no (fun i s hi hI => by
      obtain ⟨W2, x⟩ := s
      obtain ⟨e, hk, h1⟩ := hI
      have e' : x = nI i := e
      subst e'
      have hk : ∀ k, ¬ (a + 68 ≤ k ∧ k < a + 68 + i) → W2 k = W k := hk
      have h1 : ∀ w, w < i → RBr W2 a V w := h1
      have p := hw i hi
      have fb0 : W2 (b + 68 + i) = W (b + 68 + i) := hk _ (by omega)
      obtain ⟨W3, g1, g2, u0, u1, u2, u3, u4⟩ := c_tellO W2 (a + 68 + i) (W2 (b + 68 + i) 0) (W2 (b + 68 + i) 1) (W2 (b + 68 + i) 2) (W2 (b + 68 + i) 3) (W2 (b + 68 + i) 4)
      refine ⟨(W3, nI (i + 1)), ?_, rfl, fun k hk' => ?_, fun w hw' => ?_⟩
      · show bl_X1_become_110 W2 a b (nI i) = _
        unfold bl_X1_become_110
        rw [hk a (by omega), hc, if_neg (nI_ge hi (by omega)), gd_n (by omega) (by decide), gd_n (by omega) (by decide), clN (by omega), g1, bd_s, lt_d, nI_1]
      · show W3 k = W k
        rw [g2 k (by omega)]; exact hk k (by omega)
      · show RBr W3 a V w
        by_cases e : w = i
        · subst e
          intro j hj
          rw [fb0] at u0 u1 u2 u3 u4
          have : j = 0 ∨ j = 1 ∨ j = 2 ∨ j = 3 ∨ j = 4 := by omega
          rcases this with rfl | rfl | rfl | rfl | rfl
          · rw [u0]; exact p 0 (by omega)
          · rw [u1]; exact p 1 (by omega)
          · rw [u2]; exact p 2 (by omega)
          · rw [u3]; exact p 3 (by omega)
          · rw [u4]; exact p 4 (by omega)
        · exact (h1 w (by omega)).cg (g2 _ (by omega)) (fun j hj => rfl)) (fun s hI => by
      obtain ⟨W2, x⟩ := s
      obtain ⟨e, hk, h1⟩ := hI
      have e' : x = nI no := e
      subst e'
      have hk : ∀ k, ¬ (a + 68 ≤ k ∧ k < a + 68 + no) → W2 k = W k := hk
      refine ⟨W2, ?_, fun k hk' => hk k (by omega), h1⟩
      show bl_X1_become_110 W2 a b (nI no) = _
      unfold bl_X1_become_110
      rw [hk a (by omega), hc, if_pos (Int32.le_refl _)]) (W, 0) BG ⟨rfl, fun _ _ => rfl, fun j hj => absurd hj (Nat.not_lt_zero j)⟩ (BG_lt (by omega))
  exact ⟨W1, hW1, b1, b2⟩
theorem c_become {M : xM} {a b : Nat} (hd : a + 80 ≤ b ∨ b + 80 ≤ a) (hW : WF V ng nw ne no) (hB : RB M b V ng nw ne no) : ∃ M1, f_X1_become M a b = some M1 ∧ (∀ k, ¬ (a ≤ k ∧ k < a + 80) → M1 k = M k) ∧ M1 (a + 1) = M (a + 1) ∧ RB M1 a V ng nw ne no ∧ ∀ i, i < ne → M1 (a + 28 + i) 8 = M (b + 28 + i) 8 := by
  have hb := hW.bd
  obtain ⟨⟨p1, p3, p5, p7⟩, hg, hww, he, ho⟩ := RB_ex hB
  unfold f_X1_become b_X1_become_0 b_X1_become_48 b_X1_become_79 b_X1_become_110
  have nb : b ≠ a := by omega
  have nb2 : b ≠ a + 2 := by omega
  rw [lt_d, lt_d, lt_d, uM_row _ _ _ _ nb, lt_d, uM_row _ _ _ _ nb, uM_row _ _ _ _ nb, lt_d, uM_row _ _ _ _ nb, uM_row _ _ _ _ nb, uM_row _ _ _ _ nb, uC_row _ _ _ _ nb2, p1, p3, p5, p7]
  generalize hX : uM (uM (uM (uM (uC M (b + 2) (a + 2) 3) a 1 (nI ng)) a 3 (nI nw)) a 5 (nI ne)) a 7 (nI no) = X
  have fX : ∀ k, k ≠ a → k ≠ a + 2 → X k = M k := fun k h1 h2 => by rw [← hX, uM_row _ _ _ _ h1, uM_row _ _ _ _ h1, uM_row _ _ _ _ h1, uM_row _ _ _ _ h1, uC_row _ _ _ _ h2]
  have x1 : X a 1 = nI ng := by rw [← hX, uM_j _ _ _ _ (by decide), uM_j _ _ _ _ (by decide), uM_j _ _ _ _ (by decide), uM_s]
  have x3 : X a 3 = nI nw := by rw [← hX, uM_j _ _ _ _ (by decide), uM_j _ _ _ _ (by decide), uM_s]
  have x5 : X a 5 = nI ne := by rw [← hX, uM_j _ _ _ _ (by decide), uM_s]
  have x7 : X a 7 = nI no := by rw [← hX, uM_s]
  have xg : ∀ g, g < 3 → X (a + 2) g = M (b + 2) g := fun g hg => by rw [← hX, uM_row _ _ _ _ (by omega), uM_row _ _ _ _ (by omega), uM_row _ _ _ _ (by omega), uM_row _ _ _ _ (by omega), uC_at _ _ _ _ hg]
  clear hX
  obtain ⟨Y, y1, y2, y3⟩ := c_becW (W := X) (V := V) hd hb.2.1 x3 (fun w hw => (hww w hw).cg (fun j hj => fX _ (by omega) (by omega)) (fun j hj => rfl)) (fun w hw => (hW.w hw).2.2.2.2)
  rw [y1, bd_s]
  obtain ⟨Z, z1, z2, z3⟩ := c_becE (W := Y) (V := V) hd hb.2.2.1 (by rw [y2 a (by omega)]; exact x5) (fun i hi => (he i hi).cg (fun j hj => by rw [y2 _ (by omega), fX _ (by omega) (by omega)]) (fun j hj => rfl) (fun q hq => ⟨rfl, rfl⟩)) (fun i hi => (hW.e hi).2.2.2.2.1)
  rw [z1, bd_s]
  obtain ⟨T, t1, t2, t3⟩ := c_becO (W := Z) (V := V) hd hb.2.2.2 (by rw [z2 a (by omega), y2 a (by omega)]; exact x7) (fun i hi => (ho i hi).cg (by rw [z2 _ (by omega), y2 _ (by omega), fX _ (by omega) (by omega)]) (fun j hj => rfl))
  rw [t1, bd_s]
  have fA : T a = X a := by rw [t2 a (by omega), z2 a (by omega), y2 a (by omega)]
  refine ⟨T, rfl, fun k hk => by rw [t2 k (by omega), z2 k (by omega), y2 k (by omega), fX k (by omega) (by omega)], by rw [t2 _ (by omega), z2 _ (by omega), y2 _ (by omega), fX _ (by omega) (by omega)], RB_mk ⟨by rw [fA]; exact x1, by rw [fA]; exact x3, by rw [fA]; exact x5, by rw [fA]; exact x7⟩ (fun g hg' => by rw [t2 _ (by omega), z2 _ (by omega), y2 _ (by omega), xg g (by omega)]; exact hg g hg') (fun w hw => (y3 w hw).cg (fun j hj => by rw [t2 _ (by omega), z2 _ (by omega)]) (fun j hj => rfl)) (fun i hi => (z3 i hi).1.cg (fun j hj => by rw [t2 _ (by omega)]) (fun j hj => rfl) (fun q hq => ⟨rfl, rfl⟩)) t3, fun i hi => by rw [t2 _ (by omega), (z3 i hi).2, y2 _ (by omega), fX _ (by omega) (by omega)]⟩
end
theorem ite_iff {p q : Prop} [Decidable p] [Decidable q] (h : p ↔ q) {α : Type} {a a' : α} (ha : a = a') (b : α) : (if p then a else b) = if q then a' else b := by
  by_cases c : p
  · rw [if_pos c, if_pos (h.mp c), ha]
  · rw [if_neg c, if_neg (fun z => c (h.mpr z))]
theorem kAlw_eq {V W : Nat → Int32} {ne no i : Nat} (h : ∀ k, k < 495 → W k = V k) (hne : ne ≤ 40) (hno : no ≤ 12) (hi : i < ne) (sm : Int) : kAlw W sm ne no i = kAlw V sm ne no i := by
  have e : ∀ j q, j < 40 → q < 7 → W (155 + 7 * j + q) = V (155 + 7 * j + q) := fun j q hj hq => h _ (by omega)
  have e0 : ∀ j, j < 40 → W (155 + 7 * j) = V (155 + 7 * j) := fun j hj => h _ (by omega)
  have o : ∀ j q, j < 12 → q < 5 → W (435 + 5 * j + q) = V (435 + 5 * j + q) := fun j q hj hq => h _ (by omega)
  have o0 : ∀ j, j < 12 → W (435 + 5 * j) = V (435 + 5 * j) := fun j hj => h _ (by omega)
  have hg : ∀ j, j < 40 → (kGood W j ↔ kGood V j) := fun j hj => kGood_cg (fun k hk => ⟨e0 k (by omega), e k 5 (by omega) (by omega)⟩)
  have hbk : ∀ j, j < 40 → (kBack W sm j ↔ kBack V sm j) := fun j hj => by
    show (W (155 + 7 * j + 6) = 1 ∨ kGood W j ∨ (W (155 + 7 * j + 3)).toInt ≤ sm) ↔ _
    rw [e j 6 hj (by omega), e j 3 hj (by omega), hg j hj]
  have ht : ∀ j, j < 40 → (kTakes W sm j ↔ kTakes V sm j) := fun j hj => by
    show (W (155 + 7 * j) = 1 ∧ (W (155 + 7 * j + 4)).toInt < 2 ∧ W (155 + 7 * j + 6) = 0 ∧ kBack W sm j) ↔ _
    rw [e0 j hj, e j 4 hj (by omega), e j 6 hj (by omega), hbk j hj]
  have ha : kAsked W sm ne i = kAsked V sm ne i := zS_congr (fun k hk => by
    have hk' : k < 40 := by omega
    have hi' : i < 40 := by omega
    refine ite_iff ?_ (by rw [e k 3 hk' (by omega)]) _
    show (kTakes W sm k ∧ (W (155 + 7 * k + 1) = W (155 + 7 * i + 1) ∧ W (155 + 7 * k + 4) = W (155 + 7 * i + 4) ∧ (W (155 + 7 * k + 2)).toInt / 360 = (W (155 + 7 * i + 2)).toInt / 360) ∧ ((W (155 + 7 * k + 2)).toInt < (W (155 + 7 * i + 2)).toInt ∨ (W (155 + 7 * k + 2)).toInt = (W (155 + 7 * i + 2)).toInt ∧ k < i)) ↔ _
    rw [ht k hk', e k 1 hk' (by omega), e k 4 hk' (by omega), e k 2 hk' (by omega), e i 1 hi' (by omega), e i 4 hi' (by omega), e i 2 hi' (by omega)])
  have hl : ∀ w k y, kAlnc W no w k y = kAlnc V no w k y := fun w k y => zS_congr (fun j hj => by
    have hj' : j < 12 := by omega
    have hs : kShare W j y = kShare V j y := by
      unfold kShare
      rw [o j 2 hj' (by omega), o j 3 hj' (by omega), o j 4 hj' (by omega)]
    refine ite_iff ?_ hs _
    rw [o0 j hj', o j 1 hj' (by omega)])
  have hi' : i < 40 := by omega
  unfold kAlw
  rw [ha, hl]
  by_cases c : kBack V sm i
  · rw [if_neg (show ¬ ¬ kBack W sm i from fun z => z ((hbk i hi').mpr c)), if_neg (show ¬ ¬ kBack V sm i from fun z => z c)]
    by_cases c2 : kTakes V sm i
    · rw [if_neg (show ¬ ¬ kTakes W sm i from fun z => z ((ht i hi').mpr c2)), if_neg (show ¬ ¬ kTakes V sm i from fun z => z c2), e i 1 hi' (by omega), e i 4 hi' (by omega), e i 2 hi' (by omega), e i 3 hi' (by omega)]
    · rw [if_pos (show ¬ kTakes W sm i from fun z => c2 ((ht i hi').mp z)), if_pos c2, e i 3 hi' (by omega)]
  · rw [if_pos (show ¬ kBack W sm i from fun z => c ((hbk i hi').mp z)), if_pos c]
theorem c_image {M N : xM} (h : Rel M N) : ∃ r M1 N1, f_X10_image M = some (r, M1) ∧ f_X11_image N = some (r, N1) ∧ Rel M1 N1 := by
  have R := h.sn (SameN.th N 0)
  unfold f_X10_image b_X10_image_0 f_X11_image b_X11_image_0 b_X11_image_7
  rw [lt_d (uM N 0 0 0)]
  generalize uM N 0 0 0 = N0 at *
  obtain ⟨⟨n0, t0, t1, t2, t3⟩, hr, hq, ⟨c, c0, c1, c2, c3⟩, ⟨ng, nw, ne, no, b1, b2, b3⟩, i1, i2⟩ := R
  have hb := b1.bd
  obtain ⟨M1, g1, g2, g3, g4, g5⟩ := c_become (a := 97) (b := 17) (by omega) b1 b2
  obtain ⟨W, w1, w2, w3⟩ := m_imageL N0
  rw [g1, bd_s, lt_d, w1, bd_s, lt_d, gd2, cl2]
  generalize hM2 : uM M1 0 4 1 = M2
  generalize hN2 : uM W 0 15 1 = N2
  have fM : ∀ k, k ≠ 0 → M2 k = M1 k := fun k hk => by rw [← hM2]; exact uM_row _ _ _ _ hk
  have fN : ∀ k, k ≠ 0 → N2 k = W k := fun k hk => by rw [← hN2]; exact uM_row _ _ _ _ hk
  have f : ∀ k, k ≠ 0 → k < 97 → M2 k = M k := fun k h0 h1 => by rw [fM k h0]; exact g2 k (by omega)
  have g : ∀ k, k ≠ 0 → k ≠ 6 → N2 k = N0 k := fun k h0 h1 => by rw [fN k h0]; exact w2 k h1
  have n0j : ∀ j, j ≠ 15 → N2 0 j = N0 0 j := fun j hj => by rw [← hN2, uM_j _ _ _ _ hj, w2 0 (by decide)]
  have r1 : M2 97 5 = nI ne := by rw [fM 97 (by decide)]; exact (RB_ex g4).1.2.2.1
  have r2 : N2 4 2 = nI ne := by rw [g 4 (by decide) (by decide)]; exact b1.c.2.2.1
  rw [r1, r2]
  have hs : ∀ j, snap N2 c j = snap N0 c j := fun j => by unfold snap; rw [g 4 (by omega) (by omega), g 5 (by omega) (by omega)]
  refine ⟨_, _, _, rfl, rfl, ⟨n0, t0, by rw [f 1 (by omega) (by omega)]; exact t1, by rw [n0j 2 (by omega)]; exact t2, by rw [f 2 (by omega) (by omega), g 1 (by omega) (by omega)]; exact t3⟩, fun k hk => by rw [f 18 (by omega) (by omega), g 3 (by omega) (by omega)]; exact hr k hk, fun r hh => by rw [f 10 (by omega) (by omega), g 7 (by omega) (by omega)]; exact hq r hh,
    ⟨c, c0, by rw [f 6 (by omega) (by omega)]; exact c1, by rw [n0j 13 (by omega)]; exact c2, fun j hj => by rw [f 7 (by omega) (by omega), f 8 (by omega) (by omega), f 9 (by omega) (by omega), hs, hs]; exact c3 j hj⟩, ⟨ng, nw, ne, no, by rw [g 4 (by omega) (by omega)]; exact b1, by rw [g 4 (by omega) (by omega)]; exact b2.kp hb (fun k p1 p2 p3 p4 => f k (by omega) (by omega)), fun i hi hp => ?_⟩, ?_, Or.inr ⟨?_, ng, nw, ne, no, ?_, ?_, fun i hi hp => ?_⟩⟩
  · rw [g 4 (by omega) (by omega)] at hp ⊢
    rw [f _ (by omega) (by omega), g 3 (by omega) (by omega)]; exact b3 i hi hp
  · rw [← hM2, ← hN2, uM_s, uM_s]
  · rw [← hN2]; exact uM_s _ _ _ _
  · rw [fN 6 (by omega)]
    exact b1.cg w3
  · rw [fN 6 (by omega)]
    have h9 : RB M1 97 (W 6) ng nw ne no := RB.eqf (EqF_of hb (fun k hk => (w3 k hk).symm)) g4
    exact h9.kp hb (fun k p1 p2 p3 p4 => fM k (by omega))
  · have e1 : ∀ k, 155 ≤ k → k < 495 → N2 6 k = N0 4 k := fun k _ hk => by rw [fN 6 (by omega)]; exact w3 k hk
    rw [e1 (155 + 7 * i) (by omega) (by omega)] at hp
    rw [fM _ (by omega), g5 i hi, g 3 (by omega) (by omega), b3 i hi hp]
    exact (kAlw_eq (fun k hk => by rw [fN 6 (by omega)]; exact w3 k hk) hb.2.2.1 hb.2.2.2 hi _).symm
theorem c_back {M N : xM} (h : Rel M N) : ∃ r M1 N1, f_X10_back M = some (r, M1) ∧ f_X11_back N = some (r, N1) ∧ Rel M1 N1 := by
  have R := h.sn (SameN.th N 0)
  unfold f_X10_back b_X10_back_0 f_X11_back b_X11_back_0 b_X11_back_16
  rw [lt_d (uM N 0 0 0)]
  generalize uM N 0 0 0 = N0 at *
  have R' := R
  obtain ⟨⟨n0, t0, t1, t2, t3⟩, hr, hq, ⟨c, c0, c1, c2, c3⟩, -, i1, i2⟩ := R
  rw [i1]
  rcases i2 with i2 | ⟨i2, ng, nw, ne, no, b1, b2, b3⟩
  · rw [if_pos i2, if_pos i2]
    exact ⟨_, _, _, rfl, rfl, R'⟩
  rw [if_neg (by rw [i2]; decide), if_neg (by rw [i2]; decide)]
  have hb := b1.bd
  obtain ⟨M1, g1, g2, g3, g4, g5⟩ := c_become (a := 17) (b := 97) (by omega) b1 b2
  obtain ⟨W, w1, w2, w3⟩ := m_backL N0
  unfold f_X0_forgetAll b_X0_forgetAll_0
  rw [g1, bd_s, lt_d, bd_s, w1, bd_s, lt_d, gd2, cl2]
  generalize hM2 : uM M1 6 0 0 = M2
  generalize hN2 : uM W 0 13 0 = N2
  have fM : ∀ k, k ≠ 6 → M2 k = M1 k := fun k hk => by rw [← hM2]; exact uM_row _ _ _ _ hk
  have fN : ∀ k, k ≠ 0 → N2 k = W k := fun k hk => by rw [← hN2]; exact uM_row _ _ _ _ hk
  have f : ∀ k, k ≠ 6 → (k < 17 ∨ 97 ≤ k) → M2 k = M k := fun k h0 h1 => by rw [fM k h0]; exact g2 k (by omega)
  have f18 : M2 18 = M 18 := by rw [fM 18 (by omega)]; exact g3
  have g : ∀ k, k ≠ 0 → k ≠ 4 → N2 k = N0 k := fun k h0 h1 => by rw [fN k h0]; exact w2 k h1
  have n0j : ∀ j, j ≠ 13 → N2 0 j = N0 0 j := fun j hj => by rw [← hN2, uM_j _ _ _ _ hj, w2 0 (by decide)]
  have r1 : M2 17 5 = nI ne := by rw [fM 17 (by decide)]; exact (RB_ex g4).1.2.2.1
  have r2 : N2 4 2 = nI ne := by rw [fN 4 (by decide), w3 2 (by omega)]; exact b1.c.2.2.1
  rw [r1, r2]
  refine ⟨_, _, _, rfl, rfl, ⟨n0, t0, by rw [f 1 (by omega) (by omega)]; exact t1, by rw [n0j 2 (by omega)]; exact t2, by rw [f 2 (by omega) (by omega), g 1 (by omega) (by omega)]; exact t3⟩, fun k hk => by rw [f18, g 3 (by omega) (by omega)]; exact hr k hk, fun r hh => by rw [f 10 (by omega) (by omega), g 7 (by omega) (by omega)]; exact hq r hh,
    ⟨0, by omega, by rw [← hM2]; exact uM_s _ _ _ _, by rw [← hN2]; exact uM_s _ _ _ _, fun j hj => absurd hj (Nat.not_lt_zero j)⟩, ⟨ng, nw, ne, no, by rw [fN 4 (by omega)]; exact b1.cg w3, ?_, fun i hi hp => ?_⟩, by rw [f 0 (by omega) (by omega), n0j 15 (by omega)]; exact i1, Or.inr ⟨by rw [n0j 15 (by omega)]; exact i2, ng, nw, ne, no, by rw [g 6 (by omega) (by omega)]; exact b1, by rw [g 6 (by omega) (by omega)]; exact b2.kp hb (fun k p1 p2 p3 p4 => f k (by omega) (by omega)), fun i hi hp => ?_⟩⟩
  · rw [fN 4 (by omega)]
    have h9 : RB M1 17 (W 4) ng nw ne no := RB.eqf (EqF_of hb (fun k hk => (w3 k hk).symm)) g4
    exact h9.kp hb (fun k p1 p2 p3 p4 => fM k (by omega))
  · rw [fN 4 (by omega), w3 _ (by omega)] at hp
    rw [fM _ (by omega), g5 i hi, g 3 (by omega) (by omega), b3 i hi hp]
    exact (kAlw_eq (fun k hk => by rw [fN 4 (by omega)]; exact w3 k hk) hb.2.2.1 hb.2.2.2 hi _).symm
  · rw [g 6 (by omega) (by omega)] at hp ⊢
    rw [f _ (by omega) (by omega), g 3 (by omega) (by omega)]; exact b3 i hi hp
