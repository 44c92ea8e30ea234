/-! acts: Rel anew; refusals -/
abbrev WFw (V : Nat → Int32) (ng w : Nat) : Prop := (-9000 ≤ (V (7 + 37 * w)).toInt ∧ (V (7 + 37 * w)).toInt < 3600) ∧ (∃ g, g < ng ∧ V (7 + 37 * w + 1) = nI g) ∧
    (∃ ch, ch ≤ 6 ∧ V (7 + 37 * w + 2) = nI ch ∧ (∀ i, i < ch → dayP (V (7 + 37 * w + 3 + 2 * i)) ∧ ∃ g, g < ng ∧ V (7 + 37 * w + 3 + 2 * i + 1) = nI g) ∧ ∀ i, i + 1 < ch → (V (7 + 37 * w + 3 + 2 * i)).toInt ≤ (V (7 + 37 * w + 3 + 2 * (i + 1))).toInt) ∧
    (∃ cl, cl ≤ 10 ∧ V (7 + 37 * w + 15) = nI cl ∧ ∀ y, y < cl → (0 ≤ (V (7 + 37 * w + 16 + y)).toInt ∧ (V (7 + 37 * w + 16 + y)).toInt ≤ TB y / 5) ∧ 0 ≤ (V (7 + 37 * w + 26 + y)).toInt ∧ (V (7 + 37 * w + 26 + y)).toInt ≤ 399996) ∧ (V (7 + 37 * w + 36) = 0 ∨ V (7 + 37 * w + 36) = 1)
abbrev WFn (V : Nat → Int32) (nw i : Nat) : Prop := (∃ s, s < 4 ∧ V (155 + 7 * i) = nI s) ∧ (∃ w, w < nw ∧ V (155 + 7 * i + 1) = nI w) ∧ dayP (V (155 + 7 * i + 2)) ∧ amtP (V (155 + 7 * i + 3)) ∧ (V (155 + 7 * i + 6) = 0 ∨ V (155 + 7 * i + 6) = 1) ∧
    (V (155 + 7 * i) = 1 → (∃ k, k < 4 ∧ V (155 + 7 * i + 4) = nI k) ∧ ∃ c, c ≤ 999 ∧ V (155 + 7 * i + 5) = nI c) ∧ (¬ V (155 + 7 * i) = 1 → V (155 + 7 * i + 5) = -1)
abbrev WFr (V : Nat → Int32) (nw o : Nat) : Prop := (∃ w, w < nw ∧ V (435 + 5 * o) = nI w) ∧ (∃ k, k < 2 ∧ V (435 + 5 * o + 1) = nI k) ∧ dayP (V (435 + 5 * o + 2)) ∧ dayP (V (435 + 5 * o + 3)) ∧ (V (435 + 5 * o + 2)).toInt ≤ (V (435 + 5 * o + 3)).toInt ∧ amtP (V (435 + 5 * o + 4))
theorem WF_mk {V : Nat → Int32} {ng nw ne no : Nat} (h : ng ≤ 3 ∧ nw ≤ 4 ∧ ne ≤ 40 ∧ no ≤ 12) (c : V 0 = nI ng ∧ V 1 = nI nw ∧ V 2 = nI ne ∧ V 3 = nI no) (hg : ∀ g, g < ng → bndP (V (4 + g))) (hw : ∀ w, w < nw → WFw V ng w) (he : ∀ i, i < ne → WFn V nw i) (ho : ∀ o, o < no → WFr V nw o) : WF V ng nw ne no :=
  ⟨h.1, h.2.1, h.2.2.1, h.2.2.2, c.1, c.2.1, c.2.2.1, c.2.2.2, hg, hw, he, ho⟩
theorem WF_ex {V : Nat → Int32} {ng nw ne no : Nat} (h : WF V ng nw ne no) : (ng ≤ 3 ∧ nw ≤ 4 ∧ ne ≤ 40 ∧ no ≤ 12) ∧ (V 0 = nI ng ∧ V 1 = nI nw ∧ V 2 = nI ne ∧ V 3 = nI no) ∧ (∀ g, g < ng → bndP (V (4 + g))) ∧ (∀ w, w < nw → WFw V ng w) ∧ (∀ i, i < ne → WFn V nw i) ∧ ∀ o, o < no → WFr V nw o := by
  obtain ⟨g1, g2, g3, g4, v0, v1, v2, v3, hg, hw, he, ho⟩ := h
  exact ⟨⟨g1, g2, g3, g4⟩, ⟨v0, v1, v2, v3⟩, hg, hw, he, ho⟩
theorem WFw.cg {V W : Nat → Int32} {ng n2 w : Nat} (h : WFw V ng w) (hn : ng ≤ n2) (e : ∀ j, j < 37 → W (7 + 37 * w + j) = V (7 + 37 * w + j)) : WFw W n2 w := by
  have e' : ∀ k, 7 + 37 * w ≤ k → k < 7 + 37 * w + 37 → W k = V k := fun k h1 h2 => by
    have := e (k - (7 + 37 * w)) (by omega)
    rw [show 7 + 37 * w + (k - (7 + 37 * w)) = k by omega] at this
    exact this
  obtain ⟨a1, ⟨g, a2, a3⟩, ⟨ch, c1, c2, c3, c4⟩, ⟨cl, d1, d2, d3⟩, a5⟩ := h
  refine ⟨?_, ⟨g, by omega, ?_⟩, ⟨ch, c1, ?_, fun i hi => ?_, fun i hi => ?_⟩, ⟨cl, d1, ?_, fun y hy => ?_⟩, ?_⟩
  · rw [e' (7 + 37 * w) (by omega) (by omega)]; exact a1
  · rw [e' (7 + 37 * w + 1) (by omega) (by omega)]; exact a3
  · rw [e' (7 + 37 * w + 2) (by omega) (by omega)]; exact c2
  · obtain ⟨q1, g', q2, q3⟩ := c3 i hi
    rw [e' (7 + 37 * w + 3 + 2 * i) (by omega) (by omega), e' (7 + 37 * w + 3 + 2 * i + 1) (by omega) (by omega)]
    exact ⟨q1, g', by omega, q3⟩
  · rw [e' (7 + 37 * w + 3 + 2 * i) (by omega) (by omega), e' (7 + 37 * w + 3 + 2 * (i + 1)) (by omega) (by omega)]; exact c4 i hi
  · rw [e' (7 + 37 * w + 15) (by omega) (by omega)]; exact d2
  · rw [e' (7 + 37 * w + 16 + y) (by omega) (by omega), e' (7 + 37 * w + 26 + y) (by omega) (by omega)]; exact d3 y hy
  · rw [e' (7 + 37 * w + 36) (by omega) (by omega)]; exact a5
theorem WFn.cg {V W : Nat → Int32} {nw n2 i : Nat} (h : WFn V nw i) (hn : nw ≤ n2) (e : ∀ j, j < 7 → W (155 + 7 * i + j) = V (155 + 7 * i + j)) : WFn W n2 i := by
  have e0 : W (155 + 7 * i) = V (155 + 7 * i) := e 0 (by omega)
  obtain ⟨a1, ⟨w, a2, a3⟩, a4, a5, a6, a7, a8⟩ := h
  rw [← e0, ← e 4 (by omega), ← e 5 (by omega)] at a7
  rw [← e0, ← e 5 (by omega)] at a8
  rw [← e0] at a1
  rw [← e 1 (by omega)] at a3
  rw [← e 2 (by omega)] at a4
  rw [← e 3 (by omega)] at a5
  rw [← e 6 (by omega)] at a6
  exact ⟨a1, ⟨w, by omega, a3⟩, a4, a5, a6, a7, a8⟩
theorem WFr.cg {V W : Nat → Int32} {nw n2 o : Nat} (h : WFr V nw o) (hn : nw ≤ n2) (e : ∀ j, j < 5 → W (435 + 5 * o + j) = V (435 + 5 * o + j)) : WFr W n2 o := by
  have e0 : W (435 + 5 * o) = V (435 + 5 * o) := e 0 (by omega)
  obtain ⟨⟨w, a2, a3⟩, a4, a5, a6, a7, a8⟩ := h
  rw [← e0] at a3
  rw [← e 1 (by omega)] at a4
  rw [← e 2 (by omega)] at a5
  rw [← e 3 (by omega)] at a6
  rw [← e 2 (by omega), ← e 3 (by omega)] at a7
  rw [← e 4 (by omega)] at a8
  exact ⟨⟨w, by omega, a3⟩, a4, a5, a6, a7, a8⟩
theorem WF.cg {V W : Nat → Int32} {ng nw ne no : Nat} (h : WF V ng nw ne no) (e : ∀ k, k < 495 → W k = V k) : WF W ng nw ne no := by
  obtain ⟨b, ⟨v0, v1, v2, v3⟩, hg, hw, he, ho⟩ := WF_ex h
  refine WF_mk b ⟨by rw [e 0 (by omega)]; exact v0, by rw [e 1 (by omega)]; exact v1, by rw [e 2 (by omega)]; exact v2, by rw [e 3 (by omega)]; exact v3⟩ (fun g h => by rw [e (4 + g) (by omega)]; exact hg g h) (fun w h => (hw w h).cg (Nat.le_refl _) (fun j hj => e _ (by omega))) (fun i h => (he i h).cg (Nat.le_refl _) (fun j hj => e _ (by omega))) (fun o h => (ho o h).cg (Nat.le_refl _) (fun j hj => e _ (by omega)))
/-- EqV's body -/
def EqF (V W : Nat → Int32) (ng nw ne no : Nat) : Prop := W 0 = V 0 ∧ W 1 = V 1 ∧ W 2 = V 2 ∧ W 3 = V 3 ∧ (∀ g, g < ng → W (4 + g) = V (4 + g)) ∧
  (∀ w, w < nw → (∀ j, j < 3 → W (7 + 37 * w + j) = V (7 + 37 * w + j)) ∧ W (7 + 37 * w + 15) = V (7 + 37 * w + 15) ∧ W (7 + 37 * w + 36) = V (7 + 37 * w + 36) ∧
    (∀ i, nI i < V (7 + 37 * w + 2) → i < 6 → W (7 + 37 * w + 3 + 2 * i) = V (7 + 37 * w + 3 + 2 * i) ∧ W (7 + 37 * w + 3 + 2 * i + 1) = V (7 + 37 * w + 3 + 2 * i + 1)) ∧
    (∀ y, nI y < V (7 + 37 * w + 15) → y < 10 → W (7 + 37 * w + 16 + y) = V (7 + 37 * w + 16 + y) ∧ W (7 + 37 * w + 26 + y) = V (7 + 37 * w + 26 + y))) ∧
  (∀ i, i < ne → ∀ j, j < 7 → W (155 + 7 * i + j) = V (155 + 7 * i + j)) ∧ (∀ o, o < no → ∀ j, j < 5 → W (435 + 5 * o + j) = V (435 + 5 * o + j))
theorem EqV_mk {V W : Nat → Int32} {ng nw ne no : Nat} (h : WF V ng nw ne no) (e : EqF V W ng nw ne no) : EqV V W := ⟨ng, nw, ne, no, h, e⟩
theorem EqV_ex {V W : Nat → Int32} (h : EqV V W) : ∃ ng nw ne no, WF V ng nw ne no ∧ EqF V W ng nw ne no := by
  obtain ⟨ng, nw, ne, no, h, e⟩ := h
  exact ⟨ng, nw, ne, no, h, e⟩
theorem EqF_of {V W : Nat → Int32} {ng nw ne no : Nat} (b : ng ≤ 3 ∧ nw ≤ 4 ∧ ne ≤ 40 ∧ no ≤ 12) (e : ∀ k, k < 495 → W k = V k) : EqF V W ng nw ne no :=
  ⟨e 0 (by omega), e 1 (by omega), e 2 (by omega), e 3 (by omega), fun g h => e _ (by omega), fun w h => ⟨fun j hj => e _ (by omega), e _ (by omega), e _ (by omega), fun i _ hi => ⟨e _ (by omega), e _ (by omega)⟩, fun y _ hy => ⟨e _ (by omega), e _ (by omega)⟩⟩, fun i h j hj => e _ (by omega), fun o h j hj => e _ (by omega)⟩
/-- but for cells that are dead -/
theorem EqF_D {V W : Nat → Int32} {ng nw ne no : Nat} (D : Nat → Prop) (e : ∀ k, ¬ D k → W k = V k) (d0 : ∀ k, k < 4 → ¬ D k) (dg : ∀ g, g < ng → ¬ D (4 + g))
    (dw : ∀ w, w < nw → (∀ j, j < 3 → ¬ D (7 + 37 * w + j)) ∧ ¬ D (7 + 37 * w + 15) ∧ ¬ D (7 + 37 * w + 36) ∧ (∀ i, nI i < V (7 + 37 * w + 2) → i < 6 → ¬ D (7 + 37 * w + 3 + 2 * i) ∧ ¬ D (7 + 37 * w + 3 + 2 * i + 1)) ∧ ∀ y, nI y < V (7 + 37 * w + 15) → y < 10 → ¬ D (7 + 37 * w + 16 + y) ∧ ¬ D (7 + 37 * w + 26 + y))
    (de : ∀ i, i < ne → ∀ j, j < 7 → ¬ D (155 + 7 * i + j)) (dor : ∀ o, o < no → ∀ j, j < 5 → ¬ D (435 + 5 * o + j)) : EqF V W ng nw ne no :=
  ⟨e 0 (d0 0 (by omega)), e 1 (d0 1 (by omega)), e 2 (d0 2 (by omega)), e 3 (d0 3 (by omega)), fun g h => e _ (dg g h), fun w h => ⟨fun j hj => e _ ((dw w h).1 j hj), e _ (dw w h).2.1, e _ (dw w h).2.2.1, fun i h1 hi => ⟨e _ ((dw w h).2.2.2.1 i h1 hi).1, e _ ((dw w h).2.2.2.1 i h1 hi).2⟩, fun y h1 hy => ⟨e _ ((dw w h).2.2.2.2 y h1 hy).1, e _ ((dw w h).2.2.2.2 y h1 hy).2⟩⟩, fun i h j hj => e _ (de i h j hj), fun o h j hj => e _ (dor o h j hj)⟩
theorem EqF.cg {V V' W W' : Nat → Int32} {ng nw ne no : Nat} (b : ng ≤ 3 ∧ nw ≤ 4 ∧ ne ≤ 40 ∧ no ≤ 12) (h : EqF V W ng nw ne no) (e : ∀ k, k < 495 → V' k = V k) (f : ∀ k, k < 495 → W' k = W k) : EqF V' W' ng nw ne no := by
  obtain ⟨h0, h1, h2, h3, hg, hw, he, ho⟩ := h
  have key : ∀ k, k < 495 → W k = V k → W' k = V' k := fun k hk q => by rw [e k hk, f k hk]; exact q
  refine ⟨key 0 (by omega) h0, key 1 (by omega) h1, key 2 (by omega) h2, key 3 (by omega) h3, fun g h => key _ (by omega) (hg g h), fun w h => ?_, fun i h j hj => key _ (by omega) (he i h j hj), fun o h j hj => key _ (by omega) (ho o h j hj)⟩
  obtain ⟨a1, a2, a3, a4, a5⟩ := hw w h
  refine ⟨fun j hj => key _ (by omega) (a1 j hj), key _ (by omega) a2, key _ (by omega) a3, fun i h1 hi => ?_, fun y h1 hy => ?_⟩
  · rw [e (7 + 37 * w + 2) (by omega)] at h1
    exact ⟨key _ (by omega) (a4 i h1 hi).1, key _ (by omega) (a4 i h1 hi).2⟩
  · rw [e (7 + 37 * w + 15) (by omega)] at h1
    exact ⟨key _ (by omega) (a5 y h1 hy).1, key _ (by omega) (a5 y h1 hy).2⟩
theorem EqV.cg {V V' W W' : Nat → Int32} (h : EqV V W) (e : ∀ k, k < 495 → V' k = V k) (f : ∀ k, k < 495 → W' k = W k) : EqV V' W' := by
  obtain ⟨ng, nw, ne, no, h1, h2⟩ := EqV_ex h
  exact EqV_mk (h1.cg e) (h2.cg h1.bd e f)
theorem up1_cg {V W : Nat → Int32} (e : ∀ k, k < 495 → W k = V k) (i : Nat) (f : Int32 → Int32) : ∀ k, k < 495 → up1 W i (f (W i)) k = up1 V i (f (V i)) k := fun k hk => by
  unfold up1
  by_cases c : k = i
  · subst c; rw [if_pos rfl, if_pos rfl, e k hk]
  · rw [if_neg c, if_neg c, e k hk]
theorem undoV_cg {V W : Nat → Int32} (e : ∀ k, k < 495 → W k = V k) (a n x : Int32) : ∀ k, k < 495 → undoV a n x W k = undoV a n x V k := fun k hk => by
  unfold undoV
  split
  · exact up1_cg e 0 (fun z => z - 1) k hk
  split
  · exact up1_cg e (4 + n.toNatClampNeg) (fun _ => x) k hk
  split
  · exact up1_cg e 1 (fun z => z - 1) k hk
  split
  · exact up1_cg e (7 + 37 * n.toNatClampNeg + 2) (fun z => z - 1) k hk
  split
  · exact up1_cg e 2 (fun z => z - 1) k hk
  split
  · exact up1_cg e 3 (fun z => z - 1) k hk
  split
  · exact up1_cg e (155 + 7 * n.toNatClampNeg + 6) (fun _ => 0) k hk
  split
  · exact up1_cg e (7 + 37 * n.toNatClampNeg + 15) (fun z => z - 1) k hk
  · exact up1_cg e (7 + 37 * n.toNatClampNeg + 36) (fun _ => 0) k hk
theorem RActs.step {M N M1 N1 N2 : xM} {c : Nat} {a n x : Int32} (hc : c ≤ 10) (hA : ∀ j, j < c → EqV (snap N c j) (undoV (M 7 j) (M 8 j) (M 9 j) (snap N c (j + 1))) ∧ okA (M 7 j) (M 8 j)) (ha : okA a n)
    (m1 : M1 6 0 = nI (c + 1 - eA c)) (m2 : M1 7 (c - eA c) = a ∧ M1 8 (c - eA c) = n ∧ M1 9 (c - eA c) = x) (m3 : ∀ j, j < c - eA c → M1 7 j = M 7 (j + eA c) ∧ M1 8 j = M 8 (j + eA c) ∧ M1 9 j = M 9 (j + eA c))
    (n1 : N1 0 13 = nI (c + 1 - eA c)) (n2 : ∀ j, j < c + 1 - eA c → ∀ k, k < 495 → N1 5 (495 * j + k) = snap N c (j + eA c) k) (k0 : N2 0 13 = N1 0 13) (k5 : N2 5 = N1 5) (hE : EqV (N 4) (undoV a n x (N2 4))) : RActs M1 N2 := by
  have he : eA c ≤ 1 ∧ (c = 10 → eA c = 1) := by unfold eA; split <;> omega
  have s1 : ∀ j, j < c + 1 - eA c → ∀ k, k < 495 → snap N2 (c + 1 - eA c) j k = snap N c (j + eA c) k := fun j hj k hk => by
    rw [← n2 j hj k hk, ← k5]
    show (if j = c + 1 - eA c then N2 4 k else N2 5 (495 * j + k)) = _
    rw [if_neg (by omega)]
  have s2 : ∀ j, j = c + 1 - eA c → snap N2 (c + 1 - eA c) j = N2 4 := fun j hj => by
    funext k
    show (if j = c + 1 - eA c then N2 4 k else N2 5 (495 * j + k)) = _
    rw [if_pos hj]
  refine ⟨c + 1 - eA c, by omega, m1, k0.trans n1, fun j hj => ?_⟩
  by_cases e : j = c - eA c
  · subst e
    rw [m2.1, m2.2.1, m2.2.2]
    refine ⟨EqV.cg hE (fun k hk => ?_) (fun k hk => by rw [s2 _ (by omega)]), ha⟩
    rw [s1 _ hj k hk]
    show (if c - eA c + eA c = c then N 4 k else N 5 (495 * (c - eA c + eA c) + k)) = N 4 k
    rw [if_pos (by omega)]
  · obtain ⟨p7, p8, p9⟩ := m3 j (by omega)
    obtain ⟨g1, g2⟩ := hA (j + eA c) (by omega)
    rw [p7, p8, p9]
    refine ⟨EqV.cg g1 (fun k hk => s1 j hj k hk) (undoV_cg (fun k hk => ?_) _ _ _), g2⟩
    rw [s1 (j + 1) (by omega) k hk, show j + 1 + eA c = j + eA c + 1 by omega]
/-- outside the book and what is scratch -/
def KpB (M M1 : xM) : Prop := ∀ k, ¬ (3 ≤ k ∧ k ≤ 5) → ¬ (11 ≤ k ∧ k ≤ 16) → ¬ (17 ≤ k ∧ k < 97 ∧ k ≠ 18) → M1 k = M k
theorem KpB.rf (M : xM) : KpB M M := fun _ _ _ _ => rfl
theorem KpB.tr {M M1 M2 : xM} (h : KpB M M1) (g : KpB M1 M2) : KpB M M2 := fun k a b c => (g k a b c).trans (h k a b c)
theorem KpB.u {M M1 : xM} (h : KpB M M1) (r j : Nat) (v : Int32) (hr : 17 ≤ r ∧ r < 97 ∧ r ≠ 18) : KpB M (uM M1 r j v) := fun k a b c => by
  rw [uM_row _ _ _ _ (show k ≠ r from fun e => c (by rw [e]; exact hr))]; exact h k a b c
theorem KpB.sm {M M1 : xM} (h : SameM M M1) : KpB M M1 := fun k a b c => by
  by_cases e : k = 23
  · subst e; exact absurd ⟨by omega, by omega, by omega⟩ c
  by_cases e2 : k = 24
  · subst e2; exact absurd ⟨by omega, by omega, by omega⟩ c
  exact h k a b e e2
theorem Rel.act {M N Mb : xM} (h : Rel M N) (kb : KpB M Mb) {a n : Int32} (x : Int32) (ha : okA a n) : ∃ M1 N1, f_X0_note Mb a n x = some M1 ∧ f_X11_keeps N = some N1 ∧ (∀ k, k ≠ 6 → k ≠ 7 → k ≠ 8 → k ≠ 9 → M1 k = Mb k) ∧ (∀ k, k ≠ 5 → k ≠ 0 → N1 k = N k) ∧
    ∀ N2 : xM, (∀ k, k ≠ 4 → N2 k = N1 k) → EqV (N 4) (undoV a n x (N2 4)) → (∃ ng nw ne no, WF (N2 4) ng nw ne no ∧ RB Mb 17 (N2 4) ng nw ne no ∧ RAlw Mb 17 N (N2 4) ne no) → Rel M1 N2 := by
  obtain ⟨⟨n0, t0, t1, t2, t3⟩, hr, hq, ⟨c, c0, c1, c2, c3⟩, -, i1, i2⟩ := h
  have e : ∀ k, (k < 3 ∨ (6 ≤ k ∧ k ≤ 10) ∨ 97 ≤ k ∨ k = 18) → Mb k = M k := fun k hk => kb k (by omega) (by omega) (by omega)
  obtain ⟨M1, g1, g2, g3, g4, g5⟩ := c_note Mb c0 (by rw [e 6 (by omega)]; exact c1) a n x
  obtain ⟨N1, q1, q2, q3, q4, q5⟩ := m_keeps N c0 c2
  refine ⟨M1, N1, g1, q1, g2, q2, fun N2 k4 hE hB => ?_⟩
  obtain ⟨ng, nw, ne, no, b1, b2, b3⟩ := hB
  have f : ∀ k, (k < 3 ∨ k = 10 ∨ 97 ≤ k ∨ k = 18) → M1 k = M k := fun k hk => (g2 k (by omega) (by omega) (by omega) (by omega)).trans (e k (by omega))
  have fN : ∀ k, k ≠ 0 → k ≠ 4 → k ≠ 5 → N2 k = N k := fun k a0 a4 a5 => (k4 k a4).trans (q2 k a5 a0)
  have z0 : ∀ j, j ≠ 13 → N2 0 j = N 0 j := fun j hj => by rw [k4 0 (by omega)]; exact q3 j hj
  refine ⟨⟨n0, t0, by rw [f 1 (by omega)]; exact t1, by rw [z0 2 (by omega)]; exact t2, by rw [f 2 (by omega), fN 1 (by omega) (by omega) (by omega)]; exact t3⟩, fun k hk => by rw [f 18 (by omega), fN 3 (by omega) (by omega) (by omega)]; exact hr k hk, fun r hh => by rw [f 10 (by omega), fN 7 (by omega) (by omega) (by omega)]; exact hq r hh,
    RActs.step (M := M) (N := N) c0 c3 ha g3 g4 (fun j hj => by rw [← e 7 (by omega), ← e 8 (by omega), ← e 9 (by omega)]; exact g5 j hj) q4 q5 (by rw [k4 0 (by omega)]) (k4 5 (by omega)) hE,
    ⟨ng, nw, ne, no, b1, b2.kp b1.bd (fun k p1 p2 p3 p4 => g2 k (by omega) (by omega) (by omega) (by omega)), fun i hi hp => ?_⟩, by rw [f 0 (by omega), z0 15 (by omega)]; exact i1, ?_⟩
  · have := b1.bd
    rw [g2 _ (by omega) (by omega) (by omega) (by omega), fN 3 (by omega) (by omega) (by omega)]; exact b3 i hi hp
  · rw [z0 15 (by omega), fN 6 (by omega) (by omega) (by omega)]
    rcases i2 with i2 | ⟨i2, ng', nw', ne', no', d1, d2, d3⟩
    · exact Or.inl i2
    · exact Or.inr ⟨i2, ng', nw', ne', no', d1, d2.kp d1.bd (fun k p1 p2 p3 p4 => f k (by omega)), fun i hi hp => by rw [f _ (by omega), fN 3 (by omega) (by omega) (by omega)]; exact d3 i hi hp⟩
theorem Rel.ref {M N : xM} (h : Rel M N) (x : Int32) (h0 : 0 ≤ x.toInt) (h1 : x.toInt < 5) : ∃ M1 N1, f_X10_refuse M x = some (-1, M1) ∧ f_X11_refuses N x = some (-1, N1) ∧ Rel M1 N1 := by
  unfold f_X10_refuse b_X10_refuse_0 f_X11_refuses b_X11_refuses_0
  rw [gd_d h0 (by omega), gd_d h0 (by omega), lt_d, gd_d h0 (by omega), gd_d h0 (by omega), lt_d]
  refine ⟨_, _, rfl, rfl, ?_⟩
  have hx : x.toNatClampNeg < 5 := by show x.toInt.toNat < 5; omega
  generalize x.toNatClampNeg = q at *
  obtain ⟨⟨n0, t0, t1, t2, t3⟩, hr, hq, ⟨c, c0, c1, c2, c3⟩, ⟨ng, nw, ne, no, b1, b2, b3⟩, i1, i2⟩ := h
  generalize hM : uM M 10 q (M 10 q + 1) = M1
  generalize hN : uM N 7 q (N 7 q + 1) = N1
  have f : ∀ k, k ≠ 10 → M1 k = M k := fun k hk => by rw [← hM]; exact uM_row _ _ _ _ hk
  have g : ∀ k, k ≠ 7 → N1 k = N k := fun k hk => by rw [← hN]; exact uM_row _ _ _ _ hk
  have hs : ∀ j, snap N1 c j = snap N c j := fun j => by unfold snap; rw [g 4 (by omega), g 5 (by omega)]
  refine ⟨⟨n0, t0, by rw [f 1 (by omega)]; exact t1, by rw [g 0 (by omega)]; exact t2, by rw [f 2 (by omega), g 1 (by omega)]; exact t3⟩, fun k hk => by rw [f 18 (by omega), g 3 (by omega)]; exact hr k hk, fun r hh => ?_,
    ⟨c, c0, by rw [f 6 (by omega)]; exact c1, by rw [g 0 (by omega)]; exact c2, fun j hj => by rw [f 7 (by omega), f 8 (by omega), f 9 (by omega), hs, hs]; exact c3 j hj⟩, ⟨ng, nw, ne, no, by rw [g 4 (by omega)]; exact b1, by rw [g 4 (by omega)]; exact b2.kp b1.bd (fun k q1 q2 q3 q4 => f k (by omega)), fun i hi hp => ?_⟩, by rw [f 0 (by omega), g 0 (by omega)]; exact i1, ?_⟩
  · rw [← hM, ← hN]
    by_cases e : r = q
    · subst e; rw [uM_s, uM_s, hq r hh]
    · rw [uM_j _ _ _ _ e, uM_j _ _ _ _ e]; exact hq r hh
  · rw [g 4 (by omega)] at hp ⊢
    rw [f _ (by omega), g 3 (by omega)]; exact b3 i hi hp
  · rw [g 0 (by omega), g 6 (by omega)]
    rcases i2 with i2 | ⟨i2, ng', nw', ne', no', d1, d2, d3⟩
    · exact Or.inl i2
    · exact Or.inr ⟨i2, ng', nw', ne', no', d1, d2.kp d1.bd (fun k q1 q2 q3 q4 => f k (by omega)), fun i hi hp => by rw [f _ (by omega), g 3 (by omega)]; exact d3 i hi hp⟩
theorem Rel.refD {M N : xM} (h : Rel M N) (x : Int32) (h0 : 0 ≤ x.toInt) (h1 : x.toInt < 5) : ∃ r M1 N1, bd2 (f_X10_refuse M x) (fun r M => some (r, M)) = some (r, M1) ∧ bd2 (f_X11_refuses N x) (fun r M => some (r, M)) = some (r, N1) ∧ Rel M1 N1 := by
  obtain ⟨M1, N1, e1, e2, R⟩ := h.ref x h0 h1
  rw [e1, e2]
  exact ⟨_, _, _, rfl, rfl, R⟩
-- the book's parts
abbrev RBw (M : xM) (b : Nat) (V : Nat → Int32) (w : Nat) : Prop := M (b + 8 + 5 * w) 0 = V (7 + 37 * w) ∧ M (b + 8 + 5 * w) 1 = V (7 + 37 * w + 1) ∧ M (b + 8 + 5 * w) 2 = V (7 + 37 * w + 2) ∧ M (b + 8 + 5 * w) 5 = V (7 + 37 * w + 15) ∧ M (b + 8 + 5 * w) 6 = V (7 + 37 * w + 36) ∧
    (∀ i, nI i < V (7 + 37 * w + 2) → i < 6 → M (b + 9 + 5 * w) i = V (7 + 37 * w + 3 + 2 * i) ∧ M (b + 10 + 5 * w) i = V (7 + 37 * w + 3 + 2 * i + 1)) ∧
    (∀ y, nI y < V (7 + 37 * w + 15) → y < 10 → M (b + 11 + 5 * w) y = V (7 + 37 * w + 16 + y) ∧ M (b + 12 + 5 * w) y = V (7 + 37 * w + 26 + y))
abbrev RBn (M : xM) (b : Nat) (V : Nat → Int32) (i : Nat) : Prop := (∀ j, j < 6 → M (b + 28 + i) j = V (155 + 7 * i + j)) ∧ (M (b + 28 + i) 7 = V (155 + 7 * i + 6)) ∧ ((M (b + 28 + i) 6 = 1 ∧ kGood V i) ∨ (M (b + 28 + i) 6 = 0 ∧ ¬ kGood V i))
abbrev RBr (M : xM) (b : Nat) (V : Nat → Int32) (o : Nat) : Prop := ∀ j, j < 5 → M (b + 68 + o) j = V (435 + 5 * o + j)
theorem RB_mk {M : xM} {b : Nat} {V : Nat → Int32} {ng nw ne no : Nat} (c : M b 1 = nI ng ∧ M b 3 = nI nw ∧ M b 5 = nI ne ∧ M b 7 = nI no) (hg : ∀ g, g < ng → M (b + 2) g = V (4 + g)) (hw : ∀ w, w < nw → RBw M b V w) (he : ∀ i, i < ne → RBn M b V i) (ho : ∀ o, o < no → RBr M b V o) : RB M b V ng nw ne no := ⟨c.1, c.2.1, c.2.2.1, c.2.2.2, hg, hw, he, ho⟩
theorem RB_ex {M : xM} {b : Nat} {V : Nat → Int32} {ng nw ne no : Nat} (h : RB M b V ng nw ne no) : (M b 1 = nI ng ∧ M b 3 = nI nw ∧ M b 5 = nI ne ∧ M b 7 = nI no) ∧ (∀ g, g < ng → M (b + 2) g = V (4 + g)) ∧ (∀ w, w < nw → RBw M b V w) ∧ (∀ i, i < ne → RBn M b V i) ∧ ∀ o, o < no → RBr M b V o := by
  obtain ⟨c1, c2, c3, c4, hg, hw, he, ho⟩ := h
  exact ⟨⟨c1, c2, c3, c4⟩, hg, hw, he, ho⟩
theorem kGood_cg {V W : Nat → Int32} {i : Nat} (h : ∀ k, k ≤ i → W (155 + 7 * k) = V (155 + 7 * k) ∧ W (155 + 7 * k + 5) = V (155 + 7 * k + 5)) : kGood W i ↔ kGood V i := by
  have h0 := h i (Nat.le_refl i)
  constructor
  · rintro ⟨a, b, c⟩
    rw [h0.1] at a; rw [h0.2] at b
    exact ⟨a, b, fun k hk z => c k hk (by rw [(h k (by omega)).1, (h k (by omega)).2, h0.2]; exact z)⟩
  · rintro ⟨a, b, c⟩
    refine ⟨by rw [h0.1]; exact a, by rw [h0.2]; exact b, fun k hk z => c k hk ?_⟩
    rw [(h k (by omega)).1, (h k (by omega)).2, h0.2] at z; exact z
theorem RBw.cg {M M1 : xM} {b w : Nat} {V W : Nat → Int32} (h : RBw M b V w) (k : ∀ j, j < 5 → M1 (b + 8 + 5 * w + j) = M (b + 8 + 5 * w + j)) (e : ∀ j, j < 37 → W (7 + 37 * w + j) = V (7 + 37 * w + j)) : RBw M1 b W w := by
  have e' : ∀ k, 7 + 37 * w ≤ k → k < 7 + 37 * w + 37 → W k = V k := fun k h1 h2 => by
    have := e (k - (7 + 37 * w)) (by omega)
    rw [show 7 + 37 * w + (k - (7 + 37 * w)) = k by omega] at this
    exact this
  have k' : ∀ q, b + 8 + 5 * w ≤ q → q < b + 8 + 5 * w + 5 → M1 q = M q := fun q h1 h2 => by
    have := k (q - (b + 8 + 5 * w)) (by omega)
    rw [show b + 8 + 5 * w + (q - (b + 8 + 5 * w)) = q by omega] at this
    exact this
  obtain ⟨a1, a2, a3, a4, a5, a6, a7⟩ := h
  have q0 := k' (b + 8 + 5 * w) (by omega) (by omega)
  rw [← q0] at a1 a2 a3 a4 a5
  rw [← e' (7 + 37 * w) (by omega) (by omega)] at a1
  rw [← e' (7 + 37 * w + 1) (by omega) (by omega)] at a2
  rw [← e' (7 + 37 * w + 2) (by omega) (by omega)] at a3
  rw [← e' (7 + 37 * w + 15) (by omega) (by omega)] at a4
  rw [← e' (7 + 37 * w + 36) (by omega) (by omega)] at a5
  refine ⟨a1, a2, a3, a4, a5, fun i h1 hi => ?_, fun y h1 hy => ?_⟩
  · rw [e' (7 + 37 * w + 2) (by omega) (by omega)] at h1
    rw [k' (b + 9 + 5 * w) (by omega) (by omega), k' (b + 10 + 5 * w) (by omega) (by omega), e' (7 + 37 * w + 3 + 2 * i) (by omega) (by omega), e' (7 + 37 * w + 3 + 2 * i + 1) (by omega) (by omega)]
    exact a6 i h1 hi
  · rw [e' (7 + 37 * w + 15) (by omega) (by omega)] at h1
    rw [k' (b + 11 + 5 * w) (by omega) (by omega), k' (b + 12 + 5 * w) (by omega) (by omega), e' (7 + 37 * w + 16 + y) (by omega) (by omega), e' (7 + 37 * w + 26 + y) (by omega) (by omega)]
    exact a7 y h1 hy
theorem RBn.cg {M M1 : xM} {b i : Nat} {V W : Nat → Int32} (h : RBn M b V i) (k : ∀ j, j < 8 → M1 (b + 28 + i) j = M (b + 28 + i) j) (e : ∀ j, j < 7 → W (155 + 7 * i + j) = V (155 + 7 * i + j)) (g : ∀ q, q < i → W (155 + 7 * q) = V (155 + 7 * q) ∧ W (155 + 7 * q + 5) = V (155 + 7 * q + 5)) : RBn M1 b W i := by
  have hg : kGood W i ↔ kGood V i := kGood_cg (fun q hq => by
    by_cases c : q = i
    · subst c; exact ⟨e 0 (by omega), e 5 (by omega)⟩
    · exact g q (by omega))
  obtain ⟨a1, a2, a3⟩ := h
  refine ⟨fun j hj => by rw [k j (by omega), e j (by omega)]; exact a1 j hj, by rw [k 7 (by omega), e 6 (by omega)]; exact a2, ?_⟩
  rw [k 6 (by omega), hg]; exact a3
theorem RBr.cg {M M1 : xM} {b o : Nat} {V W : Nat → Int32} (h : RBr M b V o) (k : M1 (b + 68 + o) = M (b + 68 + o)) (e : ∀ j, j < 5 → W (435 + 5 * o + j) = V (435 + 5 * o + j)) : RBr M1 b W o := fun j hj => by rw [k, e j hj]; exact h j hj
theorem RB.eqf {M : xM} {b : Nat} {V W : Nat → Int32} {ng nw ne no : Nat} (E : EqF V W ng nw ne no) (h : RB M b W ng nw ne no) : RB M b V ng nw ne no := by
  obtain ⟨c, hg, hw, he, ho⟩ := RB_ex h
  obtain ⟨-, -, -, -, eg, ew, en, er⟩ := E
  refine RB_mk c (fun g h => (hg g h).trans (eg g h)) (fun w h => ?_) (fun i h => (he i h).cg (fun _ _ => rfl) (fun j hj => (en i h j hj).symm) (fun q hq => ⟨(en q (by omega) 0 (by omega)).symm, (en q (by omega) 5 (by omega)).symm⟩)) (fun o h => (ho o h).cg rfl (fun j hj => (er o h j hj).symm))
  obtain ⟨e1, e2, e3, e4, e5⟩ := ew w h
  obtain ⟨a1, a2, a3, a4, a5, a6, a7⟩ := hw w h
  refine ⟨a1.trans (e1 0 (by omega)), a2.trans (e1 1 (by omega)), a3.trans (e1 2 (by omega)), a4.trans e2, a5.trans e3, fun i h1 hi => ?_, fun y h1 hy => ?_⟩
  · obtain ⟨p1, p2⟩ := a6 i (by rw [e1 2 (by omega)]; exact h1) hi
    exact ⟨p1.trans (e4 i h1 hi).1, p2.trans (e4 i h1 hi).2⟩
  · obtain ⟨p1, p2⟩ := a7 y (by rw [e2]; exact h1) hy
    exact ⟨p1.trans (e5 y h1 hy).1, p2.trans (e5 y h1 hy).2⟩
theorem kAlw_hi {V W : Nat → Int32} (h : ∀ k, 155 ≤ k → W k = V k) (sm : Int) (ne no i : Nat) : kAlw W sm ne no i = kAlw V sm ne no i := by
  have e : W = fun k => if k < 155 then W k else V k := by
    funext k
    by_cases c : k < 155
    · rw [if_pos c]
    · rw [if_neg c]; exact h k (by omega)
  have e0 : ∀ i, W (155 + 7 * i) = V (155 + 7 * i) := fun i => h _ (by omega)
  have e1 : ∀ i, W (155 + 7 * i + 1) = V (155 + 7 * i + 1) := fun i => h _ (by omega)
  have e2 : ∀ i, W (155 + 7 * i + 2) = V (155 + 7 * i + 2) := fun i => h _ (by omega)
  have e3 : ∀ i, W (155 + 7 * i + 3) = V (155 + 7 * i + 3) := fun i => h _ (by omega)
  have e4 : ∀ i, W (155 + 7 * i + 4) = V (155 + 7 * i + 4) := fun i => h _ (by omega)
  have e5 : ∀ i, W (155 + 7 * i + 5) = V (155 + 7 * i + 5) := fun i => h _ (by omega)
  have e6 : ∀ i, W (155 + 7 * i + 6) = V (155 + 7 * i + 6) := fun i => h _ (by omega)
  have o0 : ∀ i, W (435 + 5 * i) = V (435 + 5 * i) := fun i => h _ (by omega)
  have o1 : ∀ i, W (435 + 5 * i + 1) = V (435 + 5 * i + 1) := fun i => h _ (by omega)
  have o2 : ∀ i, W (435 + 5 * i + 2) = V (435 + 5 * i + 2) := fun i => h _ (by omega)
  have o3 : ∀ i, W (435 + 5 * i + 3) = V (435 + 5 * i + 3) := fun i => h _ (by omega)
  have o4 : ∀ i, W (435 + 5 * i + 4) = V (435 + 5 * i + 4) := fun i => h _ (by omega)
  simp only [kAlw, kBack, kGood, kTakes, kAlnc, kShare, kAsked, kAlike, kAhead, e0, e1, e2, e3, e4, e5, e6, o0, o1, o2, o3, o4]
