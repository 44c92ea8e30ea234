/-! Rel M N: the class's memory M and the reference's N are of one state. V: a row of 495 numbers as the reference has it. -/
-- what a row means
abbrev kGood (V : Nat → Int32) (i : Nat) : Prop := V (155 + 7 * i) = 1 ∧ ¬ V (155 + 7 * i + 5) = 0 ∧ ∀ k, k < i → ¬ (V (155 + 7 * k) = 1 ∧ V (155 + 7 * k + 5) = V (155 + 7 * i + 5))
/-- no money is more than this as the years go on -/
def TB : Nat → Int
  | 0 => 3999960
  | n + 1 => TB n + TB n / 5
/-- the rows' numbers are such as come -/
def WF (V : Nat → Int32) (ng nw ne no : Nat) : Prop :=
  ng ≤ 3 ∧ nw ≤ 4 ∧ ne ≤ 40 ∧ no ≤ 12 ∧ V 0 = nI ng ∧ V 1 = nI nw ∧ V 2 = nI ne ∧ V 3 = nI no ∧
  (∀ g, g < ng → bndP (V (4 + g))) ∧
  (∀ w, w < nw → (-9000 ≤ (V (7 + 37 * w)).toInt ∧ (V (7 + 37 * w)).toInt < 3600) ∧ (∃ g, g < ng ∧ V (7 + 37 * w + 1) = nI g) ∧
    (∃ ch, ch ≤ 6 ∧ V (7 + 37 * w + 2) = nI ch ∧ (∀ i, i < ch → dayP (V (7 + 37 * w + 3 + 2 * i)) ∧ ∃ g, g < ng ∧ V (7 + 37 * w + 3 + 2 * i + 1) = nI g) ∧ ∀ i, i + 1 < ch → (V (7 + 37 * w + 3 + 2 * i)).toInt ≤ (V (7 + 37 * w + 3 + 2 * (i + 1))).toInt) ∧
    (∃ cl, cl ≤ 10 ∧ V (7 + 37 * w + 15) = nI cl ∧ ∀ y, y < cl → (0 ≤ (V (7 + 37 * w + 16 + y)).toInt ∧ (V (7 + 37 * w + 16 + y)).toInt ≤ TB y / 5) ∧ 0 ≤ (V (7 + 37 * w + 26 + y)).toInt ∧ (V (7 + 37 * w + 26 + y)).toInt ≤ 399996) ∧ (V (7 + 37 * w + 36) = 0 ∨ V (7 + 37 * w + 36) = 1)) ∧
  (∀ i, i < ne → (∃ s, s < 4 ∧ V (155 + 7 * i) = nI s) ∧ (∃ w, w < nw ∧ V (155 + 7 * i + 1) = nI w) ∧ dayP (V (155 + 7 * i + 2)) ∧ amtP (V (155 + 7 * i + 3)) ∧ (V (155 + 7 * i + 6) = 0 ∨ V (155 + 7 * i + 6) = 1) ∧
    (V (155 + 7 * i) = 1 → (∃ k, k < 4 ∧ V (155 + 7 * i + 4) = nI k) ∧ ∃ c, c ≤ 999 ∧ V (155 + 7 * i + 5) = nI c) ∧ (¬ V (155 + 7 * i) = 1 → V (155 + 7 * i + 5) = -1)) ∧
  (∀ o, o < no → (∃ w, w < nw ∧ V (435 + 5 * o) = nI w) ∧ (∃ k, k < 2 ∧ V (435 + 5 * o + 1) = nI k) ∧ dayP (V (435 + 5 * o + 2)) ∧ dayP (V (435 + 5 * o + 3)) ∧ (V (435 + 5 * o + 2)).toInt ≤ (V (435 + 5 * o + 3)).toInt ∧ amtP (V (435 + 5 * o + 4)))
/-- a book of the class holds a row's numbers -/
def RB (M : xM) (b : Nat) (V : Nat → Int32) (ng nw ne no : Nat) : Prop :=
  M b 1 = nI ng ∧ M b 3 = nI nw ∧ M b 5 = nI ne ∧ M b 7 = nI no ∧
  (∀ g, g < ng → M (b + 2) g = V (4 + g)) ∧
  (∀ w, w < nw → M (b + 8 + 5 * w) 0 = V (7 + 37 * w) ∧ M (b + 8 + 5 * w) 1 = V (7 + 37 * w + 1) ∧ M (b + 8 + 5 * w) 2 = V (7 + 37 * w + 2) ∧ M (b + 8 + 5 * w) 5 = V (7 + 37 * w + 15) ∧ M (b + 8 + 5 * w) 6 = V (7 + 37 * w + 36) ∧
    (∀ i, nI i < V (7 + 37 * w + 2) → i < 6 → M (b + 9 + 5 * w) i = V (7 + 37 * w + 3 + 2 * i) ∧ M (b + 10 + 5 * w) i = V (7 + 37 * w + 3 + 2 * i + 1)) ∧
    (∀ y, nI y < V (7 + 37 * w + 15) → y < 10 → M (b + 11 + 5 * w) y = V (7 + 37 * w + 16 + y) ∧ M (b + 12 + 5 * w) y = V (7 + 37 * w + 26 + y))) ∧
  (∀ i, i < ne → (∀ j, j < 6 → M (b + 28 + i) j = V (155 + 7 * i + j)) ∧ (M (b + 28 + i) 7 = V (155 + 7 * i + 6)) ∧ ((M (b + 28 + i) 6 = 1 ∧ kGood V i) ∨ (M (b + 28 + i) 6 = 0 ∧ ¬ kGood V i))) ∧
  (∀ o, o < no → ∀ j, j < 5 → M (b + 68 + o) j = V (435 + 5 * o + j))
def RTape (M N : xM) : Prop := ∃ n, n ≤ 200 ∧ M 1 1 = nI n ∧ N 0 2 = nI n ∧ ∀ i, i < n → M 2 i = N 1 i ∧ ∃ c, 0 < c ∧ c < 256 ∧ N 1 i = nI c
def RRule (M N : xM) : Prop := ∀ k, k < 7 → M 18 k = N 3 k ∧ (fLo k).toInt ≤ (N 3 k).toInt ∧ (N 3 k).toInt ≤ (fHi k).toInt
/-- only scratch of the reference's has changed -/
def SameN (N N1 : xM) : Prop := N1 0 2 = N 0 2 ∧ N1 0 13 = N 0 13 ∧ N1 0 15 = N 0 15 ∧ N1 1 = N 1 ∧ N1 3 = N 3 ∧ N1 4 = N 4 ∧ N1 5 = N 5 ∧ N1 6 = N 6 ∧ N1 7 = N 7
theorem SameN.rf (N : xM) : SameN N N := ⟨rfl, rfl, rfl, rfl, rfl, rfl, rfl, rfl, rfl⟩
theorem SameN.tr {N N1 N2 : xM} (h : SameN N N1) (g : SameN N1 N2) : SameN N N2 := by
  obtain ⟨a1, a2, a3, a4, a5, a6, a7, a8, a9⟩ := h
  obtain ⟨b1, b2, b3, b4, b5, b6, b7, b8, b9⟩ := g
  exact ⟨b1.trans a1, b2.trans a2, b3.trans a3, b4.trans a4, b5.trans a5, b6.trans a6, b7.trans a7, b8.trans a8, b9.trans a9⟩
theorem uM_row (M : xM) (k j : Nat) (v : Int32) {k2 : Nat} (h : k2 ≠ k) : uM M k j v k2 = M k2 := by simp [uM, h]
theorem SameN.th (N : xM) (v : Int32) : SameN N (uM N 0 0 v) := by
  refine ⟨?_, ?_, ?_, ?_, ?_, ?_, ?_, ?_, ?_⟩
  · exact uM_j _ _ _ _ (by decide)
  · exact uM_j _ _ _ _ (by decide)
  · exact uM_j _ _ _ _ (by decide)
  all_goals exact uM_row _ _ _ _ (by decide)
theorem SameN.sc {N N1 : xM} (h : SameN N N1) (k j : Nat) (v : Int32) (hk : 8 ≤ k ∨ k = 2) : SameN N (uM N1 k j v) := by
  obtain ⟨a1, a2, a3, a4, a5, a6, a7, a8, a9⟩ := h
  refine ⟨?_, ?_, ?_, ?_, ?_, ?_, ?_, ?_, ?_⟩
  · rw [uM_k _ _ _ _ (by omega)]; exact a1
  · rw [uM_k _ _ _ _ (by omega)]; exact a2
  · rw [uM_k _ _ _ _ (by omega)]; exact a3
  · rw [uM_row _ _ _ _ (by omega)]; exact a4
  · rw [uM_row _ _ _ _ (by omega)]; exact a5
  · rw [uM_row _ _ _ _ (by omega)]; exact a6
  · rw [uM_row _ _ _ _ (by omega)]; exact a7
  · rw [uM_row _ _ _ _ (by omega)]; exact a8
  · rw [uM_row _ _ _ _ (by omega)]; exact a9
theorem SameN.sf {N N1 : xM} (h : SameN N N1) (j : Nat) (v : Int32) (hj : j ≠ 2 ∧ j ≠ 13 ∧ j ≠ 15) : SameN N (uM N1 0 j v) := by
  obtain ⟨a1, a2, a3, a4, a5, a6, a7, a8, a9⟩ := h
  refine ⟨?_, ?_, ?_, ?_, ?_, ?_, ?_, ?_, ?_⟩
  · rw [uM_j _ _ _ _ (Ne.symm hj.1)]; exact a1
  · rw [uM_j _ _ _ _ (Ne.symm hj.2.1)]; exact a2
  · rw [uM_j _ _ _ _ (Ne.symm hj.2.2)]; exact a3
  · rw [uM_row _ _ _ _ (by omega)]; exact a4
  · rw [uM_row _ _ _ _ (by omega)]; exact a5
  · rw [uM_row _ _ _ _ (by omega)]; exact a6
  · rw [uM_row _ _ _ _ (by omega)]; exact a7
  · rw [uM_row _ _ _ _ (by omega)]; exact a8
  · rw [uM_row _ _ _ _ (by omega)]; exact a9
/-- rows that say the same: what lies behind the counts is free -/
def EqV (V W : Nat → Int32) : Prop := ∃ ng nw ne no, WF V ng nw ne no ∧ W 0 = V 0 ∧ W 1 = V 1 ∧ W 2 = V 2 ∧ W 3 = V 3 ∧ (∀ g, g < ng → W (4 + g) = V (4 + g)) ∧
  (∀ w, w < nw → (∀ j, j < 3 → W (7 + 37 * w + j) = V (7 + 37 * w + j)) ∧ W (7 + 37 * w + 15) = V (7 + 37 * w + 15) ∧ W (7 + 37 * w + 36) = V (7 + 37 * w + 36) ∧
    (∀ i, nI i < V (7 + 37 * w + 2) → i < 6 → W (7 + 37 * w + 3 + 2 * i) = V (7 + 37 * w + 3 + 2 * i) ∧ W (7 + 37 * w + 3 + 2 * i + 1) = V (7 + 37 * w + 3 + 2 * i + 1)) ∧
    (∀ y, nI y < V (7 + 37 * w + 15) → y < 10 → W (7 + 37 * w + 16 + y) = V (7 + 37 * w + 16 + y) ∧ W (7 + 37 * w + 26 + y) = V (7 + 37 * w + 26 + y))) ∧
  (∀ i, i < ne → ∀ j, j < 7 → W (155 + 7 * i + j) = V (155 + 7 * i + j)) ∧ (∀ o, o < no → ∀ j, j < 5 → W (435 + 5 * o + j) = V (435 + 5 * o + j))
def up1 (V : Nat → Int32) (k : Nat) (x : Int32) : Nat → Int32 := fun j => if j = k then x else V j
/-- an act taken back of a row -/
def undoV (act n x : Int32) (V : Nat → Int32) : Nat → Int32 :=
  if act = 0 then up1 V 0 (V 0 - 1) else if act = 1 then up1 V (4 + n.toNatClampNeg) x else if act = 2 then up1 V 1 (V 1 - 1)
  else if act = 3 then up1 V (7 + 37 * n.toNatClampNeg + 2) (V (7 + 37 * n.toNatClampNeg + 2) - 1) else if act = 4 then up1 V 2 (V 2 - 1) else if act = 5 then up1 V 3 (V 3 - 1)
  else if act = 6 then up1 V (155 + 7 * n.toNatClampNeg + 6) 0 else if act = 7 then up1 V (7 + 37 * n.toNatClampNeg + 15) (V (7 + 37 * n.toNatClampNeg + 15) - 1) else up1 V (7 + 37 * n.toNatClampNeg + 36) 0
/-- the row that was kept ahead of the j-th act (of c; the c-th: now) -/
def snap (N : xM) (c j : Nat) : Nat → Int32 := fun k => if j = c then N 4 k else N 5 (495 * j + k)
/-- an act that can be taken back -/
def okA (a n : Int32) : Prop := ∃ k m : Nat, k < 9 ∧ a = nI k ∧ n = nI m ∧ m < 40 ∧ (k = 1 → m < 3) ∧ (k = 3 ∨ k = 7 ∨ k = 8 → m < 4)
def RActs (M N : xM) : Prop := ∃ c, c ≤ 10 ∧ M 6 0 = nI c ∧ N 0 13 = nI c ∧ ∀ j, j < c → EqV (snap N c j) (undoV (M 7 j) (M 8 j) (M 9 j) (snap N c (j + 1))) ∧ okA (M 7 j) (M 8 j)
-- what is allowed of a payment, by the row and small
abbrev kBack (V : Nat → Int32) (sm : Int) (i : Nat) : Prop := V (155 + 7 * i + 6) = 1 ∨ kGood V i ∨ (V (155 + 7 * i + 3)).toInt ≤ sm
abbrev kTakes (V : Nat → Int32) (sm : Int) (i : Nat) : Prop := V (155 + 7 * i) = 1 ∧ (V (155 + 7 * i + 4)).toInt < 2 ∧ V (155 + 7 * i + 6) = 0 ∧ kBack V sm i
abbrev kAhead (V : Nat → Int32) (a b : Nat) : Prop := (V (155 + 7 * a + 2)).toInt < (V (155 + 7 * b + 2)).toInt ∨ (V (155 + 7 * a + 2)).toInt = (V (155 + 7 * b + 2)).toInt ∧ a < b
abbrev kAlike (V : Nat → Int32) (a b : Nat) : Prop := V (155 + 7 * a + 1) = V (155 + 7 * b + 1) ∧ V (155 + 7 * a + 4) = V (155 + 7 * b + 4) ∧ (V (155 + 7 * a + 2)).toInt / 360 = (V (155 + 7 * b + 2)).toInt / 360
/-- an order's share of a year -/
def kShare (V : Nat → Int32) (o : Nat) (y : Int) : Int :=
  if max (V (435 + 5 * o + 2)).toInt (360 * y) ≤ min (V (435 + 5 * o + 3)).toInt (360 * y + 359) then
    (V (435 + 5 * o + 4)).toInt * (min (V (435 + 5 * o + 3)).toInt (360 * y + 359) - max (V (435 + 5 * o + 2)).toInt (360 * y) + 1) / 360 else 0
def kAlnc (V : Nat → Int32) (no : Nat) (w k : Int32) (y : Int) : Int := zS (fun o => if V (435 + 5 * o) = w ∧ V (435 + 5 * o + 1) = k then kShare V o y else 0) no
def kAsked (V : Nat → Int32) (sm : Int) (ne e : Nat) : Int := zS (fun k => if kTakes V sm k ∧ kAlike V k e ∧ kAhead V k e then (V (155 + 7 * k + 3)).toInt else 0) ne
/-- allowed of the payment i -/
def kAlw (V : Nat → Int32) (sm : Int) (ne no i : Nat) : Int :=
  if ¬ kBack V sm i then 0 else if ¬ kTakes V sm i then (V (155 + 7 * i + 3)).toInt else
    min (max 0 (kAlnc V no (V (155 + 7 * i + 1)) (V (155 + 7 * i + 4)) ((V (155 + 7 * i + 2)).toInt / 360) - kAsked V sm ne i)) (V (155 + 7 * i + 3)).toInt
def RAlw (M : xM) (b : Nat) (N : xM) (V : Nat → Int32) (ne no : Nat) : Prop := ∀ i, i < ne → V (155 + 7 * i) = 1 → (M (b + 28 + i) 8).toInt = kAlw V (N 3 1).toInt ne no i
def Rel (M N : xM) : Prop :=
  RTape M N ∧ RRule M N ∧ (∀ r, r < 5 → M 10 r = N 7 r) ∧ RActs M N ∧
  (∃ ng nw ne no, WF (N 4) ng nw ne no ∧ RB M 17 (N 4) ng nw ne no ∧ RAlw M 17 N (N 4) ne no) ∧
  M 0 4 = N 0 15 ∧ ((N 0 15 = 0) ∨ (N 0 15 = 1 ∧ ∃ ng nw ne no, WF (N 6) ng nw ne no ∧ RB M 97 (N 6) ng nw ne no ∧ RAlw M 97 N (N 6) ne no))
theorem c_count {M N : xM} (h : Rel M N) (a : Int32) : ∃ r N1, f_X10_count M a = some r ∧ f_X11_count N a = some (r, N1) ∧ SameN N N1 := by
  obtain ⟨⟨n, hn, t1, t2, -⟩, -, -, ⟨c, hc, a1, a2, -⟩, ⟨ng, nw, ne, no, hW, hB, -⟩, -⟩ := h
  obtain ⟨-, -, -, -, w0, w1, w2, w3, -⟩ := hW
  obtain ⟨b0, b1, b2, b3, -⟩ := hB
  have g : ∀ i : Int32, 0 ≤ i.toInt → i.toInt < 495 → ∀ o : Option (Int32 × xM), gd i 495 o = o := fun i h0 h1 o => gd_d h0 h1 o
  simp only [f_X10_count, b_X10_count_0, f_X11_count, b_X11_count_0, lt_d]
  rw [g 0 (by decide) (by decide), g 1 (by decide) (by decide), g 2 (by decide) (by decide), g 3 (by decide) (by decide)]
  have e0 : (0 : Int32).toNatClampNeg = 0 := by decide
  have e1 : (1 : Int32).toNatClampNeg = 1 := by decide
  have e2 : (2 : Int32).toNatClampNeg = 2 := by decide
  have e3 : (3 : Int32).toNatClampNeg = 3 := by decide
  rw [e0, e1, e2, e3]
  have S := SameN.th N 0
  obtain ⟨s1, s2, -, -, -, s4, -⟩ := id S
  rw [s1, s2, s4, t1, t2, a1, a2, b0, b1, b2, b3, w0, w1, w2, w3]
  by_cases c0 : a = 0
  · simp only [c0, if_true]; exact ⟨_, _, rfl, rfl, S⟩
  by_cases c1 : a = 1
  · simp only [if_neg c0, if_pos c1]; exact ⟨_, _, rfl, rfl, S⟩
  by_cases c2 : a = 2
  · simp only [if_neg c0, if_neg c1, if_pos c2]; exact ⟨_, _, rfl, rfl, S⟩
  by_cases c3 : a = 3
  · simp only [if_neg c0, if_neg c1, if_neg c2, if_pos c3]; exact ⟨_, _, rfl, rfl, S⟩
  by_cases c4 : a = 4
  · simp only [if_neg c0, if_neg c1, if_neg c2, if_neg c3, if_pos c4]; exact ⟨_, _, rfl, rfl, S⟩
  by_cases c5 : a = 5
  · simp only [if_neg c0, if_neg c1, if_neg c2, if_neg c3, if_neg c4, if_pos c5]; exact ⟨_, _, rfl, rfl, S⟩
  · simp only [if_neg c0, if_neg c1, if_neg c2, if_neg c3, if_neg c4, if_neg c5]; exact ⟨_, _, rfl, rfl, S⟩
theorem c_status {M N : xM} (h : Rel M N) (a : Int32) : ∃ r N1, f_X10_status M a = some r ∧ f_X11_status N a = some (r, N1) ∧ SameN N N1 := by
  obtain ⟨-, -, hr, -⟩ := h
  simp only [f_X10_status, b_X10_status_0, b_X10_status_9, b_X10_status_19, f_X11_status, b_X11_status_0, b_X11_status_27, lt_d, m_in, bd_s, pI0, i_l, i_lt]
  have e0 : (0 : Int32).toInt = 0 := by decide
  have e5 : (5 : Int32).toInt = 5 := by decide
  have l0 : (0 : Int64).toInt = 0 := by decide
  have l4 : (4 : Int64).toInt = 4 := by decide
  rw [e0, e5, l0, l4]
  have S := SameN.th N 0
  obtain ⟨-, -, -, -, -, -, -, -, s7⟩ := id S
  by_cases c0 : a.toInt < 0
  · rw [if_pos c0, if_pos (by omega)]; exact ⟨_, _, rfl, rfl, S⟩
  · rw [if_neg c0]
    by_cases c1 : a.toInt < 5
    · rw [if_pos c1, if_neg (by omega), gd_d (by omega) (by omega), gd_d (by omega) (by omega), s7, hr a.toNatClampNeg (by show a.toInt.toNat < 5; omega)]
      exact ⟨_, _, rfl, rfl, S⟩
    · rw [if_neg c1, if_pos (by omega)]; exact ⟨_, _, rfl, rfl, S⟩
theorem c_rule {M N : xM} (h : Rel M N) (a : Int32) : ∃ r N1, f_X10_rule M a = some r ∧ f_X11_rule N a = some (r, N1) ∧ SameN N N1 := by
  obtain ⟨-, hr, -⟩ := h
  simp only [f_X10_rule, b_X10_rule_0, b_X10_rule_12, b_X10_rule_25, f_X11_rule, b_X11_rule_0, b_X11_rule_27, lt_d, m_in, bd_s, pI0, i_l, i_lt]
  have e0 : (0 : Int32).toInt = 0 := by decide
  have e5 : (7 : Int32).toInt = 7 := by decide
  have l0 : (0 : Int64).toInt = 0 := by decide
  have l4 : (6 : Int64).toInt = 6 := by decide
  rw [e0, e5, l0, l4]
  have S := SameN.th N 0
  obtain ⟨-, -, -, -, s3, -⟩ := id S
  by_cases c0 : a.toInt < 0
  · rw [if_pos c0, if_pos (by omega)]; exact ⟨_, _, rfl, rfl, S⟩
  · rw [if_neg c0]
    by_cases c1 : a.toInt < 7
    · rw [if_pos c1, if_neg (by omega), gd_d (by omega) (by omega), gd_d (by omega) (by omega), s3, (hr a.toNatClampNeg (by show a.toInt.toNat < 7; omega)).1]
      exact ⟨_, _, rfl, rfl, S⟩
    · rw [if_neg c1, if_pos (by omega)]; exact ⟨_, _, rfl, rfl, S⟩
theorem Rel.sn {M N N1 : xM} (h : Rel M N) (S : SameN N N1) : Rel M N1 := by
  obtain ⟨⟨n, t0, t1, t2, t3⟩, hr, hq, ⟨c, c0, c1, c2, c3⟩, ⟨ng, nw, ne, no, b1, b2, b3⟩, i1, i2⟩ := h
  obtain ⟨s1, s2, s3, s4, s5, s6, s7, s8, s9⟩ := S
  have hs : ∀ j, snap N1 c j = snap N c j := fun j => by unfold snap; rw [s6, s7]
  refine ⟨⟨n, t0, t1, by rw [s1]; exact t2, by rw [s4]; exact t3⟩, fun k hk => by rw [s5]; exact hr k hk, fun r h => by rw [s9]; exact hq r h, ⟨c, c0, c1, by rw [s2]; exact c2, fun j hj => by rw [hs, hs]; exact c3 j hj⟩, ⟨ng, nw, ne, no, by rw [s6]; exact b1, by rw [s6]; exact b2, fun i hi hp => ?_⟩, by rw [s3]; exact i1, ?_⟩
  · rw [s5, s6]; rw [s6] at hp; exact b3 i hi hp
  · rw [s3, s8]
    rcases i2 with i2 | ⟨i2, ng', nw', ne', no', d1, d2, d3⟩
    · exact Or.inl i2
    · exact Or.inr ⟨i2, ng', nw', ne', no', d1, d2, fun i hi hp => by rw [s5]; exact d3 i hi hp⟩
