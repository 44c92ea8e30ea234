/-! the class: its book (17) read by a row; orders, allowances, what is left -/
def CV (M : xM) (V : Nat → Int32) (ng nw ne no : Nat) : Prop :=
  M 17 1 = nI ng ∧ M 17 3 = nI nw ∧ M 17 5 = nI ne ∧ M 17 7 = nI no ∧
  (∀ g, g < ng → M 19 g = V (4 + g)) ∧
  (∀ w, w < nw → M (25 + 5 * w) 0 = V (7 + 37 * w) ∧ M (25 + 5 * w) 1 = V (7 + 37 * w + 1) ∧ M (25 + 5 * w) 2 = V (7 + 37 * w + 2) ∧ M (25 + 5 * w) 5 = V (7 + 37 * w + 15) ∧ M (25 + 5 * w) 6 = V (7 + 37 * w + 36) ∧
    (∀ i, nI i < V (7 + 37 * w + 2) → i < 6 → M (26 + 5 * w) i = V (7 + 37 * w + 3 + 2 * i) ∧ M (27 + 5 * w) i = V (7 + 37 * w + 3 + 2 * i + 1)) ∧
    (∀ y, nI y < V (7 + 37 * w + 15) → y < 10 → M (28 + 5 * w) y = V (7 + 37 * w + 16 + y) ∧ M (29 + 5 * w) y = V (7 + 37 * w + 26 + y))) ∧
  (∀ i, i < ne → (∀ j, j < 6 → M (45 + i) j = V (155 + 7 * i + j)) ∧ (M (45 + i) 7 = V (155 + 7 * i + 6)) ∧ ((M (45 + i) 6 = 1 ∧ kGood V i) ∨ (M (45 + i) 6 = 0 ∧ ¬ kGood V i))) ∧
  (∀ o, o < no → ∀ j, j < 5 → M (85 + o) j = V (435 + 5 * o + j))
theorem CV_of {M : xM} {V : Nat → Int32} {ng nw ne no : Nat} (h : RB M 17 V ng nw ne no) : CV M V ng nw ne no := h
theorem CV.to {M : xM} {V : Nat → Int32} {ng nw ne no : Nat} (h : CV M V ng nw ne no) : RB M 17 V ng nw ne no := h
theorem CV.o {M : xM} {V : Nat → Int32} {ng nw ne no o : Nat} (h : CV M V ng nw ne no) (ho : o < no) : M (85 + o) 0 = V (435 + 5 * o) ∧ M (85 + o) 1 = V (435 + 5 * o + 1) ∧ M (85 + o) 2 = V (435 + 5 * o + 2) ∧ M (85 + o) 3 = V (435 + 5 * o + 3) ∧ M (85 + o) 4 = V (435 + 5 * o + 4) := by
  have h1 := h.2.2.2.2.2.2.2 o ho
  exact ⟨h1 0 (by decide), h1 1 (by decide), h1 2 (by decide), h1 3 (by decide), h1 4 (by decide)⟩
theorem CV.e {M : xM} {V : Nat → Int32} {ng nw ne no i : Nat} (h : CV M V ng nw ne no) (hi : i < ne) : M (45 + i) 0 = V (155 + 7 * i) ∧ M (45 + i) 1 = V (155 + 7 * i + 1) ∧ M (45 + i) 2 = V (155 + 7 * i + 2) ∧ M (45 + i) 3 = V (155 + 7 * i + 3) ∧ M (45 + i) 4 = V (155 + 7 * i + 4) ∧ M (45 + i) 5 = V (155 + 7 * i + 5) ∧ M (45 + i) 7 = V (155 + 7 * i + 6) ∧ ((M (45 + i) 6 = 1 ∧ kGood V i) ∨ (M (45 + i) 6 = 0 ∧ ¬ kGood V i)) := by
  obtain ⟨h1, h2, h3⟩ := h.2.2.2.2.2.2.1 i hi
  exact ⟨h1 0 (by decide), h1 1 (by decide), h1 2 (by decide), h1 3 (by decide), h1 4 (by decide), h1 5 (by decide), h2, h3⟩
/-- rows that a book is: CV is kept where they are -/
theorem CV.kp {M M1 : xM} {V : Nat → Int32} {ng nw ne no : Nat} (hb : ng ≤ 3 ∧ nw ≤ 4 ∧ ne ≤ 40 ∧ no ≤ 12) (h : CV M V ng nw ne no) (e : ∀ k, 17 ≤ k → k < 97 → k ≠ 18 → k ≠ 23 → k ≠ 24 → ∀ j, ¬ (45 ≤ k ∧ k < 85 ∧ j = 8) → M1 k j = M k j) : CV M1 V ng nw ne no := by
  obtain ⟨h0, h1, h2, h3, h4, h5, h6, h7⟩ := h
  refine ⟨?_, ?_, ?_, ?_, fun g hg => ?_, fun w hw => ?_, fun i hi => ?_, fun o ho j hj => ?_⟩
  · rw [e 17 (by decide) (by decide) (by decide) (by decide) (by decide) 1 (by omega)]; exact h0
  · rw [e 17 (by decide) (by decide) (by decide) (by decide) (by decide) 3 (by omega)]; exact h1
  · rw [e 17 (by decide) (by decide) (by decide) (by decide) (by decide) 5 (by omega)]; exact h2
  · rw [e 17 (by decide) (by decide) (by decide) (by decide) (by decide) 7 (by omega)]; exact h3
  · rw [e 19 (by decide) (by decide) (by decide) (by decide) (by decide) g (by omega)]; exact h4 g hg
  · obtain ⟨a0, a1, a2, a3, a4, a5, a6⟩ := h5 w hw
    refine ⟨?_, ?_, ?_, ?_, ?_, fun i hi hj => ⟨?_, ?_⟩, fun y hy hj => ⟨?_, ?_⟩⟩
    · rw [e (25 + 5 * w) (by omega) (by omega) (by omega) (by omega) (by omega) _ (by omega)]; exact a0
    · rw [e (25 + 5 * w) (by omega) (by omega) (by omega) (by omega) (by omega) _ (by omega)]; exact a1
    · rw [e (25 + 5 * w) (by omega) (by omega) (by omega) (by omega) (by omega) _ (by omega)]; exact a2
    · rw [e (25 + 5 * w) (by omega) (by omega) (by omega) (by omega) (by omega) _ (by omega)]; exact a3
    · rw [e (25 + 5 * w) (by omega) (by omega) (by omega) (by omega) (by omega) _ (by omega)]; exact a4
    · rw [e (26 + 5 * w) (by omega) (by omega) (by omega) (by omega) (by omega) _ (by omega)]; exact (a5 i hi hj).1
    · rw [e (27 + 5 * w) (by omega) (by omega) (by omega) (by omega) (by omega) _ (by omega)]; exact (a5 i hi hj).2
    · rw [e (28 + 5 * w) (by omega) (by omega) (by omega) (by omega) (by omega) _ (by omega)]; exact (a6 y hy hj).1
    · rw [e (29 + 5 * w) (by omega) (by omega) (by omega) (by omega) (by omega) _ (by omega)]; exact (a6 y hy hj).2
  · obtain ⟨a0, a1, a2⟩ := h6 i hi
    refine ⟨fun j hj => ?_, ?_, ?_⟩
    · rw [e (45 + i) (by omega) (by omega) (by omega) (by omega) (by omega) _ (by omega)]; exact a0 j hj
    · rw [e (45 + i) (by omega) (by omega) (by omega) (by omega) (by omega) _ (by omega)]; exact a1
    · rw [e (45 + i) (by omega) (by omega) (by omega) (by omega) (by omega) _ (by omega)]; exact a2
  · rw [e (85 + o) (by omega) (by omega) (by omega) (by omega) (by omega) _ (by omega)]; exact h7 o ho j hj
theorem y360 (y : Nat) : nI y * (360 : Int32) = nI (360 * y) := by
  rw [show (360 : Int32) = nI 360 from rfl, pk_mul, Nat.mul_comm]
theorem c_firstDay (M : xM) (y : Nat) : f_X10_firstDay M (nI y) = some (nI (360 * y)) := by
  simp only [f_X10_firstDay, b_X10_firstDay_0, y360]
theorem c_lastDay (M : xM) (y : Nat) : f_X10_lastDay M (nI y) = some (nI (360 * y + 359)) := by
  simp only [f_X10_lastDay, b_X10_lastDay_0, y360]
  rw [show (360 : Int32) = nI 360 from rfl, nI_add, show (1 : Int32) = nI 1 from rfl, pk_sub (by omega)]
  rfl
theorem c_share {M : xM} {V : Nat → Int32} {ng nw ne no o y : Nat} (h : CV M V ng nw ne no) (ho : o < no) (hW : WFo V o) (hy : y < 10) : f_X3_shareOf M (85 + o) (nI y) = some (oI (kShare V o y)) := by
  obtain ⟨-, -, o2, o3, o4⟩ := h.o ho
  simp only [f_X3_shareOf, b_X3_shareOf_0, b_X3_shareOf_44]
  rw [c_lastDay, bd_s, c_firstDay, bd_s, lt_d, o2, o3, o4]
  obtain ⟨⟨h1, h1'⟩, ⟨h2, h2'⟩, h3, h4, h5⟩ := hW
  have t1 : (nI (360 * y)).toInt = 360 * (y : Int) := by rw [nI_toInt (by omega)]; omega
  have t2 : (nI (360 * y + 359)).toInt = 360 * (y : Int) + 359 := by rw [nI_toInt (by omega)]; omega
  have hf : (imax (V (435 + 5 * o + 2)) (nI (360 * y))).toInt = max (V (435 + 5 * o + 2)).toInt (360 * y) := by rw [imax_i, t1]
  have hg : (imin (V (435 + 5 * o + 3)) (nI (360 * y + 359))).toInt = min (V (435 + 5 * o + 3)).toInt (360 * y + 359) := by rw [imin_i, t2]
  have e1 : (1 : Int32).toInt = 1 := by decide
  have e0 : (0 : Int32).toInt = 0 := by decide
  have e3 : (360 : Int32).toInt = 360 := by decide
  have b1 : (imin (V (435 + 5 * o + 3)) (nI (360 * y + 359)) - imax (V (435 + 5 * o + 2)) (nI (360 * y))).toInt = min (V (435 + 5 * o + 3)).toInt (360 * y + 359) - max (V (435 + 5 * o + 2)).toInt (360 * y) := by rw [i_sub (by omega) (by omega), hf, hg]
  have b2 : (imin (V (435 + 5 * o + 3)) (nI (360 * y + 359)) - imax (V (435 + 5 * o + 2)) (nI (360 * y)) + 1).toInt = min (V (435 + 5 * o + 3)).toInt (360 * y + 359) - max (V (435 + 5 * o + 2)).toInt (360 * y) + 1 := by rw [i_add (by omega) (by omega), b1, e1]
  unfold kShare
  generalize imin (V (435 + 5 * o + 3)) (nI (360 * y + 359)) - imax (V (435 + 5 * o + 2)) (nI (360 * y)) + 1 = d at b2
  by_cases c : 0 < d.toInt
  · rw [if_pos ((i_lt _ _).mpr (by rw [e0]; exact c)), if_pos (by omega), ← b2]
    apply congrArg some
    apply oI_e
    have d2 : d.toInt ≤ 360 := by omega
    generalize hA : V (435 + 5 * o + 4) = a at h4 h5
    have p1 : 0 ≤ a.toInt * d.toInt := Int.mul_nonneg (by omega) (by omega)
    have p2 : a.toInt * d.toInt ≤ 99999 * 360 := Int.mul_le_mul h5 d2 (by omega) (by omega)
    rw [i_div (by rw [e3]; decide), i_mul (by omega) (by omega), e3, Int.tdiv_eq_ediv_of_nonneg p1]
  · rw [if_neg (fun z => c (by have := (i_lt _ _).mp z; rw [e0] at this; exact this)), if_neg (by omega)]
    rfl
theorem c_alnc {M : xM} {V : Nat → Int32} {ng nw ne no y : Nat} (h : CV M V ng nw ne no) (hno : no ≤ 12) (hW : ∀ o, o < no → WFo V o) (hy : y < 10) (w k : Int32) : f_X1_allowanceOf M w k (nI y) = some (oI (kAlnc V no w k y)) := by
  simp only [f_X1_allowanceOf, b_X1_allowanceOf_0, b_X1_allowanceOf_6]
  have hl := loopN_up (body := fun s : Int32 × Int32 => bl_X1_allowanceOf_6 M w k (nI y) s.1 s.2) (r := oI (kAlnc V no w k y))
    (fun o => (oI (kAlnc V o w k y), nI o)) no ?_ ?_ BG (BG_lt (by omega))
  · have e : (oI (kAlnc V 0 w k y), nI 0) = ((0 : Int32), (0 : Int32)) := rfl
    rw [e] at hl
    rw [hl, bd_s]
  · intro o ho
    have hS := c_share h ho (hW o ho) hy
    obtain ⟨o0, o1, -⟩ := h.o ho
    obtain ⟨k1, k2⟩ := kShare_bd (hW o ho) (y : Int)
    obtain ⟨a1, a2⟩ := kAlnc_bd hW w k y o (by omega)
    have nx : kAlnc V (o + 1) w k y = kAlnc V o w k y + (if V (435 + 5 * o) = w ∧ V (435 + 5 * o + 1) = k then kShare V o y else 0) := rfl
    simp only [bl_X1_allowanceOf_6]
    rw [h.2.2.2.1, if_neg (nI_ge ho (by omega)), gd_n (by omega) (by decide), nI_clamp (by omega), o0]
    have out : b_X1_allowanceOf_59 M w k (nI y) (oI (kAlnc V o w k y)) (nI o) = some (.inl (oI (kAlnc V o w k y + 0), nI (o + 1))) := by
      simp only [b_X1_allowanceOf_59, lt_d, nI_1, Int.add_zero]
    by_cases c1 : V (435 + 5 * o) = w
    · rw [if_pos c1, gd_n (by omega) (by decide), o1]
      by_cases c2 : V (435 + 5 * o + 1) = k
      · rw [if_pos (And.intro c1 c2)] at nx
        rw [if_pos c2, gd_n (by omega) (by decide), hS, bd_s, lt_d, nx]
        simp only [b_X1_allowanceOf_59, lt_d, nI_1]
        congr 3
        apply oI_e
        rw [i_add (by rw [oI_i (by omega) (by omega), oI_i (by omega) (by omega)]; omega) (by rw [oI_i (by omega) (by omega), oI_i (by omega) (by omega)]; omega), oI_i (by omega) (by omega), oI_i (by omega) (by omega)]
      · rw [if_neg c2, out, nx, if_neg (fun z => c2 z.2)]
    · rw [if_neg c1, out, nx, if_neg (fun z => c1 z.1)]
  · simp only [bl_X1_allowanceOf_6]
    rw [h.2.2.2.1, if_pos (nI_le (Nat.le_refl no) (by omega))]
