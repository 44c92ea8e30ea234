/-! undo -/
theorem dec_eq {a b : Nat} (ha : a < 1000) (hb : b < 1000) (h : nI a - 1 = nI b) : a = b + 1 := by
  have h2 : nI a = nI (b + 1) := by rw [← nI_1, ← h, Int32.sub_add_cancel]
  exact (nI_eq (by omega) (by omega)).mp h2
theorem RB.cnt {M M1 : xM} {V U : Nat → Int32} {g0 w0 e0 o0 ng nw ne no : Nat} (hB : RB M 17 V g0 w0 e0 o0) (hb : g0 ≤ 3 ∧ w0 ≤ 4 ∧ e0 ≤ 40 ∧ o0 ≤ 12) (le : ng ≤ g0 ∧ nw ≤ w0 ∧ ne ≤ e0 ∧ no ≤ o0) (c : M1 17 1 = nI ng ∧ M1 17 3 = nI nw ∧ M1 17 5 = nI ne ∧ M1 17 7 = nI no) (fm : ∀ k, k ≠ 17 → M1 k = M k) (hU : ∀ k, 4 ≤ k → U k = V k) : RB M1 17 U ng nw ne no := by
  obtain ⟨p, hg, hww, he, ho⟩ := RB_ex hB
  exact RB_mk c (fun g hg' => by rw [fm _ (by omega), hU _ (by omega)]; exact hg g (by omega)) (fun u hu => (hww u (by omega)).cg (fun j hj => fm _ (by omega)) (fun j hj => hU _ (by omega))) (fun q hq => (he q (by omega)).cg (fun j hj => by rw [fm _ (by omega)]) (fun j hj => hU _ (by omega)) (fun k hk => ⟨hU _ (by omega), hU _ (by omega)⟩)) (fun o ho' => (ho o (by omega)).cg (fm _ (by omega)) (fun j hj => hU _ (by omega)))
theorem RB.ward1 {M M1 : xM} {V U : Nat → Int32} {ng nw ne no m : Nat} (hB : RB M 17 V ng nw ne no) (hb : ng ≤ 3 ∧ nw ≤ 4 ∧ ne ≤ 40 ∧ no ≤ 12) (fm : ∀ k, k ≠ 25 + 5 * m → M1 k = M k) (hm : m < 4) (hU : ∀ k, ¬ (7 + 37 * m ≤ k ∧ k < 7 + 37 * m + 37) → U k = V k) (hw : m < nw → RBw M1 17 U m) : RB M1 17 U ng nw ne no := by
  obtain ⟨p, hg, hww, he, ho⟩ := RB_ex hB
  refine RB_mk (by rw [fm 17 (by omega)]; exact p) (fun g hg' => by rw [fm _ (by omega), hU _ (by omega)]; exact hg g (by omega)) (fun u hu => ?_) (fun q hq => (he q (by omega)).cg (fun j hj => by rw [fm _ (by omega)]) (fun j hj => hU _ (by omega)) (fun k hk => ⟨hU _ (by omega), hU _ (by omega)⟩)) (fun o ho' => (ho o (by omega)).cg (fm _ (by omega)) (fun j hj => hU _ (by omega)))
  by_cases e : u = m
  · subst e; exact hw hu
  · have tri : u < m ∨ m < u := by omega
    exact (hww u hu).cg (fun j hj => fm _ (by rcases tri with q | q <;> omega)) (fun j hj => hU _ (by rcases tri with q | q <;> omega))
section
variable {M : xM} {V0 V1 : Nat → Int32} {g0 w0 e0 o0 ng nw ne no : Nat}
theorem c_takeBack (hW0 : WF V0 g0 w0 e0 o0) (hB : RB M 17 V0 g0 w0 e0 o0) {a n x : Int32} (ha : okA a n) (hW1 : WF V1 ng nw ne no) (hE : EqF V1 (undoV a n x V0) ng nw ne no) : ∃ M1, f_X10_takeBack M a n x = some M1 ∧ KpB M M1 ∧ RB M1 17 (undoV a n x V0) ng nw ne no := by
  obtain ⟨k, m, hk, rfl, rfl, hm, hm1, hm2⟩ := ha
  have hb := hW0.bd
  have hb1 := hW1.bd
  have c0 := hW0.c
  have c1 := hW1.c
  obtain ⟨p1, p3, p5, p7⟩ : M 17 1 = nI g0 ∧ M 17 3 = nI w0 ∧ M 17 5 = nI e0 ∧ M 17 7 = nI o0 := (RB_ex hB).1
  unfold f_X10_takeBack b_X10_takeBack_0 b_X10_takeBack_203
  have q9 : k = 0 ∨ k = 1 ∨ k = 2 ∨ k = 3 ∨ k = 4 ∨ k = 5 ∨ k = 6 ∨ k = 7 ∨ k = 8 := by omega
  obtain ⟨E0, E1, E2, E3, -, Ew, -, -⟩ := hE
  rcases q9 with rfl | rfl | rfl | rfl | rfl | rfl | rfl | rfl | rfl
  · rw [if_pos (by decide), lt_d]
    have eU : undoV (nI 0) (nI m) x V0 = up1 V0 0 (V0 0 - 1) := rfl
    rw [eU] at E0 E1 E2 E3 ⊢
    rw [up1_s, c0.1, c1.1] at E0
    rw [up1_n _ _ _ (by decide), c0.2.1, c1.2.1, nI_eq (by omega) (by omega)] at E1
    rw [up1_n _ _ _ (by decide), c0.2.2.1, c1.2.2.1, nI_eq (by omega) (by omega)] at E2
    rw [up1_n _ _ _ (by decide), c0.2.2.2.1, c1.2.2.2.1, nI_eq (by omega) (by omega)] at E3
    have z := dec_eq (by omega) (by omega) E0
    exact ⟨_, rfl, (KpB.rf M).u _ _ _ (by decide), hB.cnt hb (by omega) ⟨by rw [uM_s, p1]; exact E0, by rw [uM_j _ _ _ _ (by decide), p3, E1], by rw [uM_j _ _ _ _ (by decide), p5, E2], by rw [uM_j _ _ _ _ (by decide), p7, E3]⟩ (fun k hk => uM_row _ _ _ _ hk) (fun k hk => up1_n _ _ _ (by omega))⟩
  · have hm3 := hm1 rfl
    rw [if_neg (by decide), if_pos (by decide), gd_n hm3 (by decide), lt_d, clN (by omega)]
    have eU : undoV (nI 1) (nI m) x V0 = up1 V0 (4 + m) x := by
      show up1 V0 (4 + (nI m).toNatClampNeg) x = _
      rw [clN (by omega)]
    rw [eU] at E0 E1 E2 E3 ⊢
    rw [up1_n _ _ _ (by omega), c0.1, c1.1, nI_eq (by omega) (by omega)] at E0
    rw [up1_n _ _ _ (by omega), c0.2.1, c1.2.1, nI_eq (by omega) (by omega)] at E1
    rw [up1_n _ _ _ (by omega), c0.2.2.1, c1.2.2.1, nI_eq (by omega) (by omega)] at E2
    rw [up1_n _ _ _ (by omega), c0.2.2.2.1, c1.2.2.2.1, nI_eq (by omega) (by omega)] at E3
    subst E0 E1 E2 E3
    refine ⟨_, rfl, (KpB.rf M).u _ _ _ (by decide), ?_⟩
    have fm : ∀ q, q ≠ 19 → uM M 19 m x q = M q := fun q a => uM_row _ _ _ _ a
    have f : ∀ q, q ≠ 4 + m → up1 V0 (4 + m) x q = V0 q := fun q a => up1_n _ _ _ a
    obtain ⟨p, hg, hww, he, ho⟩ := RB_ex hB
    refine RB_mk (by rw [fm 17 (by omega)]; exact p) (fun g hg' => ?_) (fun u hu => (hww u (by omega)).cg (fun j hj => fm _ (by omega)) (fun j hj => f _ (by omega))) (fun q hq => (he q (by omega)).cg (fun j hj => by rw [fm _ (by omega)]) (fun j hj => f _ (by omega)) (fun k hk => ⟨f _ (by omega), f _ (by omega)⟩)) (fun o ho' => (ho o (by omega)).cg (fm _ (by omega)) (fun j hj => f _ (by omega)))
    show uM M 19 m x 19 g = _
    by_cases e : g = m
    · subst e; rw [uM_s, up1_s]
    · rw [uM_j _ _ _ _ e, f _ (by omega)]; exact hg g hg'
  · rw [if_neg (by decide), if_neg (by decide), if_pos (by decide), lt_d]
    have eU : undoV (nI 2) (nI m) x V0 = up1 V0 1 (V0 1 - 1) := rfl
    rw [eU] at E0 E1 E2 E3 ⊢
    rw [up1_s, c0.2.1, c1.2.1] at E1
    rw [up1_n _ _ _ (by decide), c0.1, c1.1, nI_eq (by omega) (by omega)] at E0
    rw [up1_n _ _ _ (by decide), c0.2.2.1, c1.2.2.1, nI_eq (by omega) (by omega)] at E2
    rw [up1_n _ _ _ (by decide), c0.2.2.2.1, c1.2.2.2.1, nI_eq (by omega) (by omega)] at E3
    have z := dec_eq (by omega) (by omega) E1
    exact ⟨_, rfl, (KpB.rf M).u _ _ _ (by decide), hB.cnt hb (by omega) ⟨by rw [uM_j _ _ _ _ (by decide), p1, E0], by rw [uM_s, p3]; exact E1, by rw [uM_j _ _ _ _ (by decide), p5, E2], by rw [uM_j _ _ _ _ (by decide), p7, E3]⟩ (fun k hk => uM_row _ _ _ _ hk) (fun k hk => up1_n _ _ _ (by omega))⟩
  · have hm4 := hm2 (Or.inl rfl)
    rw [if_neg (by decide), if_neg (by decide), if_neg (by decide), if_pos (by decide), gd_n hm4 (by decide), clN (by omega), lt_d]
    have eU : undoV (nI 3) (nI m) x V0 = up1 V0 (7 + 37 * m + 2) (V0 (7 + 37 * m + 2) - 1) := by
      show up1 V0 (7 + 37 * (nI m).toNatClampNeg + 2) (V0 (7 + 37 * (nI m).toNatClampNeg + 2) - 1) = _
      rw [clN (by omega)]
    rw [eU] at E0 E1 E2 E3 Ew ⊢
    rw [up1_n _ _ _ (by omega), c0.1, c1.1, nI_eq (by omega) (by omega)] at E0
    rw [up1_n _ _ _ (by omega), c0.2.1, c1.2.1, nI_eq (by omega) (by omega)] at E1
    rw [up1_n _ _ _ (by omega), c0.2.2.1, c1.2.2.1, nI_eq (by omega) (by omega)] at E2
    rw [up1_n _ _ _ (by omega), c0.2.2.2.1, c1.2.2.2.1, nI_eq (by omega) (by omega)] at E3
    subst E0 E1 E2 E3
    refine ⟨_, rfl, (KpB.rf M).u _ _ _ (by omega), hB.ward1 hb (m := m) (fun k hk => uM_row _ _ _ _ hk) hm4 (fun k hk => up1_n _ _ _ (by omega)) (fun hw => ?_)⟩
    obtain ⟨a1, a2, a3, a4, a5, a6, a7⟩ := (RB_ex hB).2.2.1 m hw
    obtain ⟨-, -, ⟨ch0, x1, x2, -⟩, -⟩ := hW0.w hw
    obtain ⟨-, -, ⟨ch1, y1, y2, -⟩, -⟩ := hW1.w hw
    have e2 := (Ew m hw).1 2 (by omega)
    rw [up1_s, x2, y2] at e2
    have e3 := dec_eq (by omega) (by omega) e2
    have f : ∀ q, q ≠ 7 + 37 * m + 2 → up1 V0 (7 + 37 * m + 2) (V0 (7 + 37 * m + 2) - 1) q = V0 q := fun q a => up1_n _ _ _ a
    have fm : ∀ q, q ≠ 25 + 5 * m → uM M (25 + 5 * m) 2 (M (25 + 5 * m) 2 - 1) q = M q := fun q a => uM_row _ _ _ _ a
    have z0 : ∀ j, j ≠ 2 → uM M (25 + 5 * m) 2 (M (25 + 5 * m) 2 - 1) (17 + 8 + 5 * m) j = M (17 + 8 + 5 * m) j := fun j hj => uM_j _ _ _ _ hj
    refine ⟨?_, ?_, ?_, ?_, ?_, fun i h1 hi => ?_, fun y h1 hy => ?_⟩
    · rw [z0 0 (by decide), f _ (by omega)]; exact a1
    · rw [z0 1 (by decide), f _ (by omega)]; exact a2
    · show uM M (25 + 5 * m) 2 (M (25 + 5 * m) 2 - 1) (25 + 5 * m) 2 = _
      have a3' : M (25 + 5 * m) 2 = V0 (7 + 37 * m + 2) := a3
      rw [uM_s, up1_s, a3']
    · rw [z0 5 (by decide), f _ (by omega)]; exact a4
    · rw [z0 6 (by decide), f _ (by omega)]; exact a5
    · rw [up1_s, x2, e2, nI_ltI (by omega) (by omega)] at h1
      rw [fm _ (by omega), fm _ (by omega), f (7 + 37 * m + 3 + 2 * i) (by omega), f (7 + 37 * m + 3 + 2 * i + 1) (by omega)]
      exact a6 i (by rw [x2]; exact nI_lt' (by omega) (by omega)) hi
    · rw [f _ (by omega)] at h1
      rw [fm _ (by omega), fm _ (by omega), f (7 + 37 * m + 16 + y) (by omega), f (7 + 37 * m + 26 + y) (by omega)]
      exact a7 y h1 hy
  · rw [if_neg (by decide), if_neg (by decide), if_neg (by decide), if_neg (by decide), if_pos (by decide), lt_d]
    have eU : undoV (nI 4) (nI m) x V0 = up1 V0 2 (V0 2 - 1) := rfl
    rw [eU] at E0 E1 E2 E3 ⊢
    rw [up1_s, c0.2.2.1, c1.2.2.1] at E2
    rw [up1_n _ _ _ (by decide), c0.1, c1.1, nI_eq (by omega) (by omega)] at E0
    rw [up1_n _ _ _ (by decide), c0.2.1, c1.2.1, nI_eq (by omega) (by omega)] at E1
    rw [up1_n _ _ _ (by decide), c0.2.2.2.1, c1.2.2.2.1, nI_eq (by omega) (by omega)] at E3
    have z := dec_eq (by omega) (by omega) E2
    exact ⟨_, rfl, (KpB.rf M).u _ _ _ (by decide), hB.cnt hb (by omega) ⟨by rw [uM_j _ _ _ _ (by decide), p1, E0], by rw [uM_j _ _ _ _ (by decide), p3, E1], by rw [uM_s, p5]; exact E2, by rw [uM_j _ _ _ _ (by decide), p7, E3]⟩ (fun k hk => uM_row _ _ _ _ hk) (fun k hk => up1_n _ _ _ (by omega))⟩
  · rw [if_neg (by decide), if_neg (by decide), if_neg (by decide), if_neg (by decide), if_neg (by decide), if_pos (by decide), lt_d]
    have eU : undoV (nI 5) (nI m) x V0 = up1 V0 3 (V0 3 - 1) := rfl
    rw [eU] at E0 E1 E2 E3 ⊢
    rw [up1_s, c0.2.2.2.1, c1.2.2.2.1] at E3
    rw [up1_n _ _ _ (by decide), c0.1, c1.1, nI_eq (by omega) (by omega)] at E0
    rw [up1_n _ _ _ (by decide), c0.2.1, c1.2.1, nI_eq (by omega) (by omega)] at E1
    rw [up1_n _ _ _ (by decide), c0.2.2.1, c1.2.2.1, nI_eq (by omega) (by omega)] at E2
    have z := dec_eq (by omega) (by omega) E3
    exact ⟨_, rfl, (KpB.rf M).u _ _ _ (by decide), hB.cnt hb (by omega) ⟨by rw [uM_j _ _ _ _ (by decide), p1, E0], by rw [uM_j _ _ _ _ (by decide), p3, E1], by rw [uM_j _ _ _ _ (by decide), p5, E2], by rw [uM_s, p7]; exact E3⟩ (fun k hk => uM_row _ _ _ _ hk) (fun k hk => up1_n _ _ _ (by omega))⟩
  · rw [if_neg (by decide), if_neg (by decide), if_neg (by decide), if_neg (by decide), if_neg (by decide), if_neg (by decide), if_pos (by decide), gd_n hm (by decide), lt_d, clN (by omega)]
    have eU : undoV (nI 6) (nI m) x V0 = up1 V0 (155 + 7 * m + 6) 0 := by
      show up1 V0 (155 + 7 * (nI m).toNatClampNeg + 6) 0 = _
      rw [clN (by omega)]
    rw [eU] at E0 E1 E2 E3 ⊢
    rw [up1_n _ _ _ (by omega), c0.1, c1.1, nI_eq (by omega) (by omega)] at E0
    rw [up1_n _ _ _ (by omega), c0.2.1, c1.2.1, nI_eq (by omega) (by omega)] at E1
    rw [up1_n _ _ _ (by omega), c0.2.2.1, c1.2.2.1, nI_eq (by omega) (by omega)] at E2
    rw [up1_n _ _ _ (by omega), c0.2.2.2.1, c1.2.2.2.1, nI_eq (by omega) (by omega)] at E3
    subst E0 E1 E2 E3
    refine ⟨_, rfl, (KpB.rf M).u _ _ _ (by omega), ?_⟩
    have fm : ∀ q, q ≠ 45 + m → uM M (45 + m) 7 0 q = M q := fun q a => uM_row _ _ _ _ a
    have f : ∀ q, q ≠ 155 + 7 * m + 6 → up1 V0 (155 + 7 * m + 6) 0 q = V0 q := fun q a => up1_n _ _ _ a
    obtain ⟨p, hg, hww, he, ho⟩ := RB_ex hB
    refine RB_mk (by rw [fm 17 (by omega)]; exact p) (fun g hg' => by rw [fm _ (by omega), f _ (by omega)]; exact hg g hg') (fun u hu => (hww u (by omega)).cg (fun j hj => fm _ (by omega)) (fun j hj => f _ (by omega))) (fun q hq => ?_) (fun o ho' => (ho o (by omega)).cg (fm _ (by omega)) (fun j hj => f _ (by omega)))
    by_cases e : q = m
    · subst e
      obtain ⟨a1, a2, a3⟩ := he q hq
      have z0 : ∀ j, j ≠ 7 → uM M (45 + q) 7 0 (17 + 28 + q) j = M (17 + 28 + q) j := fun j hj => uM_j _ _ _ _ hj
      have hgg : kGood (up1 V0 (155 + 7 * q + 6) 0) q ↔ kGood V0 q := kGood_cg (fun k hk => ⟨f _ (by omega), f _ (by omega)⟩)
      refine ⟨fun j hj => by rw [z0 j (by omega), f _ (by omega)]; exact a1 j hj, ?_, ?_⟩
      · rw [up1_s]; exact uM_s _ _ _ _
      · rw [z0 6 (by omega), hgg]; exact a3
    · have tri : q < m ∨ m < q := by omega
      exact (he q (by omega)).cg (fun j hj => by rw [fm _ (by omega)]) (fun j hj => f _ (by rcases tri with z | z <;> omega)) (fun k hk => ⟨f _ (by omega), f _ (by omega)⟩)
  · have hm4 := hm2 (Or.inr (Or.inl rfl))
    rw [if_neg (by decide), if_neg (by decide), if_neg (by decide), if_neg (by decide), if_neg (by decide), if_neg (by decide), if_neg (by decide), if_pos (by decide), gd_n hm4 (by decide), clN (by omega), lt_d]
    have eU : undoV (nI 7) (nI m) x V0 = up1 V0 (7 + 37 * m + 15) (V0 (7 + 37 * m + 15) - 1) := by
      show up1 V0 (7 + 37 * (nI m).toNatClampNeg + 15) (V0 (7 + 37 * (nI m).toNatClampNeg + 15) - 1) = _
      rw [clN (by omega)]
    rw [eU] at E0 E1 E2 E3 Ew ⊢
    rw [up1_n _ _ _ (by omega), c0.1, c1.1, nI_eq (by omega) (by omega)] at E0
    rw [up1_n _ _ _ (by omega), c0.2.1, c1.2.1, nI_eq (by omega) (by omega)] at E1
    rw [up1_n _ _ _ (by omega), c0.2.2.1, c1.2.2.1, nI_eq (by omega) (by omega)] at E2
    rw [up1_n _ _ _ (by omega), c0.2.2.2.1, c1.2.2.2.1, nI_eq (by omega) (by omega)] at E3
    subst E0 E1 E2 E3
    refine ⟨_, rfl, (KpB.rf M).u _ _ _ (by omega), hB.ward1 hb (m := m) (fun k hk => uM_row _ _ _ _ hk) hm4 (fun k hk => up1_n _ _ _ (by omega)) (fun hw => ?_)⟩
    obtain ⟨a1, a2, a3, a4, a5, a6, a7⟩ := (RB_ex hB).2.2.1 m hw
    obtain ⟨-, -, -, ⟨cl0, x1, x2, -⟩, -⟩ := hW0.w hw
    obtain ⟨-, -, -, ⟨cl1, y1, y2, -⟩, -⟩ := hW1.w hw
    have e2 := (Ew m hw).2.1
    rw [up1_s, x2, y2] at e2
    have e3 := dec_eq (by omega) (by omega) e2
    have f : ∀ q, q ≠ 7 + 37 * m + 15 → up1 V0 (7 + 37 * m + 15) (V0 (7 + 37 * m + 15) - 1) q = V0 q := fun q a => up1_n _ _ _ a
    have fm : ∀ q, q ≠ 25 + 5 * m → uM M (25 + 5 * m) 5 (M (25 + 5 * m) 5 - 1) q = M q := fun q a => uM_row _ _ _ _ a
    have z0 : ∀ j, j ≠ 5 → uM M (25 + 5 * m) 5 (M (25 + 5 * m) 5 - 1) (17 + 8 + 5 * m) j = M (17 + 8 + 5 * m) j := fun j hj => uM_j _ _ _ _ hj
    refine ⟨?_, ?_, ?_, ?_, ?_, fun i h1 hi => ?_, fun y h1 hy => ?_⟩
    · rw [z0 0 (by decide), f _ (by omega)]; exact a1
    · rw [z0 1 (by decide), f _ (by omega)]; exact a2
    · rw [z0 2 (by decide), f _ (by omega)]; exact a3
    · show uM M (25 + 5 * m) 5 (M (25 + 5 * m) 5 - 1) (25 + 5 * m) 5 = _
      have a4' : M (25 + 5 * m) 5 = V0 (7 + 37 * m + 15) := a4
      rw [uM_s, up1_s, a4']
    · rw [z0 6 (by decide), f _ (by omega)]; exact a5
    · rw [f _ (by omega)] at h1
      rw [fm _ (by omega), fm _ (by omega), f (7 + 37 * m + 3 + 2 * i) (by omega), f (7 + 37 * m + 3 + 2 * i + 1) (by omega)]
      exact a6 i h1 hi
    · rw [up1_s, x2, e2, nI_ltI (by omega) (by omega)] at h1
      rw [fm _ (by omega), fm _ (by omega), f (7 + 37 * m + 16 + y) (by omega), f (7 + 37 * m + 26 + y) (by omega)]
      exact a7 y (by rw [x2]; exact nI_lt' (by omega) (by omega)) hy
  · have hm4 := hm2 (Or.inr (Or.inr rfl))
    rw [if_neg (by decide), if_neg (by decide), if_neg (by decide), if_neg (by decide), if_neg (by decide), if_neg (by decide), if_neg (by decide), if_neg (by decide), if_pos (by decide), gd_n hm4 (by decide), clN (by omega), lt_d]
    have eU : undoV (nI 8) (nI m) x V0 = up1 V0 (7 + 37 * m + 36) 0 := by
      show up1 V0 (7 + 37 * (nI m).toNatClampNeg + 36) 0 = _
      rw [clN (by omega)]
    rw [eU] at E0 E1 E2 E3 Ew ⊢
    rw [up1_n _ _ _ (by omega), c0.1, c1.1, nI_eq (by omega) (by omega)] at E0
    rw [up1_n _ _ _ (by omega), c0.2.1, c1.2.1, nI_eq (by omega) (by omega)] at E1
    rw [up1_n _ _ _ (by omega), c0.2.2.1, c1.2.2.1, nI_eq (by omega) (by omega)] at E2
    rw [up1_n _ _ _ (by omega), c0.2.2.2.1, c1.2.2.2.1, nI_eq (by omega) (by omega)] at E3
    subst E0 E1 E2 E3
    refine ⟨_, rfl, (KpB.rf M).u _ _ _ (by omega), hB.ward1 hb (m := m) (fun k hk => uM_row _ _ _ _ hk) hm4 (fun k hk => up1_n _ _ _ (by omega)) (fun hw => ?_)⟩
    obtain ⟨a1, a2, a3, a4, a5, a6, a7⟩ := (RB_ex hB).2.2.1 m hw
    have f : ∀ q, q ≠ 7 + 37 * m + 36 → up1 V0 (7 + 37 * m + 36) 0 q = V0 q := fun q a => up1_n _ _ _ a
    have fm : ∀ q, q ≠ 25 + 5 * m → uM M (25 + 5 * m) 6 0 q = M q := fun q a => uM_row _ _ _ _ a
    have z0 : ∀ j, j ≠ 6 → uM M (25 + 5 * m) 6 0 (17 + 8 + 5 * m) j = M (17 + 8 + 5 * m) j := fun j hj => uM_j _ _ _ _ hj
    refine ⟨?_, ?_, ?_, ?_, ?_, fun i h1 hi => ?_, fun y h1 hy => ?_⟩
    · rw [z0 0 (by decide), f _ (by omega)]; exact a1
    · rw [z0 1 (by decide), f _ (by omega)]; exact a2
    · rw [z0 2 (by decide), f _ (by omega)]; exact a3
    · rw [z0 5 (by decide), f _ (by omega)]; exact a4
    · rw [up1_s]; exact uM_s _ _ _ _
    · rw [f _ (by omega)] at h1
      rw [fm _ (by omega), fm _ (by omega), f (7 + 37 * m + 3 + 2 * i) (by omega), f (7 + 37 * m + 3 + 2 * i + 1) (by omega)]
      exact a6 i h1 hi
    · rw [f _ (by omega)] at h1
      rw [fm _ (by omega), fm _ (by omega), f (7 + 37 * m + 16 + y) (by omega), f (7 + 37 * m + 26 + y) (by omega)]
      exact a7 y h1 hy
end
