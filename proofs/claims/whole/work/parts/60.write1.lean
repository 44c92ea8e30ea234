/-! writes: guardian, bond, ward, change -/
theorem uM4 (M : xM) (k j : Nat) (v : Int32) : uM M k j v k = upd (M k) j v := by simp [uM]
theorem okA_mk (k m : Nat) (hk : k < 9) (hm : m < 40) (h1 : k = 1 → m < 3) (h2 : k = 3 ∨ k = 7 ∨ k = 8 → m < 4) : okA (nI k) (nI m) := ⟨k, m, hk, rfl, rfl, hm, h1, h2⟩
theorem c_isBond (M : xM) (d : Int32) : f_X10_isBond M d = some (pI (bndP d)) := by
  simp only [f_X10_isBond, b_X10_isBond_0, b_X10_isBond_15, b_X10_isBond_16, gz0, gz1, i_lt, i_le]
  have e0 : (0 : Int32).toInt = 0 := by decide
  have e1 : (999999 : Int32).toInt = 999999 := by decide
  rw [e0, e1]
  unfold pI bndP
  split <;> (try split) <;> (try split) <;> (first | rfl | omega)
theorem m_isBnd (N : xM) (d : Int32) : f_X11_in N d.toInt64 (0 : Int64) (999999 : Int64) = some (pI (bndP d)) := by
  rw [m_in, i_l, show (0 : Int64).toInt = 0 by decide, show (999999 : Int64).toInt = 999999 by decide]
theorem gd0 {β : Type} (o : Option β) : gd (0 : Int32) 495 o = o := gd_d (by decide) (by decide) o
theorem gd1 {β : Type} (o : Option β) : gd (1 : Int32) 495 o = o := gd_d (by decide) (by decide) o
theorem gd2 {β : Type} (o : Option β) : gd (2 : Int32) 495 o = o := gd_d (by decide) (by decide) o
theorem gd3 {β : Type} (o : Option β) : gd (3 : Int32) 495 o = o := gd_d (by decide) (by decide) o
theorem nI_ne' {a b : Nat} (h : a ≠ b) (ha : a < 2 ^ 31) (hb : b < 2 ^ 31) : ¬ nI a = nI b := fun z => h ((nI_eq ha hb).mp z)
section
variable {M N : xM} {V A : Nat → Int32} {ng nw ne no : Nat}
theorem BB.ralw (B : BB M N V A ng nw ne no) : RAlw M 17 N V ne no := fun i hi hp => by
  have q := B.k.2.2 i hi hp
  have q' : M (17 + 28 + i) 8 = A i := q
  have w := B.wf.e hi
  have d := kAlw_bd (sm := (N 3 1).toInt) B.wf hi
  rw [q', B.2.1]
  show (if V (155 + 7 * i) = 1 then oI (kAlw V (N 3 1).toInt ne no i) else 0).toInt = _
  rw [if_pos hp, oI_i (by omega) (by have := w.2.2.2.1.2; omega)]
theorem BB.rb (B : BB M N V A ng nw ne no) : RB M 17 V ng nw ne no := B.k.2.1.to
theorem RAlw.hi {Mb : xM} {W : Nat → Int32} (h : RAlw M 17 N V ne no) (hne : ne ≤ 40) (e : ∀ k, 155 ≤ k → W k = V k) (m : ∀ i, i < ne → Mb (45 + i) 8 = M (45 + i) 8) : RAlw Mb 17 N W ne no := fun i hi hp => by
  rw [kAlw_hi e]
  have q : Mb (17 + 28 + i) 8 = M (17 + 28 + i) 8 := m i hi
  rw [q]
  exact h i hi (by rw [← e _ (by omega)]; exact hp)
theorem m_guardW {N1 : xM} (h0 : N1 4 0 = nI ng) (c : ng < 3) (a : Int32) : ∃ N2, gd (0 : Int32) 495 (gd ((4 : Int32) + (N1 4 (0 : Int32).toNatClampNeg)) 495 (lt (uM N1 4 ((4 : Int32) + (N1 4 (0 : Int32).toNatClampNeg)).toNatClampNeg a) (fun M_12 => gd (0 : Int32) 495 (gd (0 : Int32) 495 (lt (uM M_12 4 (0 : Int32).toNatClampNeg ((M_12 4 (0 : Int32).toNatClampNeg) + (1 : Int32))) (fun M_15 => gd (0 : Int32) 495 (some ((M_15 4 (0 : Int32).toNatClampNeg) - (1 : Int32), M_15)))))))) = some (nI ng, N2) ∧ (∀ k, k ≠ 4 → N2 k = N1 k) ∧ N2 4 0 = nI (ng + 1) ∧ N2 4 (4 + ng) = a ∧ ∀ k, k ≠ 0 → k ≠ 4 + ng → N2 4 k = N1 4 k := by
  have e4 : (4 : Int32) + nI ng = nI (4 + ng) := nI_add 4 ng
  rw [gd_d (by decide) (by decide), cl0, h0, e4, gd_n (by omega) (by decide), clN (by omega), lt_d, gd_d (by decide) (by decide), gd_d (by decide) (by decide), uM_j _ _ _ _ (by omega), h0, lt_d, gd_d (by decide) (by decide), uM_s, nI_1, nI_pred]
  refine ⟨_, rfl, fun k hk => by rw [uM_row _ _ _ _ hk, uM_row _ _ _ _ hk], uM_s _ _ _ _, by rw [uM_j _ _ _ _ (by omega), uM_s], fun k a b => by rw [uM_j _ _ _ _ a, uM_j _ _ _ _ b]⟩
theorem c_guardian {M N : xM} (h : Rel M N) (a : Int32) : ∃ r M1 N1, f_X10_guardian M a = some (r, M1) ∧ f_X11_guardian N a = some (r, N1) ∧ Rel M1 N1 := by
  obtain ⟨N0, e1, S, V, A, ng, nw, ne, no, B⟩ := h.th
  have R := h.sn S
  unfold f_X10_guardian b_X10_guardian_0 f_X11_guardian b_X11_guardian_0
  rw [lt_d (uM N 0 0 0), e1, c_isBond, m_isBnd, bd_s, bd_s]
  by_cases c : bndP a
  rotate_left
  · rw [fp_f c, fp_f c]; exact R.refD 1 (by decide) (by decide)
  rw [fp_t c, fp_t c, gd0, cl0]
  have hb := B.bd
  have v0 : N0 4 0 = nI ng := B.wf4.c.1
  have m1 : M 17 1 = nI ng := B.rb.1
  rw [v0, m1]
  by_cases c2 : ng < 3
  rotate_left
  · have : ng = 3 := by omega
    subst this
    rw [if_neg (by decide), if_pos (by decide)]; exact R.refD 4 (by decide) (by decide)
  rw [if_pos (lE 3 3 rfl c2 (by decide)), if_neg (nE 3 3 rfl (by omega) (by decide)), gd_n c2 (by decide), clN (by omega), lt_d (uM M 19 ng a), lt_d, uM_row _ _ _ _ (by decide), m1, nI_1]
  generalize hMb : uM (uM M 19 ng a) 17 1 (nI (ng + 1)) = Mb
  have kb : KpB M Mb := by rw [← hMb]; exact ((KpB.rf M).u 19 ng a (by decide)).u 17 1 _ (by decide)
  obtain ⟨M1, N1, g1, g2, g3, g4, g5⟩ := R.act kb (a := 0) (n := 0) 0 (okA_mk 0 0 (by decide) (by decide) (by decide) (by decide))
  have n4 : N1 4 = V := (g4 4 (by decide) (by decide)).trans B.1
  obtain ⟨N2, q1, q2, q3, q4, q5⟩ := m_guardW (N1 := N1) (by rw [n4]; exact B.wf.c.1) c2 a
  have a1 : M1 17 1 = nI (ng + 1) := by rw [g3 17 (by decide) (by decide) (by decide) (by decide), ← hMb]; exact uM_s _ _ _ _
  rw [cl0] at q1
  rw [g1, bd_s, g2, bd_s, q1, a1, nI_pred]
  refine ⟨_, _, _, rfl, rfl, g5 N2 q2 ?_ ⟨ng + 1, nw, ne, no, ?_, ?_, ?_⟩⟩
  · rw [B.1]
    refine EqV_mk B.wf (EqF_D (fun k => k = 4 + ng) (fun k hk => ?_) (fun k h1 h2 => by omega) (fun g h1 h2 => by omega) (fun w hw => ⟨fun j hj h2 => by omega, fun h2 => by omega, fun h2 => by omega, fun i _ _ => ⟨fun h2 => by omega, fun h2 => by omega⟩, fun y _ _ => ⟨fun h2 => by omega, fun h2 => by omega⟩⟩) (fun i hi j hj h2 => by omega) (fun o ho j hj h2 => by omega))
    show up1 (N2 4) 0 (N2 4 0 - 1) k = V k
    by_cases e : k = 0
    · subst e; rw [up1_s, q3, nI_pred]; exact B.wf.c.1.symm
    · rw [up1_n _ _ _ e, q5 k e hk, n4]
  · obtain ⟨b, ⟨v0, v1, v2, v3⟩, hg, hw, he, ho⟩ := WF_ex B.wf
    have f : ∀ k, k ≠ 0 → k ≠ 4 + ng → N2 4 k = V k := fun k a b => by rw [q5 k a b, n4]
    refine WF_mk ⟨by omega, b.2⟩ ⟨q3, by rw [f 1 (by omega) (by omega)]; exact v1, by rw [f 2 (by omega) (by omega)]; exact v2, by rw [f 3 (by omega) (by omega)]; exact v3⟩ (fun g hg' => ?_) (fun w h => (hw w h).cg (by omega) (fun j hj => f _ (by omega) (by omega))) (fun i h => (he i h).cg (by omega) (fun j hj => f _ (by omega) (by omega))) (fun o h => (ho o h).cg (by omega) (fun j hj => f _ (by omega) (by omega)))
    by_cases e : g = ng
    · subst e; rw [q4]; exact c
    · rw [f _ (by omega) (by omega)]; exact hg g (by omega)
  · obtain ⟨⟨p1, p3, p5, p7⟩, hg, hw, he, ho⟩ := RB_ex B.rb
    have f : ∀ k, k ≠ 0 → k ≠ 4 + ng → N2 4 k = V k := fun k a b => by rw [q5 k a b, n4]
    have fm : ∀ k, k ≠ 17 → k ≠ 19 → Mb k = M k := fun k a b => by rw [← hMb, uM_row _ _ _ _ a, uM_row _ _ _ _ b]
    have f17 : ∀ j, j ≠ 1 → Mb 17 j = M 17 j := fun j a => by rw [← hMb, uM_j _ _ _ _ a, uM_row _ _ _ _ (by decide)]
    refine RB_mk ⟨by rw [← hMb]; exact uM_s _ _ _ _, by rw [f17 3 (by decide)]; exact p3, by rw [f17 5 (by decide)]; exact p5, by rw [f17 7 (by decide)]; exact p7⟩ (fun g hg' => ?_) (fun w h => (hw w h).cg (fun j hj => fm _ (by omega) (by omega)) (fun j hj => f _ (by omega) (by omega))) (fun i h => (he i h).cg (fun j hj => by rw [fm _ (by omega) (by omega)]) (fun j hj => f _ (by omega) (by omega)) (fun q hq => ⟨f _ (by omega) (by omega), f _ (by omega) (by omega)⟩)) (fun o h => (ho o h).cg (fm _ (by omega) (by omega)) (fun j hj => f _ (by omega) (by omega)))
    show Mb 19 g = _
    rw [← hMb, uM_row _ _ _ _ (by decide)]
    by_cases e : g = ng
    · subst e; rw [uM_s, q4]
    · rw [uM_j _ _ _ _ e, f _ (by omega) (by omega)]; exact hg g (by omega)
  · exact B.ralw.hi hb.2.2.1 (fun k hk => by rw [q5 k (by omega) (by omega), n4]) (fun i hi => by rw [← hMb, uM_row _ _ _ _ (by omega), uM_row _ _ _ _ (by omega)])
theorem c_bond {M N : xM} (h : Rel M N) (g0 a : Int32) : ∃ r M1 N1, f_X10_bond M g0 a = some (r, M1) ∧ f_X11_bond N g0 a = some (r, N1) ∧ Rel M1 N1 := by
  obtain ⟨N0, e1, S, V, A, ng, nw, ne, no, B⟩ := h.th
  have R := h.sn S
  unfold f_X10_bond b_X10_bond_0 f_X11_bond b_X11_bond_0
  rw [lt_d (uM N 0 0 0), e1, B.hG, B.iG, bd_s, bd_s]
  by_cases c0 : wP ng g0
  rotate_left
  · rw [fp_f c0, fp_f c0]; exact R.refD 0 (by decide) (by decide)
  rw [fp_t c0, fp_t c0, c_isBond, m_isBnd, bd_s, bd_s]
  by_cases c : bndP a
  rotate_left
  · rw [fp_f c, fp_f c]; exact R.refD 1 (by decide) (by decide)
  have hb := B.bd
  obtain ⟨g, hg, rfl⟩ := wP_of (by omega) c0
  have e4 : (4 : Int32) + nI g = nI (4 + g) := nI_add 4 g
  have r1 : M 19 g = V (4 + g) := B.rb.2.2.2.2.1 g hg
  rw [fp_t c, fp_t c, e4, gd_n (by omega) (by decide), gd_n (by omega) (by decide), clN (by omega), clN (by omega), r1, B.1, lt_d (V (4 + g)), lt_d (V (4 + g))]
  by_cases c2 : V (4 + g) = a
  · rw [if_pos c2, if_pos c2]; exact R.refD 3 (by decide) (by decide)
  rw [if_neg c2, if_neg c2, gd_n (by omega) (by decide), lt_d (uM M 19 g a)]
  generalize hMb : uM M 19 g a = Mb
  have kb : KpB M Mb := by rw [← hMb]; exact (KpB.rf M).u 19 g a (by decide)
  obtain ⟨M1, N1, g1, g2, g3, g4, g5⟩ := R.act kb (a := nI 1) (n := nI g) (V (4 + g)) (okA_mk 1 g (by decide) (by omega) (fun _ => by omega) (fun z => by omega))
  have n4 : N1 4 = V := (g4 4 (by decide) (by decide)).trans B.1
  have g1' : f_X0_note Mb 1 (nI g) (V (4 + g)) = some M1 := g1
  rw [g1', bd_s, g2, bd_s, gd_n (by omega) (by decide), lt_d (uM N1 4 (4 + g) a)]
  generalize hN2 : uM N1 4 (4 + g) a = N2
  have q2 : ∀ k, k ≠ 4 → N2 k = N1 k := fun k hk => by rw [← hN2]; exact uM_row _ _ _ _ hk
  have q4 : N2 4 (4 + g) = a := by rw [← hN2]; exact uM_s _ _ _ _
  have f : ∀ k, k ≠ 4 + g → N2 4 k = V k := fun k a => by rw [← hN2, uM_j _ _ _ _ a, n4]
  refine ⟨_, _, _, rfl, rfl, g5 N2 q2 ?_ ⟨ng, nw, ne, no, ?_, ?_, ?_⟩⟩
  · rw [B.1]
    refine EqV_mk B.wf (EqF_of hb (fun k hk => ?_))
    show up1 (N2 4) (4 + (nI g).toNatClampNeg) (V (4 + g)) k = V k
    rw [clN (by omega)]
    by_cases e : k = 4 + g
    · subst e; rw [up1_s]
    · rw [up1_n _ _ _ e, f k e]
  · obtain ⟨b, ⟨v0, v1, v2, v3⟩, hg0, hw, he, ho⟩ := WF_ex B.wf
    refine WF_mk b ⟨by rw [f 0 (by omega)]; exact v0, by rw [f 1 (by omega)]; exact v1, by rw [f 2 (by omega)]; exact v2, by rw [f 3 (by omega)]; exact v3⟩ (fun g' hg' => ?_) (fun w h => (hw w h).cg (by omega) (fun j hj => f _ (by omega))) (fun i h => (he i h).cg (by omega) (fun j hj => f _ (by omega))) (fun o h => (ho o h).cg (by omega) (fun j hj => f _ (by omega)))
    by_cases e : g' = g
    · subst e; rw [q4]; exact c
    · rw [f _ (by omega)]; exact hg0 g' (by omega)
  · obtain ⟨p, hg0, hw, he, ho⟩ := RB_ex B.rb
    have fm : ∀ k, k ≠ 19 → Mb k = M k := fun k b => by rw [← hMb, uM_row _ _ _ _ b]
    refine RB_mk (by rw [fm 17 (by decide)]; exact p) (fun g' hg' => ?_) (fun w h => (hw w h).cg (fun j hj => fm _ (by omega)) (fun j hj => f _ (by omega))) (fun i h => (he i h).cg (fun j hj => by rw [fm _ (by omega)]) (fun j hj => f _ (by omega)) (fun q hq => ⟨f _ (by omega), f _ (by omega)⟩)) (fun o h => (ho o h).cg (fm _ (by omega)) (fun j hj => f _ (by omega)))
    show Mb 19 g' = _
    rw [← hMb]
    by_cases e : g' = g
    · subst e; rw [uM_s, q4]
    · rw [uM_j _ _ _ _ e, f _ (by omega)]; exact hg0 g' (by omega)
  · exact B.ralw.hi hb.2.2.1 (fun k hk => f k (by omega)) (fun i hi => by rw [← hMb, uM_row _ _ _ _ (by omega)])
end
