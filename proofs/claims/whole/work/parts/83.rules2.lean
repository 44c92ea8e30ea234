/-! fault, rules, end -/
theorem fWi_bd : ∀ k, k < 7 → (fLo k).toInt ≤ (fWi k).toInt ∧ (fWi k).toInt ≤ (fHi k).toInt := by decide +kernel
theorem c_forget (M : xM) : ∃ W, f_X6_forget M = some W ∧ K345 M W ∧ W 3 2 = 0 ∧ ∀ k, k < 7 → W 4 k = fWi k ∧ W 5 k = 0 := by
  unfold f_X6_forget b_X6_forget_0 b_X6_forget_7
  rw [lt_d]
  obtain ⟨W, h1, h2, h3⟩ := loopN_inv (body := fun s : xM × Int32 => bl_X6_forget_7 s.1 s.2) (fun i s => s.2 = nI i ∧ (∀ k, k ≠ 4 → k ≠ 5 → s.1 k = uM M 3 2 0 k) ∧ ∀ k, k < i → s.1 4 k = fWi k ∧ s.1 5 k = 0) (fun W => (∀ k, k ≠ 4 → k ≠ 5 → W k = uM M 3 2 0 k) ∧ ∀ k, k < 7 → W 4 k = fWi k ∧ W 5 k = 0) 7 (by
      rintro i ⟨W, y⟩ hi ⟨h1, h2, h3⟩
      dsimp only at h1 h2 h3
      subst h1
      dsimp only
      unfold bl_X6_forget_7
      rw [if_neg (gE 7 7 rfl hi (by decide)), gd_n hi (by decide), gd_n hi (by decide), clN (by omega), lt_d, gd_n hi (by decide), lt_d, lt_d, nI_1]
      refine ⟨_, rfl, rfl, fun k a b => ?_, fun k hk => ?_⟩
      · dsimp only
        rw [uM_row _ _ _ _ b, uM_row _ _ _ _ a]; exact h2 k a b
      · dsimp only
        rw [uM_row _ _ _ _ (by decide), uM4, uM4, uM_row _ _ _ _ (by decide)]
        by_cases e : k = i
        · subst e; rw [pk_us, pk_us]; exact ⟨rfl, rfl⟩
        · rw [pk_un e, pk_un e]; exact h3 k (by omega)) (by
      rintro ⟨W, y⟩ ⟨h1, h2, h3⟩
      dsimp only at h1 h2 h3
      subst h1
      dsimp only
      unfold bl_X6_forget_7
      rw [if_pos (by decide)]
      exact ⟨_, rfl, h2, h3⟩) (uM M 3 2 0, 0) BG ⟨rfl, fun _ _ _ => rfl, fun k hk => absurd hk (Nat.not_lt_zero k)⟩ (BG_lt (by omega))
  rw [h1, bd_s]
  exact ⟨W, rfl, fun k a b c => by rw [h2 k b c, uM_row _ _ _ _ a], by rw [h2 3 (by decide) (by decide)]; exact uM_s _ _ _ _, h3⟩
section
variable {M N : xM} {T : Nat → Int32} {n : Nat}
theorem m_tells {X : xM} {R : Nat → Int32} {a fr wr pt nm ln : Int32} (x : MS N X R a fr wr pt nm ln) : ∃ X' R', f_X11_tellsNone X 2 = some X' ∧ MS N X' R' a fr wr pt nm ln ∧ ∀ k, k < 7 → R' k = fWi k := by
  unfold f_X11_tellsNone b_X11_tellsNone_0 b_X11_tellsNone_2
  obtain ⟨W, h1, R', h2, h3⟩ := loopN_inv (body := fun s : xM × Int32 => bl_X11_tellsNone_2 s.1 2 s.2) (fun i s => s.2 = nI i ∧ ∃ R', MS N s.1 R' a fr wr pt nm ln ∧ ∀ k, k < i → R' k = fWi k) (fun W => ∃ R', MS N W R' a fr wr pt nm ln ∧ ∀ k, k < 7 → R' k = fWi k) 7 (by
      rintro i ⟨W, y⟩ hi ⟨h1, R', h2, h3⟩
      dsimp only at h1 h2 h3
      subst h1
      dsimp only
      unfold bl_X11_tellsNone_2
      rw [if_neg (gE 7 7 rfl hi (by decide)), gd_n hi (by decide), gd_n hi (by decide), clN (by omega), lt_d, lt_d, nI_1]
      refine ⟨_, rfl, rfl, _, h2.r2 i (fWi i), fun k hk => ?_⟩
      by_cases e : k = i
      · subst e; rw [pk_us]
      · rw [pk_un e]; exact h3 k (by omega)) (by
      rintro ⟨W, y⟩ ⟨h1, h2⟩
      dsimp only at h1 h2
      subst h1
      dsimp only
      unfold bl_X11_tellsNone_2
      rw [if_pos (by decide)]
      exact ⟨_, rfl, h2⟩) (X, 0) BG ⟨rfl, R, x, fun k hk => absurd hk (Nat.not_lt_zero k)⟩ (BG_lt (by omega))
  rw [h1, bd_s]
  exact ⟨W, R', rfl, h2, h3⟩
theorem c_first (t : TpC M T n) (h : TpM N T n) : ∃ r W X, f_X6_firstFault M = some (r, W) ∧ f_X11_readsRules N = some (r, X) ∧ FIN M N W X r := by
  have h0 := t.1
  obtain ⟨W, w1, w2, w3, w4⟩ := c_forget M
  have tW := w2.tp t
  have m0 : MS N N (N 2) (N 0 3) (N 0 4) (N 0 5) (N 0 6) (N 0 7) (N 0 10) := ⟨fun _ _ _ => rfl, fun _ _ _ _ _ _ _ => rfl, rfl, rfl, rfl, rfl, rfl, rfl, rfl⟩
  have m1 := (m0.s3 0).s5 (-1)
  obtain ⟨X1, R, x1, x2, x3⟩ := m_tells m1
  obtain ⟨X2, y1, y2⟩ := m_next h (p := 0) (by omega) x2
  have hb := bl_bd T (show 0 ≤ n by omega)
  have y3 := y2.s10 0
  have pb := c_pastBlanks tW (show 0 ≤ n by omega)
  have pb' : f_X7_pastBlanks W 0 = some (nI (bl T n 0)) := pb
  unfold f_X6_firstFault b_X6_firstFault_0 b_X6_firstFault_22 f_X11_readsRules b_X11_readsRules_0 b_X11_readsRules_40 b_X11_readsRules_41
  rw [w1, bd_s, pb', bd_s, tW.2.1, lt_d (uM N 0 3 0), lt_d (uM (uM N 0 3 0) 0 5 (-1)), x1, bd_s, y1, bd_s, lt_d (uM X2 0 10 0), y3.2.2.2.2.2.2.1]
  by_cases c0 : bl T n 0 = n
  · have p0 : ptF T n (bl T n 0) = 0 := if_neg (by omega)
    rw [p0] at y3 ⊢
    rw [if_pos (show nI (bl T n 0) = nI n by rw [c0]), if_pos (show nI 0 = (0 : Int32) from rfl)]
    have over : loopN (fun s : xM × Int32 × Int32 => bl_X11_readsRules_41 s.1 s.2.1 s.2.2) BG (uM X2 0 10 0, 0, 0) = some (uM X2 0 10 0) := by
      have : (fun s : xM × Int32 × Int32 => bl_X11_readsRules_41 s.1 s.2.1 s.2.2) (uM X2 0 10 0, 0, 0) = some (.inr (uM X2 0 10 0)) := by
        show bl_X11_readsRules_41 (uM X2 0 10 0) 0 0 = _
        unfold bl_X11_readsRules_41
        rw [if_pos rfl]
      exact loopN_r (n := 99999) this
    unfold b_X11_readsRules_127
    rw [over, bd_s, y3.2.2.2.2.2.1, if_pos rfl, y3.2.2.2.2.2.2.1, if_pos (by decide)]
    exact ⟨_, _, _, rfl, rfl, w2, _, _, _, _, _, _, _, y3, fun _ => ⟨fun k hk => ⟨by rw [(w4 k hk).1, x3 k hk], by rw [x3 k hk]; exact (fWi_bd k hk).1, by rw [x3 k hk]; exact (fWi_bd k hk).2⟩, w3⟩⟩
  · have he : bl T n 0 < n := by omega
    have pn : ¬ nI (ptF T n (bl T n 0)) = 0 := by
      have : ptF T n (bl T n 0) = 1 ∨ ptF T n (bl T n 0) = 2 ∨ ptF T n (bl T n 0) = 3 := by
        show (if bl T n 0 < n then _ else _) = 1 ∨ (if bl T n 0 < n then _ else _) = 2 ∨ (if bl T n 0 < n then _ else _) = 3
        rw [if_pos he]
        by_cases c2 : smP T (bl T n 0)
        · rw [if_pos c2]; exact Or.inl rfl
        · rw [if_neg c2]
          by_cases c3 : dgP T (bl T n 0)
          · rw [if_pos c3]; exact Or.inr (Or.inl rfl)
          · rw [if_neg c3]; exact Or.inr (Or.inr rfl)
      rcases this with z | z | z <;> rw [z] <;> decide
    rw [if_neg (nI_ne' c0 (by omega) (by omega)), if_neg pn]
    obtain ⟨Z, X9, r, W9, X10, g1, g2, g3, g4, g5⟩ := c_lines t h 8 0 0 (bl T n 0) W (uM X2 0 10 0) R _ BG BG (by omega) (by decide) (by omega) hb.2 w2 ⟨fun k hk => ⟨by rw [(w4 k hk).1, x3 k hk], by rw [x3 k hk]; exact (fWi_bd k hk).1, by rw [x3 k hk]; exact (fWi_bd k hk).2⟩, fun k hk => by rw [(w4 k hk).2, Nat.zero_testBit]; rfl, w3⟩ y3 (BG_lt (by omega)) (BG_lt (by omega))
    have g1' : loopN (fun s : xM × Int32 × Int32 => bl_X6_firstFault_22 s.1 s.2.1 s.2.2) BG (W, nI (bl T n 0), 0) = some Z := g1
    have g3' : loopN (fun s : xM × Int32 × Int32 => bl_X11_readsRules_41 s.1 s.2.1 s.2.2) BG (uM X2 0 10 0, 0, 1) = some X9 := g3
    rw [g1', bd_s, g3', bd_s]
    refine ⟨r, W9, X10, g2, g4, g5⟩
end
theorem K345.sm {M W : xM} (h : K345 M W) : SameM M W := fun k a b c d => h k (by omega) (by omega) (by omega)
theorem MS.sn {N X : xM} {R : Nat → Int32} {a fr wr pt nm ln : Int32} (x : MS N X R a fr wr pt nm ln) : SameN N X :=
  ⟨x.2.1 2 (by decide) (by decide) (by decide) (by decide) (by decide) (by decide), x.2.1 13 (by decide) (by decide) (by decide) (by decide) (by decide) (by decide), x.2.1 15 (by decide) (by decide) (by decide) (by decide) (by decide) (by decide), x.1 1 (by decide) (by decide), x.1 3 (by decide) (by decide), x.1 4 (by decide) (by decide), x.1 5 (by decide) (by decide), x.1 6 (by decide) (by decide), x.1 7 (by decide) (by decide)⟩
theorem Rel.tp {M N : xM} (h : Rel M N) : ∃ T n, TpC M T n ∧ TpM N T n := by
  obtain ⟨⟨n, h0, h1, h2, h3⟩, -⟩ := h
  refine ⟨N 1, n, ⟨h0, h1, fun i hi => (h3 i hi).1⟩, h0, h2, fun i hi => ⟨rfl, ?_⟩⟩
  obtain ⟨c, c1, c2, c3⟩ := (h3 i hi).2
  rw [c3, nI_toInt (by omega)]
  omega
theorem c_fault {M N : xM} (h : Rel M N) : ∃ r M1 N1, f_X10_fault M = some (r, M1) ∧ f_X11_fault N = some (r, N1) ∧ SameM M M1 ∧ SameN N N1 := by
  have S := SameN.th N 0
  have R := h.sn S
  unfold f_X10_fault b_X10_fault_0 f_X11_fault b_X11_fault_0
  rw [lt_d (uM N 0 0 0)]
  generalize uM N 0 0 0 = N0 at *
  obtain ⟨T, n, t1, t2⟩ := R.tp
  obtain ⟨r, W, X, w1, x1, k, R', a, fr, wr, pt, nm, ln, m, -⟩ := c_first t1 t2
  rw [w1, bd2_s, x1, bd2_s]
  exact ⟨_, _, _, rfl, rfl, k.sm, S.tr m.sn⟩
theorem WF_0 {V : Nat → Int32} (h : ∀ k, k < 495 → V k = 0) : WF V 0 0 0 0 :=
  WF_mk ⟨by omega, by omega, by omega, by omega⟩ ⟨h 0 (by omega), h 1 (by omega), h 2 (by omega), h 3 (by omega)⟩ (fun g hg => absurd hg (Nat.not_lt_zero g)) (fun g hg => absurd hg (Nat.not_lt_zero g)) (fun g hg => absurd hg (Nat.not_lt_zero g)) (fun g hg => absurd hg (Nat.not_lt_zero g))
theorem RB_0 {M : xM} {b : Nat} {V : Nat → Int32} (c : M b 1 = 0 ∧ M b 3 = 0 ∧ M b 5 = 0 ∧ M b 7 = 0) : RB M b V 0 0 0 0 :=
  RB_mk c (fun g hg => absurd hg (Nat.not_lt_zero g)) (fun g hg => absurd hg (Nat.not_lt_zero g)) (fun g hg => absurd hg (Nat.not_lt_zero g)) (fun g hg => absurd hg (Nat.not_lt_zero g))
theorem c_rules {M N : xM} (h : Rel M N) : ∃ r M1 N1, f_X10_rules M = some (r, M1) ∧ f_X11_rules N = some (r, N1) ∧ Rel M1 N1 := by
  have S := SameN.th N 0
  have R := h.sn S
  unfold f_X10_rules b_X10_rules_0 f_X11_rules b_X11_rules_0 b_X11_rules_22 b_X11_rules_48
  rw [lt_d (uM N 0 0 0)]
  generalize uM N 0 0 0 = N0 at *
  obtain ⟨T, n, t1, t2⟩ := R.tp
  obtain ⟨r, W, X, w1, x1, k, R', a, fr, wr, pt, nm, ln, m, fin⟩ := c_first t1 t2
  have RW := (R.sm k.sm).sn m.sn
  rw [w1, bd2_s, x1, bd2_s]
  by_cases c : r = -1
  rotate_left
  · rw [if_neg c, if_neg c]
    exact ⟨_, _, _, rfl, rfl, RW⟩
  obtain ⟨f1, f2⟩ := fin c
  rw [if_pos c, if_pos c]
  unfold f_X1_beginAnew b_X1_beginAnew_0 f_X0_forgetAll b_X0_forgetAll_0
  rw [lt_d (uC W 4 18 7), lt_d, lt_d, lt_d, lt_d, bd_s, lt_d, bd_s, lt_d, lt_d]
  generalize hM : uM (uM (uM (uM (uM (uM (uM (uC W 4 18 7) 17 1 0) 17 3 0) 17 5 0) 17 7 0) 6 0 0) 0 4 0) 1 1 0 = M1
  have g : ∀ q, q ≠ 0 → q ≠ 1 → q ≠ 6 → q ≠ 17 → q ≠ 18 → M1 q = W q := fun q a b c d e => by rw [← hM, uM_row _ _ _ _ b, uM_row _ _ _ _ a, uM_row _ _ _ _ c, uM_row _ _ _ _ d, uM_row _ _ _ _ d, uM_row _ _ _ _ d, uM_row _ _ _ _ d, uC_row _ _ _ _ e]
  have g18 : ∀ q, q < 7 → M1 18 q = W 4 q := fun q hq => by rw [← hM, uM_row _ _ _ _ (by decide), uM_row _ _ _ _ (by decide), uM_row _ _ _ _ (by decide), uM_row _ _ _ _ (by decide), uM_row _ _ _ _ (by decide), uM_row _ _ _ _ (by decide), uM_row _ _ _ _ (by decide), uC_at _ _ _ _ hq]
  have g6 : M1 6 0 = 0 := by rw [← hM, uM_row _ _ _ _ (by decide), uM_row _ _ _ _ (by decide), uM_s]
  have g04 : M1 0 4 = 0 := by rw [← hM, uM_row _ _ _ _ (by decide), uM_s]
  have g11 : M1 1 1 = 0 := by rw [← hM, uM_s]
  have g17 : M1 17 1 = 0 ∧ M1 17 3 = 0 ∧ M1 17 5 = 0 ∧ M1 17 7 = 0 := by
    rw [← hM, uM_row _ _ _ _ (by decide), uM_row _ _ _ _ (by decide), uM_row _ _ _ _ (by decide)]
    exact ⟨by rw [uM_j _ _ _ _ (by decide), uM_j _ _ _ _ (by decide), uM_j _ _ _ _ (by decide), uM_s], by rw [uM_j _ _ _ _ (by decide), uM_j _ _ _ _ (by decide), uM_s], by rw [uM_j _ _ _ _ (by decide), uM_s], by rw [uM_s]⟩
  -- the reference
  rw [lt_d (uM X 0 2 0)]
  obtain ⟨Y, y1, y2, y3⟩ := loopN_inv (body := fun s : xM × Int32 => bl_X11_rules_22 s.1 s.2) (fun i s => s.2 = nI i ∧ Bt (uM X 0 2 0) s.1 3 ∧ ∀ k, k < i → s.1 3 k = R' k) (fun Y => Bt (uM X 0 2 0) Y 3 ∧ ∀ k, k < 7 → Y 3 k = R' k) 7 (by
      rintro i ⟨Y, y⟩ hi ⟨h1, h2, h3⟩
      dsimp only at h1 h2 h3
      subst h1
      dsimp only
      unfold bl_X11_rules_22
      rw [if_neg (gE 7 7 rfl hi (by decide)), gd_n hi (by decide), gd_n hi (by decide), clN (by omega), h2 2 (by decide), uM_row _ _ _ _ (by decide), m.2.2.1, lt_d, lt_d, nI_1]
      refine ⟨_, rfl, rfl, h2.u _ _, fun k hk => ?_⟩
      dsimp only
      by_cases e : k = i
      · subst e; exact uM_s _ _ _ _
      · rw [uM_j _ _ _ _ e]; exact h3 k (by omega)) (by
      rintro ⟨Y, y⟩ ⟨h1, h2, h3⟩
      dsimp only at h1 h2 h3
      subst h1
      dsimp only
      unfold bl_X11_rules_22
      rw [if_pos (by decide)]
      exact ⟨_, rfl, h2, h3⟩) (uM X 0 2 0, 0) BG ⟨rfl, Bt.rf _ 3, fun k hk => absurd hk (Nat.not_lt_zero k)⟩ (BG_lt (by omega))
  rw [y1, bd_s]
  obtain ⟨Z, z1, z2, z3⟩ := loopN_inv (body := fun s : xM × Int32 => bl_X11_rules_48 s.1 s.2) (fun i s => s.2 = nI i ∧ Bt Y s.1 4 ∧ ∀ k, k < i → s.1 4 k = 0) (fun Z => Bt Y Z 4 ∧ ∀ k, k < 495 → Z 4 k = 0) 495 (by
      rintro i ⟨Z, y⟩ hi ⟨h1, h2, h3⟩
      dsimp only at h1 h2 h3
      subst h1
      dsimp only
      unfold bl_X11_rules_48
      rw [if_neg (gE 495 495 rfl hi (by decide)), gd_n hi (by decide), clN (by omega), lt_d, lt_d, nI_1]
      refine ⟨_, rfl, rfl, h2.u _ _, fun k hk => ?_⟩
      dsimp only
      by_cases e : k = i
      · subst e; exact uM_s _ _ _ _
      · rw [uM_j _ _ _ _ e]; exact h3 k (by omega)) (by
      rintro ⟨Z, y⟩ ⟨h1, h2, h3⟩
      dsimp only at h1 h2 h3
      subst h1
      dsimp only
      unfold bl_X11_rules_48
      rw [if_pos (by decide)]
      exact ⟨_, rfl, h2, h3⟩) (Y, 0) BG ⟨rfl, Bt.rf Y 4, fun k hk => absurd hk (Nat.not_lt_zero k)⟩ (BG_lt (by omega))
  rw [z1, bd_s, lt_d, lt_d]
  generalize hN : uM (uM Z 0 13 0) 0 15 0 = N1
  have q : ∀ k, k ≠ 0 → k ≠ 3 → k ≠ 4 → N1 k = X k := fun k a b c => by rw [← hN, uM_row _ _ _ _ a, uM_row _ _ _ _ a, z2 k c, y2 k b, uM_row _ _ _ _ a]
  have q3 : ∀ k, k < 7 → N1 3 k = R' k := fun k hk => by rw [← hN, uM_row _ _ _ _ (by decide), uM_row _ _ _ _ (by decide), z2 3 (by decide)]; exact y3 k hk
  have q4 : ∀ k, k < 495 → N1 4 k = 0 := fun k hk => by rw [← hN, uM_row _ _ _ _ (by decide), uM_row _ _ _ _ (by decide)]; exact z3 k hk
  have q013 : N1 0 13 = 0 := by rw [← hN, uM_j _ _ _ _ (by decide), uM_s]
  have q015 : N1 0 15 = 0 := by rw [← hN, uM_s]
  have q02 : N1 0 2 = 0 := by rw [← hN, uM_j _ _ _ _ (by decide), uM_j _ _ _ _ (by decide), z2 0 (by decide), y2 0 (by decide), uM_s]
  have q010 : N1 0 10 = ln := by rw [← hN, uM_j _ _ _ _ (by decide), uM_j _ _ _ _ (by decide), z2 0 (by decide), y2 0 (by decide), uM_j _ _ _ _ (by decide)]; exact m.2.2.2.2.2.2.2.2
  have hq := RW.2.2.1
  rw [q010, g 3 (by decide) (by decide) (by decide) (by decide) (by decide), f2]
  refine ⟨_, _, _, rfl, rfl, ⟨0, by omega, g11, q02, fun i hi => absurd hi (Nat.not_lt_zero i)⟩, fun k hk => by rw [g18 k hk, q3 k hk]; exact f1 k hk, fun r hr => by rw [g 10 (by decide) (by decide) (by decide) (by decide) (by decide), q 7 (by decide) (by decide) (by decide)]; exact hq r hr, ⟨0, by omega, g6, q013, fun j hj => absurd hj (Nat.not_lt_zero j)⟩, ⟨0, 0, 0, 0, WF_0 q4, RB_0 g17, fun i hi => absurd hi (Nat.not_lt_zero i)⟩, by rw [g04, q015], Or.inl q015⟩
theorem c_end {M N : xM} (h : Rel M N) (a : Int32) : ∃ r M1 N1, f_X10_end M a = some (r, M1) ∧ f_X11_end N a = some (r, N1) ∧ Rel M1 N1 := by
  have S := SameN.th N 0
  have R := h.sn S
  unfold f_X10_end b_X10_end_0 b_X10_end_15 f_X11_end b_X11_end_0
  rw [lt_d (uM N 0 0 0)]
  generalize uM N 0 0 0 = N0 at *
  have R' := R
  obtain ⟨⟨n, h0, h1, h2, h3⟩, hr, hq, ⟨c, c0, c1, c2, c3⟩, ⟨ng, nw, ne, no, b1, b2, b3⟩, i1, i2⟩ := R
  rw [h2, m_in, i_l, i_l, bd_s, h1, nI_toInt (by omega), show (0 : Int64).toInt = 0 by decide]
  by_cases e1 : a < 0
  · rw [if_pos e1]
    rw [i_lt, i0] at e1
    rw [fp_f (fun z => by omega)]
    exact ⟨_, _, _, rfl, rfl, R'⟩
  rw [if_neg e1]
  rw [i_lt, i0] at e1
  by_cases e2 : a ≤ nI n
  rotate_left
  · rw [if_neg e2]
    rw [i_le, nI_toInt (by omega)] at e2
    rw [fp_f (fun z => by omega)]
    exact ⟨_, _, _, rfl, rfl, R'⟩
  rw [if_pos e2]
  rw [i_le, nI_toInt (by omega)] at e2
  rw [fp_t ⟨by omega, e2⟩, lt_d, lt_d]
  obtain ⟨k, k1, rfl, k2⟩ := nI_of0 (a := a) (by omega)
  have f : ∀ q, q ≠ 1 → uM M 1 1 (nI k) q = M q := fun q a => uM_row _ _ _ _ a
  have g : ∀ q, q ≠ 0 → uM N0 0 2 (nI k) q = N0 q := fun q a => uM_row _ _ _ _ a
  have g0 : ∀ j, j ≠ 2 → uM N0 0 2 (nI k) 0 j = N0 0 j := fun j a => uM_j _ _ _ _ a
  have hs : ∀ j, snap (uM N0 0 2 (nI k)) c j = snap N0 c j := fun j => by unfold snap; rw [g 4 (by omega), g 5 (by omega)]
  refine ⟨_, _, _, rfl, rfl, ⟨k, by omega, uM_s _ _ _ _, uM_s _ _ _ _, fun i hi => by rw [f 2 (by omega), g 1 (by omega)]; exact h3 i (by omega)⟩, fun k hk => by rw [f 18 (by omega), g 3 (by omega)]; exact hr k hk, fun r hh => by rw [f 10 (by omega), g 7 (by omega)]; exact hq r hh,
    ⟨c, c0, by rw [f 6 (by omega)]; exact c1, by rw [g0 13 (by omega)]; exact c2, fun j hj => by rw [f 7 (by omega), f 8 (by omega), f 9 (by omega), hs, hs]; exact c3 j hj⟩, ⟨ng, nw, ne, no, by rw [g 4 (by omega)]; exact b1, by rw [g 4 (by omega)]; exact b2.kp b1.bd (fun k q1 q2 q3 q4 => f k (by omega)), fun i hi hp => ?_⟩, by rw [f 0 (by omega), g0 15 (by omega)]; exact i1, ?_⟩
  · rw [g 4 (by omega)] at hp ⊢
    rw [f _ (by omega), g 3 (by omega)]; exact b3 i hi hp
  · rw [g0 15 (by omega), g 6 (by omega)]
    rcases i2 with i2 | ⟨i2, ng', nw', ne', no', d1, d2, d3⟩
    · exact Or.inl i2
    · exact Or.inr ⟨i2, ng', nw', ne', no', d1, d2.kp d1.bd (fun k q1 q2 q3 q4 => f k (by omega)), fun i hi hp => by rw [f _ (by omega), g 3 (by omega)]; exact d3 i hi hp⟩
