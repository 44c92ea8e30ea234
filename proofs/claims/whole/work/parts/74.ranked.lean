/-! ranked, most -/
section
variable {M N : xM} {V A : Nat → Int32} {ng nw ne no : Nat}
def kRk (V s : Nat → Int32) (ng g : Nat) : Int32 := sI (fun o => if wrsP V s o g then 1 else 0) ng
theorem kRk_bd (V s : Nat → Int32) {ng g : Nat} (hn : ng ≤ 3) (hg : g < ng) : 0 ≤ (kRk V s ng g).toInt ∧ (kRk V s ng g).toInt < ng := by
  have key : ∀ n, n ≤ 3 → (sI (fun o => if wrsP V s o g then (1 : Int32) else 0) n).toInt ≥ 0 ∧ (sI (fun o => if wrsP V s o g then (1 : Int32) else 0) n).toInt + (if g < n then 1 else 0) ≤ n := by
    intro n
    induction n with
    | zero => intro _; exact ⟨by rw [sI, i0]; omega, by rw [sI, i0, if_neg (by omega)]; omega⟩
    | succ n ih =>
      intro hn
      obtain ⟨h1, h2⟩ := ih (by omega)
      have h3 : (sI (fun o => if wrsP V s o g then (1 : Int32) else 0) n).toInt ≤ n := by
        split at h2 <;> omega
      rw [sI]
      by_cases c : wrsP V s n g
      · have e : g ≠ n := fun z => wrs_irr V s g (by rw [← z] at c; exact c)
        rw [if_pos c, i_add (by rw [i1]; omega) (by rw [i1]; omega), i1]
        refine ⟨by omega, ?_⟩
        by_cases c2 : g < n
        · rw [if_pos c2] at h2; rw [if_pos (by omega)]; omega
        · rw [if_neg (by omega)]; omega
      · rw [if_neg c, Int32.add_zero]
        refine ⟨h1, ?_⟩
        split <;> omega
  obtain ⟨h1, h2⟩ := key ng hn
  rw [if_pos hg] at h2
  exact ⟨h1, by unfold kRk; omega⟩
theorem c_rowS (B : BB M N V A ng nw ne no) {d : Nat} (hd : d < 3600) (k : Int32) : ∃ W, loopN (fun s : xM × Int32 => bl_X10_ranked_26 s.1 (nI d) k s.2) BG (M, 0) = some W ∧ SameM M W ∧ ∀ j, j < ng → W 16 j = kShort V A ne nw (M 18 6) j d := by
  have hb := B.bd
  obtain ⟨W, h1, h2, h3⟩ := loopN_inv (body := fun s : xM × Int32 => bl_X10_ranked_26 s.1 (nI d) k s.2) (fun i s => s.2 = nI i ∧ SameM M s.1 ∧ ∀ j, j < i → s.1 16 j = kShort V A ne nw (M 18 6) j d) (fun W => SameM M W ∧ ∀ j, j < ng → W 16 j = kShort V A ne nw (M 18 6) j d) ng (by
      rintro i ⟨W, y⟩ hi ⟨h1, h2, h3⟩
      dsimp only at h1 h2 h3
      subst h1
      dsimp only
      obtain ⟨W2, t1, t2⟩ := c_shortOf (B.sm h2) hi hd
      rw [h2 18 (by decide) (by decide) (by decide) (by decide)] at t1
      unfold bl_X10_ranked_26
      rw [(B.sm h2).rb.1, if_neg (nI_ge hi (by omega)), t1, bd2_s, gd_n (by omega) (by decide), clN (by omega), lt_d, lt_d, nI_1]
      refine ⟨_, rfl, rfl, (h2.bt t2 (by omega)).sc 16 _ _ (by omega), fun j hj => ?_⟩
      dsimp only
      by_cases e : j = i
      · subst e; exact uM_s _ _ _ _
      · rw [uM_j _ _ _ _ e, t2 16 (by decide)]; exact h3 j (by omega)) (by
      rintro ⟨W, y⟩ ⟨h1, h2, h3⟩
      dsimp only at h1 h2 h3
      subst h1
      dsimp only
      unfold bl_X10_ranked_26
      rw [(B.sm h2).rb.1, if_pos (Int32.le_refl _)]
      exact ⟨_, rfl, h2, h3⟩) (M, 0) BG ⟨rfl, SameM.rf M, fun j hj => absurd hj (Nat.not_lt_zero j)⟩ (BG_lt (by omega))
  exact ⟨W, h1, h2, h3⟩
theorem m_rowS (B : BB M N V A ng nw ne no) {d : Nat} (hd : d < 3600) (k : Int32) : ∃ W, loopN (fun s : xM × Int32 => bl_X11_ranked_16 s.1 (nI d) k s.2) BG (N, 0) = some W ∧ SameN N W ∧ ∀ j, j < ng → W 14 j = kShort V A ne nw (M 18 6) j d := by
  have hb := B.bd
  obtain ⟨W, h1, h2, h3⟩ := loopN_inv (body := fun s : xM × Int32 => bl_X11_ranked_16 s.1 (nI d) k s.2) (fun i s => s.2 = nI i ∧ SameN N s.1 ∧ ∀ j, j < i → s.1 14 j = kShort V A ne nw (M 18 6) j d) (fun W => SameN N W ∧ ∀ j, j < ng → W 14 j = kShort V A ne nw (M 18 6) j d) ng (by
      rintro i ⟨W, y⟩ hi ⟨h1, h2, h3⟩
      dsimp only at h1 h2 h3
      subst h1
      dsimp only
      obtain ⟨W2, t1, t2⟩ := m_shortOf (B.sn h2) hi hd
      unfold bl_X11_ranked_16
      rw [gd0, cl0, (B.sn h2).wf4.c.1, if_neg (nI_ge hi (by omega)), t1, bd2_s, gd_n (by omega) (by decide), clN (by omega), lt_d, lt_d, nI_1]
      refine ⟨_, rfl, rfl, (h2.tr t2.1).sc 14 _ _ (by omega), fun j hj => ?_⟩
      dsimp only
      by_cases e : j = i
      · subst e; exact uM_s _ _ _ _
      · rw [uM_j _ _ _ _ e, t2.2 14 (by decide) (by decide) (by decide) (by decide)]; exact h3 j (by omega)) (by
      rintro ⟨W, y⟩ ⟨h1, h2, h3⟩
      dsimp only at h1 h2 h3
      subst h1
      dsimp only
      unfold bl_X11_ranked_16
      rw [gd0, cl0, (B.sn h2).wf4.c.1, if_pos (Int32.le_refl _)]
      exact ⟨_, rfl, h2, h3⟩) (N, 0) BG ⟨rfl, SameN.rf N, fun j hj => absurd hj (Nat.not_lt_zero j)⟩ (BG_lt (by omega))
  exact ⟨W, h1, h2, h3⟩
theorem c_rkL (B : BB M N V A ng nw ne no) {s : Nat → Int32} (hs : ∀ j, j < ng → M 16 j = s j) (k : Int32) : loopN (fun x : Int32 => bl_X10_ranked_57 M k x) BG 0 = some (fF (fun g => kRk V s ng g = k) 0 ng) := by
  have hb := B.bd
  have m1 : M 17 1 = nI ng := B.rb.1
  refine findN (fun g => kRk V s ng g = k) ng (by omega) (fun g hg => ?_) ?_
  · unfold bl_X10_ranked_57 b_X10_ranked_74
    rw [m1, if_neg (nI_ge hg (by omega))]
    have := accN (body := fun x : Int32 × Int32 => bl_X10_ranked_74 M k (nI g) x.1 x.2) (fun o => if wrsP V s o g then 1 else 0) ng 0 (by omega) (fun o x ho => by
      dsimp only
      unfold bl_X10_ranked_74 b_X10_ranked_105
      rw [m1, if_neg (nI_ge ho (by omega))]
      by_cases e : o = g
      · subst e
        rw [if_pos rfl, lt_d, nI_1, if_neg (wrs_irr V s o), Int32.add_zero]
      · rw [if_neg (nI_ne' e (by omega) (by omega)), c_ranksAhead B hs ho hg, bd_s]
        by_cases c : wrsP V s o g
        · rw [fp_t c, lt_d, lt_d, nI_1, if_pos c]
        · rw [fp_f c, lt_d, nI_1, if_neg c, Int32.add_zero]) (fun x => by
      dsimp only
      unfold bl_X10_ranked_74
      rw [m1, if_pos (Int32.le_refl _)])
    rw [this, Int32.zero_add, bd_s, lt_d, nI_1]
    rfl
  · unfold bl_X10_ranked_57
    rw [m1, if_pos (Int32.le_refl _)]
theorem m_rkL (B : BB M N V A ng nw ne no) {s : Nat → Int32} (hs : ∀ j, j < ng → N 14 j = s j) (k : Int32) : loopN (fun x : Int32 => bl_X11_ranked_46 N k x) BG 0 = some (fF (fun g => kRk V s ng g = k) 0 ng) := by
  have hb := B.bd
  have m1 : N 4 0 = nI ng := B.wf4.c.1
  refine findN (fun g => kRk V s ng g = k) ng (by omega) (fun g hg => ?_) ?_
  · unfold bl_X11_ranked_46 b_X11_ranked_62
    rw [gd0, cl0, m1, if_neg (nI_ge hg (by omega))]
    have := accN (body := fun x : Int32 × Int32 => bl_X11_ranked_62 N k (nI g) x.1 x.2) (fun o => if wrsP V s o g then 1 else 0) ng 0 (by omega) (fun o x ho => by
      dsimp only
      unfold bl_X11_ranked_62 b_X11_ranked_90
      rw [gd0, cl0, m1, if_neg (nI_ge ho (by omega)), m_isWorse B hs ho hg, bd_s]
      by_cases c : wrsP V s o g
      · rw [fp_t c, lt_d, lt_d, nI_1, if_pos c]
      · rw [fp_f c, lt_d, lt_d, nI_1, if_neg c]) (fun x => by
      dsimp only
      unfold bl_X11_ranked_62
      rw [gd0, cl0, m1, if_pos (Int32.le_refl _)])
    rw [this, Int32.zero_add, bd_s, lt_d, nI_1]
    rfl
  · unfold bl_X11_ranked_46
    rw [gd0, cl0, m1, if_pos (Int32.le_refl _)]
end
theorem c_ranked {M N : xM} (h : Rel M N) (d0 k : Int32) : ∃ r M1 N1, f_X10_ranked M d0 k = some (r, M1) ∧ f_X11_ranked N d0 k = some (r, N1) ∧ SameM M M1 ∧ SameN N N1 := by
  obtain ⟨N0, e1, S, V, A, ng, nw, ne, no, B⟩ := h.th
  unfold f_X10_ranked b_X10_ranked_0 b_X10_ranked_22 f_X11_ranked b_X11_ranked_0
  rw [lt_d (uM N 0 0 0), e1, c_isDay, m_isDay, bd_s, bd_s]
  by_cases c1 : dayP d0
  rotate_left
  · rw [fp_f c1, fp_f c1]; exact ⟨_, _, _, rfl, rfl, SameM.rf M, S⟩
  have hb := B.bd
  obtain ⟨d, hd, rfl⟩ := dy_of c1
  obtain ⟨W, w1, w2, w3⟩ := c_rowS B hd k
  obtain ⟨X, x1, x2, x3⟩ := m_rowS B hd k
  rw [fp_t c1, fp_t c1]
  unfold b_X11_ranked_16 b_X11_ranked_46
  rw [x1, bd_s, m_rkL (B.sn x2) x3 k, bd_s]
  have m1 : M 17 1 = nI ng := B.rb.1
  have out : ¬ (0 ≤ k.toInt ∧ k.toInt < ng) → fF (fun g => kRk V (fun j => kShort V A ne nw (M 18 6) j d) ng g = k) 0 ng = .inr () := fun z => by
    rw [fF_none]
    intro j _ hj e
    have := kRk_bd V (fun j => kShort V A ne nw (M 18 6) j d) hb.1 (show j < ng by omega)
    rw [e] at this
    exact z this
  by_cases c2 : k < 0
  · rw [i_lt, i0] at c2
    rw [if_pos (by rw [i_lt, i0]; exact c2), out (by omega)]
    exact ⟨_, _, _, rfl, rfl, SameM.rf M, S.tr x2⟩
  rw [if_neg c2, m1]
  by_cases c3 : k < nI ng
  rotate_left
  · rw [if_neg c3]
    rw [i_lt, nI_toInt (by omega)] at c3
    rw [out (by omega)]
    exact ⟨_, _, _, rfl, rfl, SameM.rf M, S.tr x2⟩
  rw [if_pos c3]
  unfold b_X10_ranked_26 b_X10_ranked_57
  rw [w1, bd_s, c_rkL (B.sm w2) w3 k, bd_s]
  cases fF (fun g => kRk V (fun j => kShort V A ne nw (M 18 6) j d) ng g = k) 0 ng with
  | inl v => exact ⟨_, _, _, rfl, rfl, w2, S.tr x2⟩
  | inr v => exact ⟨_, _, _, rfl, rfl, w2, S.tr x2⟩
/-! most -/
def mst (f : Nat → Int32) : Nat → Int32 × Int32
  | 0 => (-1, 0)
  | i + 1 => if (mst f i).1 = -1 ∨ (mst f i).2 < f i then (nI i, f i) else mst f i
theorem mst_1 (f : Nat → Int32) : ∀ i, (mst f i).1 = -1 ∨ ∃ j, j < i ∧ (mst f i).1 = nI j
  | 0 => Or.inl rfl
  | i + 1 => by
    rw [mst]
    split
    · exact Or.inr ⟨i, by omega, rfl⟩
    · rcases mst_1 f i with h | ⟨j, h1, h2⟩
      · exact Or.inl h
      · exact Or.inr ⟨j, by omega, h2⟩
section
variable {M N : xM} {V A : Nat → Int32} {ng nw ne no : Nat}
def kSz (V A : Nat → Int32) (ne nw g : Nat) (fl cov : Int32) (d : Nat) (what : Int32) (i : Nat) : Int32 := if what = 0 then kEstOn V A ne i (nI d) else if what = 1 then kIdle (mD V A ne i) g fl (360 + d) else kShort V A ne nw cov i d
theorem c_sizeOf (B : BB M N V A ng nw ne no) {d g i n : Nat} (hd : d < 3600) (hg : g < 360) (hgv : M 18 2 = nI g) {what : Int32} (hn : n = if what = 2 then ng else nw) (hw : what = 0 ∨ what = 1 ∨ what = 2) (hi : i < n) : ∃ M1, f_X10_sizeOf M (nI i) (nI d) what = some (kSz V A ne nw g (M 18 3) (M 18 6) d what i, M1) ∧ SameM M M1 := by
  unfold f_X10_sizeOf b_X10_sizeOf_0 kSz
  rcases hw with rfl | rfl | rfl
  · rw [if_neg (by decide)] at hn
    subst hn
    rw [if_pos rfl, if_pos rfl, c_estateOn B.k hi (dN hd), bd_s]
    exact ⟨M, rfl, SameM.rf M⟩
  · rw [if_neg (by decide)] at hn
    subst hn
    obtain ⟨M1, h1, h2⟩ := c_idleOn B hi hd hg hgv
    rw [if_neg (by decide), if_pos rfl, if_neg (by decide), if_pos rfl, h1, bd2_s]
    exact ⟨M1, rfl, h2⟩
  · rw [if_pos rfl] at hn
    subst hn
    obtain ⟨M1, h1, h2⟩ := c_shortOf B hi hd
    rw [if_neg (by decide), if_neg (by decide), if_neg (by decide), if_neg (by decide), h1, bd2_s]
    exact ⟨M1, rfl, (SameM.rf M).bt h2 (by omega)⟩
theorem m_worthOn (B : BB M N V A ng nw ne no) {d g i n : Nat} (hd : d < 3600) (hg : g < 360) (hgv : M 18 2 = nI g) {what : Int32} (hn : n = if what = 2 then ng else nw) (hw : what = 0 ∨ what = 1 ∨ what = 2) (hi : i < n) : ∃ L, f_X11_worthOn N (nI i) (nI d) what = some (kSz V A ne nw g (M 18 3) (M 18 6) d what i, L) ∧ SameN N L := by
  unfold f_X11_worthOn b_X11_worthOn_0 b_X11_worthOn_42 kSz
  rcases hw with rfl | rfl | rfl
  · rw [if_neg (by decide)] at hn
    subst hn
    obtain ⟨L, l1, l2, l3⟩ := B.lays
    rw [if_pos rfl, if_pos rfl, l1, bd_s, (B.sn l2).rMoney l3 hi (dN hd), bd_s, (B.sn l2).rOut i, bd_s, kEst_mo]
    exact ⟨L, rfl, l2⟩
  · rw [if_neg (by decide)] at hn
    subst hn
    obtain ⟨L, h1, h2⟩ := m_idleOn B hi hd hg hgv
    rw [if_neg (by decide), if_pos rfl, if_neg (by decide), if_pos rfl, h1, bd2_s]
    exact ⟨L, rfl, h2⟩
  · rw [if_pos rfl] at hn
    subst hn
    obtain ⟨L, h1, h2⟩ := m_shortOf B hi hd
    rw [if_neg (by decide), if_neg (by decide), if_neg (by decide), if_neg (by decide), h1, bd2_s]
    exact ⟨L, rfl, h2.1⟩
theorem c_mostL (B : BB M N V A ng nw ne no) {d g n : Nat} (hd : d < 3600) (hg : g < 360) (hgv : M 18 2 = nI g) {what : Int32} (hn : n = if what = 2 then ng else nw) (hw : what = 0 ∨ what = 1 ∨ what = 2) : ∃ W, b_X10_most_45 M (nI d) what (-1) 0 (nI n) = some ((mst (kSz V A ne nw g (M 18 3) (M 18 6) d what) n).1, W) ∧ SameM M W := by
  have hb := B.bd
  have hn4 : n ≤ 4 := by rw [hn]; split <;> omega
  unfold b_X10_most_45 b_X10_most_50
  generalize hf : kSz V A ne nw g (M 18 3) (M 18 6) d what = f
  obtain ⟨W, h1, h2, h3⟩ := loopN_inv (body := fun s : xM × Int32 × Int32 × Int32 => bl_X10_most_50 s.1 (nI d) what s.2.1 s.2.2.1 (nI n) s.2.2.2) (fun i s => s.2.2.2 = nI i ∧ SameM M s.1 ∧ s.2.1 = (mst f i).1 ∧ s.2.2.1 = (mst f i).2) (fun W => SameM M W.1 ∧ W.2 = (mst f n).1) n (by
      rintro i ⟨W, a, b, y⟩ hi ⟨h1, h2, h3, h4⟩
      dsimp only at h1 h2 h3 h4
      subst h1 h3 h4
      dsimp only
      have e18 : W 18 = M 18 := h2 18 (by decide) (by decide) (by decide) (by decide)
      obtain ⟨W2, t1, t2⟩ := c_sizeOf (B.sm h2) hd hg (by rw [e18]; exact hgv) hn hw hi
      rw [e18, hf] at t1
      unfold bl_X10_most_50 b_X10_most_79 b_X10_most_86
      rw [if_neg (nI_ge hi (by omega)), t1, bd2_s, lt_d, lt_d, nI_1]
      by_cases c : (mst f i).1 = -1
      · rw [if_pos c]
        exact ⟨_, rfl, rfl, h2.tr t2, by dsimp only; rw [mst, if_pos (Or.inl c)], by dsimp only; rw [mst, if_pos (Or.inl c)]⟩
      · rw [if_neg c]
        by_cases c2 : f i ≤ (mst f i).2
        · rw [if_pos c2]
          have c3 : ¬ ((mst f i).1 = -1 ∨ (mst f i).2 < f i) := fun z => by
            rcases z with z | z
            · exact c z
            · rw [i_lt] at z; rw [i_le] at c2; omega
          exact ⟨_, rfl, rfl, h2.tr t2, by dsimp only; rw [mst, if_neg c3], by dsimp only; rw [mst, if_neg c3]⟩
        · rw [if_neg c2]
          have c3 : (mst f i).1 = -1 ∨ (mst f i).2 < f i := Or.inr (by rw [i_lt]; rw [i_le] at c2; omega)
          exact ⟨_, rfl, rfl, h2.tr t2, by dsimp only; rw [mst, if_pos c3], by dsimp only; rw [mst, if_pos c3]⟩) (by
      rintro ⟨W, a, b, y⟩ ⟨h1, h2, h3, h4⟩
      dsimp only at h1 h2 h3 h4
      subst h1
      dsimp only
      unfold bl_X10_most_50
      rw [if_pos (Int32.le_refl _)]
      exact ⟨_, rfl, h2, h3⟩) (M, -1, 0, 0) BG ⟨rfl, SameM.rf M, rfl, rfl⟩ (BG_lt (by omega))
  rw [h1, bd_s, h3]
  exact ⟨_, rfl, h2⟩
theorem m_mostL (B : BB M N V A ng nw ne no) {d g n : Nat} (hd : d < 3600) (hg : g < 360) (hgv : M 18 2 = nI g) {what : Int32} (hn : n = if what = 2 then ng else nw) (hw : what = 0 ∨ what = 1 ∨ what = 2) : ∃ W, b_X11_most_34 N (nI d) what (-1) 0 0 = some ((mst (kSz V A ne nw g (M 18 3) (M 18 6) d what) n).1, W) ∧ SameN N W := by
  have hb := B.bd
  have hn4 : n ≤ 4 := by rw [hn]; split <;> omega
  unfold b_X11_most_34
  generalize hf : kSz V A ne nw g (M 18 3) (M 18 6) d what = f
  have hgd : ∀ {W : xM} {a b : Int32} {i : Nat}, SameN N W → bl_X11_most_34 W (nI d) what a b (nI i) = if nI n ≤ nI i then some (.inr (W, a)) else bd2 (f_X11_worthOn W (nI i) (nI d) what) (fun r_3 M_5 => if a = (-1 : Int32) then b_X11_most_76 M_5 (nI d) what b (nI i) r_3 else if r_3 ≤ b then b_X11_most_82 M_5 (nI d) what b (nI i) r_3 a else b_X11_most_76 M_5 (nI d) what b (nI i) r_3) := fun {W a b i} h2 => by
    unfold bl_X11_most_34 b_X11_most_50
    by_cases c : what = 2
    · rw [if_pos c] at hn
      rw [if_pos c, gd0, cl0, (B.sn h2).wf4.c.1, hn]
    · rw [if_neg c] at hn
      rw [if_neg c, gd1, cl1, (B.sn h2).wf4.c.2.1, hn]
  obtain ⟨W, h1, h2, h3⟩ := loopN_inv (body := fun s : xM × Int32 × Int32 × Int32 => bl_X11_most_34 s.1 (nI d) what s.2.1 s.2.2.1 s.2.2.2) (fun i s => s.2.2.2 = nI i ∧ SameN N s.1 ∧ s.2.1 = (mst f i).1 ∧ s.2.2.1 = (mst f i).2) (fun W => SameN N W.1 ∧ W.2 = (mst f n).1) n (by
      rintro i ⟨W, a, b, y⟩ hi ⟨h1, h2, h3, h4⟩
      dsimp only at h1 h2 h3 h4
      subst h1 h3 h4
      dsimp only
      obtain ⟨W2, t1, t2⟩ := m_worthOn (B.sn h2) hd hg hgv hn hw hi
      rw [hf] at t1
      rw [hgd h2, if_neg (nI_ge hi (by omega)), t1, bd2_s]
      unfold b_X11_most_76 b_X11_most_82 b_X11_most_96
      rw [if_pos rfl, lt_d, lt_d, nI_1]
      by_cases c : (mst f i).1 = -1
      · rw [if_pos c]
        exact ⟨_, rfl, rfl, h2.tr t2, by dsimp only; rw [mst, if_pos (Or.inl c)], by dsimp only; rw [mst, if_pos (Or.inl c)]⟩
      · rw [if_neg c]
        by_cases c2 : f i ≤ (mst f i).2
        · have c3 : ¬ ((mst f i).1 = -1 ∨ (mst f i).2 < f i) := fun z => by
            rcases z with z | z
            · exact c z
            · rw [i_lt] at z; rw [i_le] at c2; omega
          have c4 : ¬ (mst f i).1 = nI i := fun z => by
            rcases mst_1 f i with h | ⟨j, h1, h2⟩
            · exact c h
            · exact nI_ne' (show j ≠ i by omega) (by omega) (by omega) (h2.symm.trans z)
          rw [if_pos c2, if_neg c4, lt_d]
          exact ⟨_, rfl, rfl, h2.tr t2, by dsimp only; rw [mst, if_neg c3], by dsimp only; rw [mst, if_neg c3]⟩
        · rw [if_neg c2]
          have c3 : (mst f i).1 = -1 ∨ (mst f i).2 < f i := Or.inr (by rw [i_lt]; rw [i_le] at c2; omega)
          exact ⟨_, rfl, rfl, h2.tr t2, by dsimp only; rw [mst, if_pos c3], by dsimp only; rw [mst, if_pos c3]⟩) (by
      rintro ⟨W, a, b, y⟩ ⟨h1, h2, h3, h4⟩
      dsimp only at h1 h2 h3 h4
      subst h1
      dsimp only
      rw [hgd h2, if_pos (Int32.le_refl _)]
      exact ⟨_, rfl, h2, h3⟩) (N, -1, 0, 0) BG ⟨rfl, SameN.rf N, rfl, rfl⟩ (BG_lt (by omega))
  rw [h1, bd_s, h3]
  exact ⟨_, rfl, h2⟩
end
theorem c_most {M N : xM} (h : Rel M N) (d0 a : Int32) : ∃ r M1 N1, f_X10_most M d0 a = some (r, M1) ∧ f_X11_most N d0 a = some (r, N1) ∧ SameM M M1 ∧ SameN N N1 := by
  obtain ⟨N0, e1, S, V, A, ng, nw, ne, no, B⟩ := h.th
  unfold f_X10_most b_X10_most_0 b_X10_most_16 f_X11_most b_X11_most_0 b_X11_most_24
  rw [lt_d (uM N 0 0 0), e1, c_isDay, m_isDay, bd_s, bd_s]
  by_cases c1 : dayP d0
  rotate_left
  · rw [fp_f c1, fp_f c1]; exact ⟨_, _, _, rfl, rfl, SameM.rf M, S⟩
  obtain ⟨d, hd, rfl⟩ := dy_of c1
  rw [fp_t c1, fp_t c1, m_in02, bd_s]
  by_cases c2 : 0 ≤ a.toInt ∧ a.toInt ≤ 2
  rotate_left
  · rw [fp_f c2]
    by_cases c3 : a < 0
    · rw [if_pos c3]; exact ⟨_, _, _, rfl, rfl, SameM.rf M, S⟩
    · rw [if_neg c3, if_neg (by rw [i_lt, i0] at c3; rw [i_le, x2i]; omega)]; exact ⟨_, _, _, rfl, rfl, SameM.rf M, S⟩
  obtain ⟨g, hg, hgv, -⟩ := B.g
  have hw := i_012 c2
  obtain ⟨X, x1, x2⟩ := m_mostL B hd hg hgv (what := a) rfl hw
  obtain ⟨W, w1, w2⟩ := c_mostL B hd hg hgv (what := a) rfl hw
  rw [fp_t c2, if_neg (by rw [i_lt, i0]; omega), if_pos (by rw [i_le, x2i]; omega)]
  by_cases c3 : a = 2
  · rw [if_pos c3] at w1 x1
    rw [if_pos c3, x1, B.rb.1, w1]
    exact ⟨_, _, _, rfl, rfl, w2, S.tr x2⟩
  · rw [if_neg c3] at w1 x1
    rw [if_neg c3, x1, B.rb.2.1, w1]
    exact ⟨_, _, _, rfl, rfl, w2, S.tr x2⟩
