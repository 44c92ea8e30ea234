/-! bonded, short, ranked -/
def pkF (h : Nat → Int32) : Nat → Nat
  | 0 => 0
  | n + 1 => if (h (pkF h n)).toInt < (h (n + 1)).toInt then n + 1 else pkF h n
theorem pkF_ok (h : Nat → Int32) : ∀ n, PK h n (pkF h n)
  | 0 => ⟨Nat.le_refl 0, fun q hq => by rw [show q = 0 by omega]; exact Int.le_refl _, fun q hq => absurd hq (Nat.not_lt_zero q)⟩
  | n + 1 => by
    obtain ⟨a, b, c⟩ := pkF_ok h n
    unfold pkF
    by_cases e : (h (pkF h n)).toInt < (h (n + 1)).toInt
    · rw [if_pos e]
      refine ⟨Nat.le_refl _, fun q hq => ?_, fun q hq => ?_⟩
      · by_cases e2 : q = n + 1
        · rw [e2]; exact Int.le_refl _
        · have := b q (by omega); omega
      · have := b q (by omega); omega
    · rw [if_neg e]
      refine ⟨by omega, fun q hq => ?_, c⟩
      by_cases e2 : q = n + 1
      · rw [e2]; omega
      · exact b q (by omega)
theorem short_eq {p c b : Int32} (hp : -216000000 ≤ p.toInt ∧ p.toInt ≤ 216000000) (hc : 1 ≤ c.toInt ∧ c.toInt ≤ 4) (hb : bndP b) : imax (0 : Int32) (c * imax (0 : Int32) p - b) = imax (0 : Int32) (p * c - b) := by
  have hm : (imax (0 : Int32) p).toInt = max 0 p.toInt := by rw [imax_i, i0]
  have hb' := hb
  apply Int32.toInt_inj.mp
  have h4 : c.toInt = 1 ∨ c.toInt = 2 ∨ c.toInt = 3 ∨ c.toInt = 4 := by omega
  have e1 : (c * imax (0 : Int32) p).toInt = c.toInt * max 0 p.toInt := by
    rw [i_mul (by rw [hm]; rcases h4 with z | z | z | z <;> rw [z] <;> omega) (by rw [hm]; rcases h4 with z | z | z | z <;> rw [z] <;> omega), hm]
  have e2 : (p * c).toInt = p.toInt * c.toInt := i_mul (by rcases h4 with z | z | z | z <;> rw [z] <;> omega) (by rcases h4 with z | z | z | z <;> rw [z] <;> omega)
  have b1 : 0 ≤ c.toInt * max 0 p.toInt ∧ c.toInt * max 0 p.toInt ≤ 864000000 := by rcases h4 with z | z | z | z <;> rw [z] <;> omega
  have b2 : -864000000 ≤ p.toInt * c.toInt ∧ p.toInt * c.toInt ≤ 864000000 := by rcases h4 with z | z | z | z <;> rw [z] <;> omega
  rw [imax_i, imax_i, i0, i_sub (by rw [e1]; omega) (by rw [e1]; omega), i_sub (by rw [e2]; omega) (by rw [e2]; omega), e1, e2]
  rcases h4 with z | z | z | z <;> rw [z] <;> omega
section
variable {M N : xM} {V A : Nat → Int32} {ng nw ne no : Nat}
abbrev pkD (V A : Nat → Int32) (ne nw g last : Nat) : Nat := pkF (hH V A ne nw g) last
abbrev pkV (V A : Nat → Int32) (ne nw g last : Nat) : Int32 := hH V A ne nw g (pkD V A ne nw g last)
def kShort (V A : Nat → Int32) (ne nw : Nat) (cov : Int32) (g last : Nat) : Int32 := imax (0 : Int32) (pkV V A ne nw g last * cov - V (4 + g))
theorem c_seekF (B : BB M N V A ng nw ne no) {g last : Nat} (hl : last < 3600) : ∃ M1, f_X4_seek M (nI g) (nI last) = some M1 ∧ Bt M M1 15 ∧ M1 15 0 = nI (pkD V A ne nw g last) ∧ M1 15 1 = pkV V A ne nw g last := by
  obtain ⟨M1, h1, h2, d, h3, h4, h5⟩ := c_seek B (g := g) hl
  have e := h3.uniq (pkF_ok (hH V A ne nw g) last)
  subst e
  exact ⟨M1, h1, h2, h4, h5⟩
theorem m_heldF (B : BB M N V A ng nw ne no) {g last : Nat} (hl : last < 3600) : ∃ L, f_X11_laysHeld N (nI g) (nI last) = some L ∧ RH N L ∧ L 0 22 = nI (pkD V A ne nw g last) ∧ L 0 23 = pkV V A ne nw g last := by
  obtain ⟨M1, h1, h2, d, h3, h4, h5⟩ := m_laysHeld B (g := g) hl
  have e := h3.uniq (pkF_ok (hH V A ne nw g) last)
  subst e
  exact ⟨M1, h1, h2, h4, h5⟩
theorem BB.pk_bd (B : BB M N V A ng nw ne no) {g last : Nat} (hl : last < 3600) : -216000000 ≤ (pkV V A ne nw g last).toInt ∧ (pkV V A ne nw g last).toInt ≤ 216000000 := B.hH_bd (Nat.lt_of_le_of_lt (pkF_ok (hH V A ne nw g) last).1 hl)
theorem BB.bt (B : BB M N V A ng nw ne no) {W : xM} {r : Nat} (h : Bt M W r) (hr : (3 ≤ r ∧ r ≤ 5) ∨ (11 ≤ r ∧ r ≤ 16) ∨ r = 23 ∨ r = 24) : BB W N V A ng nw ne no := B.sm ((SameM.rf M).bt h hr)
theorem c_shortOf (B : BB M N V A ng nw ne no) {g last : Nat} (hg : g < ng) (hl : last < 3600) : ∃ M1, f_X10_shortOf M (nI g) (nI last) = some (kShort V A ne nw (M 18 6) g last, M1) ∧ Bt M M1 15 := by
  have hb := B.bd
  obtain ⟨M1, h1, h2, h3, h4⟩ := c_seekF B (g := g) hl
  unfold f_X10_shortOf b_X10_shortOf_0
  rw [h1, bd_s, gd_d (i := 6) (n := 7) (by decide) (by decide), cl6, gd_n (by omega) (by decide), clN (by omega), h4, h2 18 (by decide), h2 19 (by decide), B.rb.2.2.2.2.1 g hg]
  exact ⟨M1, rfl, h2⟩
theorem m_neededOf (B : BB M N V A ng nw ne no) {g last : Nat} (hl : last < 3600) : ∃ L, f_X11_neededOf N (nI g) (nI last) = some (M 18 6 * imax (0 : Int32) (pkV V A ne nw g last), L) ∧ RH N L ∧ L 0 22 = nI (pkD V A ne nw g last) ∧ L 0 23 = pkV V A ne nw g last := by
  obtain ⟨L, h1, h2, h3, h4⟩ := m_heldF B (g := g) hl
  unfold f_X11_neededOf b_X11_neededOf_0
  rw [h1, bd_s, gd_d (i := 6) (n := 7) (by decide) (by decide), cl6, h4, h2.1.2.2.2.2.1, ← (B.2.2.2 6 (by decide)).1]
  exact ⟨L, rfl, h2, h3, h4⟩
theorem BB.short (B : BB M N V A ng nw ne no) {g last : Nat} (hg : g < ng) (hl : last < 3600) : imax (0 : Int32) (M 18 6 * imax (0 : Int32) (pkV V A ne nw g last) - V (4 + g)) = kShort V A ne nw (M 18 6) g last :=
  short_eq (B.pk_bd hl) B.r.2.2.2.1 (B.wf.c.2.2.2.2 g hg)
theorem m_shortOf (B : BB M N V A ng nw ne no) {g last : Nat} (hg : g < ng) (hl : last < 3600) : ∃ L, f_X11_shortOf N (nI g) (nI last) = some (kShort V A ne nw (M 18 6) g last, L) ∧ RH N L := by
  have hb := B.bd
  obtain ⟨L, h1, h2, -, -⟩ := m_neededOf B (g := g) hl
  unfold f_X11_shortOf b_X11_shortOf_0
  rw [h1, bd2_s, show (4 : Int32) + nI g = nI (4 + g) from nI_add 4 g, gd_n (by omega) (by decide), clN (by omega), h2.1.2.2.2.2.2.1, B.1, B.short hg hl]
  exact ⟨L, rfl, h2⟩
theorem m_in02 (N : xM) (k : Int32) : f_X11_in N k.toInt64 (0 : Int64) (2 : Int64) = some (pI (0 ≤ k.toInt ∧ k.toInt ≤ 2)) := by
  rw [m_in, i_l, show (0 : Int64).toInt = 0 by decide, show (2 : Int64).toInt = 2 by decide]
theorem i_012 {k : Int32} (h : 0 ≤ k.toInt ∧ k.toInt ≤ 2) : k = 0 ∨ k = 1 ∨ k = 2 := by
  obtain ⟨n, h1, rfl, h3⟩ := nI_of0 h.1
  have : n = 0 ∨ n = 1 ∨ n = 2 := by omega
  rcases this with rfl | rfl | rfl
  · exact Or.inl rfl
  · exact Or.inr (Or.inl rfl)
  · exact Or.inr (Or.inr rfl)
theorem c_bonded {M N : xM} (h : Rel M N) (g0 d0 a : Int32) : ∃ r M1 N1, f_X10_bonded M g0 d0 a = some (r, M1) ∧ f_X11_bonded N g0 d0 a = some (r, N1) ∧ SameM M M1 ∧ SameN N N1 := by
  obtain ⟨N0, e1, S, V, A, ng, nw, ne, no, B⟩ := h.th
  unfold f_X10_bonded b_X10_bonded_0 b_X10_bonded_18 b_X10_bonded_125 f_X11_bonded b_X11_bonded_0 b_X11_bonded_32 b_X11_bonded_91
  rw [lt_d (uM N 0 0 0), e1, B.hG, B.iG, bd_s, bd_s]
  by_cases c0 : wP ng g0
  rotate_left
  · rw [fp_f c0, fp_f c0]; exact ⟨_, _, _, rfl, rfl, SameM.rf M, S⟩
  rw [fp_t c0, fp_t c0, c_isDay, m_isDay, bd_s, bd_s]
  by_cases c1 : dayP d0
  rotate_left
  · rw [fp_f c1, fp_f c1]; exact ⟨_, _, _, rfl, rfl, SameM.rf M, S⟩
  have hb := B.bd
  obtain ⟨g, hg, rfl⟩ := wP_of (by omega) c0
  obtain ⟨d, hd, rfl⟩ := dy_of c1
  rw [fp_t c1, fp_t c1, m_in02, bd_s]
  by_cases c2 : 0 ≤ a.toInt ∧ a.toInt ≤ 2
  rotate_left
  · rw [fp_f c2, if_neg (fun z => c2 (by rw [z]; decide)), if_neg (fun z => c2 (by rw [z]; decide)), if_neg (fun z => c2 (by rw [z]; decide))]
    exact ⟨_, _, _, rfl, rfl, SameM.rf M, S⟩
  obtain ⟨L, k1, k2, k3, k4⟩ := m_neededOf B (g := g) hd
  obtain ⟨M1, s1, s2, s3, s4⟩ := c_seekF B (g := g) hd
  rw [fp_t c2, k1, bd2_s]
  rcases i_012 c2 with rfl | rfl | rfl
  · rw [if_pos (by decide), if_pos (by decide), s1, bd_s, gd_d (i := 6) (n := 7) (by decide) (by decide), cl6, s4, s2 18 (by decide), Int32.mul_comm (M 18 6)]
    exact ⟨_, _, _, rfl, rfl, (SameM.rf M).bt s2 (by omega), S.tr k2.1⟩
  · obtain ⟨M2, t1, t2⟩ := c_shortOf B hg hd
    rw [if_neg (by decide), if_pos (by decide), if_neg (by decide), if_pos (by decide), t1, bd2_s, show (4 : Int32) + nI g = nI (4 + g) from nI_add 4 g, gd_n (by omega) (by decide), clN (by omega), k2.1.2.2.2.2.2.1, B.1, B.short hg hd]
    exact ⟨_, _, _, rfl, rfl, (SameM.rf M).bt t2 (by omega), S.tr k2.1⟩
  · rw [if_neg (by decide), if_neg (by decide), if_pos (by decide), if_neg (by decide), if_neg (by decide), s1, bd_s, s3, s4, k3, k4]
    by_cases c : 0 ≤ pkV V A ne nw g d
    · rw [if_pos c, if_pos c]
      exact ⟨_, _, _, rfl, rfl, (SameM.rf M).bt s2 (by omega), S.tr k2.1⟩
    · rw [if_neg c, if_neg c]
      exact ⟨_, _, _, rfl, rfl, (SameM.rf M).bt s2 (by omega), S.tr k2.1⟩
/-! ranked -/
abbrev wrsP (V : Nat → Int32) (s : Nat → Int32) (o g : Nat) : Prop := (¬ s o = s g ∧ (s g).toInt < (s o).toInt) ∨ (s o = s g ∧ ((¬ V (4 + o) = V (4 + g) ∧ (V (4 + o)).toInt < (V (4 + g)).toInt) ∨ (V (4 + o) = V (4 + g) ∧ o < g)))
theorem wrs_irr (V s : Nat → Int32) (g : Nat) : ¬ wrsP V s g g := by
  rintro (⟨h, -⟩ | ⟨-, ⟨h, -⟩ | ⟨-, h⟩⟩)
  · exact h rfl
  · exact h rfl
  · exact Nat.lt_irrefl g h
theorem c_ranksAhead (B : BB M N V A ng nw ne no) {s : Nat → Int32} (hs : ∀ j, j < ng → M 16 j = s j) {o g : Nat} (ho : o < ng) (hg : g < ng) : f_X10_ranksAhead M (nI o) (nI g) = some (pI (wrsP V s o g)) := by
  have hb := B.bd
  have r := B.rb.2.2.2.2.1
  have ro : M 19 o = V (4 + o) := r o ho
  have rg : M 19 g = V (4 + g) := r g hg
  unfold f_X10_ranksAhead b_X10_ranksAhead_0 b_X10_ranksAhead_35 b_X10_ranksAhead_83 b_X10_ranksAhead_94
  rw [gd_n (by omega) (by decide), gd_n (by omega) (by decide), clN (by omega), clN (by omega), hs o ho, hs g hg, ro, rg, gz0, gz1]
  by_cases c1 : s o = s g
  · rw [if_pos c1, gd_n (by omega) (by decide), gd_n (by omega) (by decide)]
    by_cases c2 : V (4 + o) = V (4 + g)
    · rw [if_pos c2]
      by_cases c3 : nI g ≤ nI o
      · rw [if_pos c3, pI_f]
        rw [nI_leI (by omega) (by omega)] at c3
        rintro (⟨h, -⟩ | ⟨-, ⟨h, -⟩ | ⟨-, h⟩⟩)
        · exact h c1
        · exact h c2
        · omega
      · rw [if_neg c3]
        rw [nI_leI (by omega) (by omega)] at c3
        rw [pI_t (Or.inr ⟨c1, Or.inr ⟨c2, by omega⟩⟩)]
    · rw [if_neg c2, gd_n (by omega) (by decide), gd_n (by omega) (by decide)]
      by_cases c3 : V (4 + g) ≤ V (4 + o)
      · rw [if_pos c3, pI_f]
        rw [i_le] at c3
        rintro (⟨h, -⟩ | ⟨-, ⟨-, h⟩ | ⟨h, -⟩⟩)
        · exact h c1
        · omega
        · exact c2 h
      · rw [if_neg c3]
        rw [i_le] at c3
        rw [pI_t (Or.inr ⟨c1, Or.inl ⟨c2, by omega⟩⟩)]
  · rw [if_neg c1, gd_n (by omega) (by decide), gd_n (by omega) (by decide)]
    by_cases c3 : s o ≤ s g
    · rw [if_pos c3, pI_f]
      rw [i_le] at c3
      rintro (⟨-, h⟩ | ⟨h, -⟩)
      · omega
      · exact c1 h
    · rw [if_neg c3]
      rw [i_le] at c3
      rw [pI_t (Or.inl ⟨c1, by omega⟩)]
theorem m_isWorse (B : BB M N V A ng nw ne no) {s : Nat → Int32} (hs : ∀ j, j < ng → N 14 j = s j) {o g : Nat} (ho : o < ng) (hg : g < ng) : f_X11_isWorse N (nI o) (nI g) = some (pI (wrsP V s o g)) := by
  have hb := B.bd
  have e4 : ∀ k : Nat, (4 : Int32) + nI k = nI (4 + k) := fun k => nI_add 4 k
  unfold f_X11_isWorse b_X11_isWorse_0 b_X11_isWorse_35 b_X11_isWorse_92
  rw [gd_n (by omega) (by decide), gd_n (by omega) (by decide), clN (by omega), clN (by omega), hs o ho, hs g hg, e4, e4, clN (by omega), clN (by omega), B.1, gz0, gz1]
  by_cases c1 : s o = s g
  · rw [if_pos c1, gd_n (by omega) (by decide), gd_n (by omega) (by decide)]
    by_cases c2 : V (4 + o) = V (4 + g)
    · rw [if_pos c2]
      by_cases c3 : nI g ≤ nI o
      · rw [if_pos c3, pI_f]
        rw [nI_leI (by omega) (by omega)] at c3
        rintro (⟨h, -⟩ | ⟨-, ⟨h, -⟩ | ⟨-, h⟩⟩)
        · exact h c1
        · exact h c2
        · omega
      · rw [if_neg c3]
        rw [nI_leI (by omega) (by omega)] at c3
        rw [pI_t (Or.inr ⟨c1, Or.inr ⟨c2, by omega⟩⟩)]
    · rw [if_neg c2, gd_n (by omega) (by decide), gd_n (by omega) (by decide)]
      by_cases c3 : V (4 + g) ≤ V (4 + o)
      · rw [if_pos c3, pI_f]
        rw [i_le] at c3
        rintro (⟨h, -⟩ | ⟨-, ⟨-, h⟩ | ⟨h, -⟩⟩)
        · exact h c1
        · omega
        · exact c2 h
      · rw [if_neg c3]
        rw [i_le] at c3
        rw [pI_t (Or.inr ⟨c1, Or.inl ⟨c2, by omega⟩⟩)]
  · rw [if_neg c1, gd_n (by omega) (by decide), gd_n (by omega) (by decide)]
    by_cases c3 : s o ≤ s g
    · rw [if_pos c3, pI_f]
      rw [i_le] at c3
      rintro (⟨-, h⟩ | ⟨h, -⟩)
      · omega
      · exact c1 h
    · rw [if_neg c3]
      rw [i_le] at c3
      rw [pI_t (Or.inl ⟨c1, by omega⟩)]
end
