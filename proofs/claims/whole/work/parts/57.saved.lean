/-! saved, bestDay -/
theorem mW_mono {f f' : Nat → Int32} {lo n : Nat} (h : ∀ j, lo ≤ j → j ≤ lo + n → (f j).toInt ≤ (f' j).toInt) : (mW f lo n).toInt ≤ (mW f' lo n).toInt := by
  obtain ⟨h1, -⟩ := mW_ok f lo n
  obtain ⟨-, j, a, b, c⟩ := mW_ok f' lo n
  have p := h1 j a b
  have q := h j a b
  rw [c]; omega
theorem kIdle_z {f : Nat → Int32} {g k : Nat} {fl : Int32} (h0 : 0 ≤ fl.toInt) (h1 : fl.toInt ≤ 9999) (hb : ∀ j, j ≤ k → -61000000 ≤ (f j).toInt ∧ (f j).toInt ≤ 61000000) (hg : g ≤ k) : (kIdle f g fl k).toInt = max 0 ((mW f (k - g) g).toInt - fl.toInt) ∧ 0 ≤ (kIdle f g fl k).toInt ∧ (kIdle f g fl k).toInt ≤ 61000000 := by
  obtain ⟨-, j, a, b, c⟩ := mW_ok f (k - g) g
  have q := hb j (by omega)
  unfold kIdle
  rw [imax_i, i0, i_sub (by rw [c]; omega) (by rw [c]; omega)]
  rw [c] at *
  omega
theorem sL_z {f : Nat → Int64} {B : Int} : ∀ {n : Nat}, (∀ i, i < n → 0 ≤ (f i).toInt ∧ (f i).toInt ≤ B) → n * B < 9223372036854775808 → 0 ≤ B → (sL f n).toInt = zS (fun i => (f i).toInt) n ∧ 0 ≤ zS (fun i => (f i).toInt) n ∧ zS (fun i => (f i).toInt) n ≤ n * B
  | 0, _, _, _ => by
    refine ⟨rfl, ?_, ?_⟩ <;> simp [zS]
  | n + 1, h, hB, h0 => by
    have e : ((n + 1 : Nat) : Int) * B = n * B + B := by rw [Int.natCast_add, Int.add_mul]; simp
    obtain ⟨h1, h2, h3⟩ := sL_z (n := n) (fun i hi => h i (by omega)) (by omega) h0
    obtain ⟨h4, h5⟩ := h n (by omega)
    rw [sL, zS]
    refine ⟨?_, by omega, by omega⟩
    rw [ll_add (by rw [h1]; omega) (by rw [h1]; omega), h1]
theorem zS_mono {f g : Nat → Int} : ∀ {n : Nat}, (∀ i, i < n → f i ≤ g i) → zS f n ≤ zS g n
  | 0, _ => Int.le_refl _
  | n + 1, h => by
    have h1 := zS_mono (n := n) (fun i hi => h i (by omega))
    have h2 := h n (by omega)
    rw [zS, zS]; omega
theorem kChg_z {F : Nat → Int32} {g : Nat} {fl rate : Int32} {y : Nat} (hg : g < 360) (h0 : 0 ≤ fl.toInt) (h1 : fl.toInt ≤ 9999) (r0 : 0 ≤ rate.toInt) (r1 : rate.toInt ≤ 200) (hb : ∀ j, j ≤ 360 * y + 719 → -61000000 ≤ (F j).toInt ∧ (F j).toInt ≤ 61000000) {T : Int} (hT : 0 ≤ T) (hT2 : T ≤ 61000000) (hI : ∀ j, j < 360 → (kIdle F g fl (360 * y + 360 + j)).toInt ≤ T) : (kChg F g fl rate y).toInt = zS (fun j => (kIdle F g fl (360 * y + 360 + j)).toInt) 360 * rate.toInt / 360000 ∧ 0 ≤ (kChg F g fl rate y).toInt ∧ (kChg F g fl rate y).toInt ≤ T / 5 := by
  have hi : ∀ j, j < 360 → 0 ≤ (kIdle F g fl (360 * y + 360 + j)).toInt := fun j hj => (kIdle_z h0 h1 (fun i hi => hb i (by omega)) (by omega)).2.1
  obtain ⟨s1, s2, s3⟩ := sL_z (f := fun j => (kIdle F g fl (360 * y + 360 + j)).toInt64) (B := T) (n := 360) (fun j hj => by
    rw [i_l]; exact ⟨hi j hj, hI j hj⟩) (by omega) hT
  have e : zS (fun i => ((kIdle F g fl (360 * y + 360 + i)).toInt64).toInt) 360 = zS (fun j => (kIdle F g fl (360 * y + 360 + j)).toInt) 360 := zS_congr (fun i _ => i_l _)
  rw [e] at s1 s2 s3
  unfold kChg
  generalize zS (fun j => (kIdle F g fl (360 * y + 360 + j)).toInt) 360 = Z at *
  have p1 : 0 ≤ Z * rate.toInt := Int.mul_nonneg s2 r0
  have p2 : Z * rate.toInt ≤ (360 * T) * 200 := Int.mul_le_mul (by omega) r1 r0 (by omega)
  have e36 : (360000 : Int64).toInt = 360000 := by decide
  have q : (sL (fun j => (kIdle F g fl (360 * y + 360 + j)).toInt64) 360 * rate.toInt64 / 360000).toInt = Z * rate.toInt / 360000 := by
    rw [ll_div (by rw [e36]; decide), ll_mul (by rw [s1, i_l]; omega) (by rw [s1, i_l]; omega), s1, i_l, e36, Int.tdiv_eq_ediv_of_nonneg p1]
  rw [l_i (by rw [q]; omega) (by rw [q]; omega), q]
  refine ⟨rfl, by omega, by omega⟩
theorem kChg_congr {F F' : Nat → Int32} {g : Nat} {fl rate : Int32} {y : Nat} (hg : g < 360) (h : ∀ k, k ≤ 360 * y + 719 → F k = F' k) : kChg F g fl rate y = kChg F' g fl rate y := by
  have e : sL (fun j => (kIdle F g fl (360 * y + 360 + j)).toInt64) 360 = sL (fun j => (kIdle F' g fl (360 * y + 360 + j)).toInt64) 360 := sL_congr (fun j hj => by
    unfold kIdle
    rw [mW_congr (f := F) (f' := F') (lo := 360 * y + 360 + j - g) (lo' := 360 * y + 360 + j - g) (n := g) (fun i hi => h _ (by omega))])
  unfold kChg
  rw [e]
section
variable {M N : xM} {V A : Nat → Int32} {ng nw ne no : Nat}
def kSaved (V A : Nat → Int32) (ne w g : Nat) (fl rate : Int32) (d : Nat) (amt : Int32) : Int32 := kChg (mD V A ne w) g fl rate (d / 360) - kChg (mX V A ne w d amt) g fl rate (d / 360)
theorem c_savedBy (B : BB M N V A ng nw ne no) {w d g : Nat} (hw : w < nw) (hd : d < 3600) (hg : g < 360) (hgv : M 18 2 = nI g) (amt : Int32) : ∃ M1, f_X10_savedBy M (nI w) (nI d) amt = some (kSaved V A ne w g (M 18 3) (M 18 4) d amt, M1) ∧ SameM M M1 := by
  simp only [f_X10_savedBy, b_X10_savedBy_0, lt_d]
  rw [gd_d (by decide) (by decide), cl4, nI_div d hd]
  obtain ⟨W, w1, w2, w3, w4⟩ := c_look B hw (y := d / 360) (by omega) hg hgv
  have e18 := w2 18 (by decide) (by decide) (by decide) (by decide)
  obtain ⟨W2, v1, v2, v3, v4⟩ := c_more (B.sm w2) hw (y := d / 360) (dx := d) (by omega) (by omega) (by omega) hg (by rw [e18]; exact hgv) amt
  rw [e18] at v4
  rw [w1, bd_s, c_chargeAt w4, bd_s, v1, bd_s, c_chargeAt v4, bd_s]
  exact ⟨W2, rfl, w2.tr v2⟩
theorem m_savedOn {W0 : xM} {w d g : Nat} (hd : d < 3600) (hg : g < 360) (hgv : W0 3 2 = nI g) (hf : ∀ k, k < 3960 → W0 9 k = mD V A ne w k) (amt ch : Int32) : ∃ W, f_X11_savedOn W0 (nI d) amt ch = some (ch - kChg (mX V A ne w d amt) g (W0 3 3) (W0 3 4) (d / 360), W) ∧ (∀ k, k ≠ 9 → k ≠ 10 → k ≠ 11 → W k = W0 k) ∧ ∀ k, k < 3960 → W 9 k = mD V A ne w k := by
  simp only [f_X11_savedOn, b_X11_savedOn_0, b_X11_savedOn_20, b_X11_savedOn_64, lt_d]
  have e1 : ∀ n : Nat, (360 : Int32) + nI n = nI (360 + n) := fun n => nI_add 360 n
  rw [nI_div d hd, y359']
  generalize hl : 360 * (d / 360) + 359 = l
  have hl1 : d ≤ l := by omega
  have hl2 : l < 3600 := by omega
  obtain ⟨W1, g1, b1, r1⟩ := loopN_inv (body := fun s : xM × Int32 => bl_X11_savedOn_20 s.1 (nI d) amt ch (nI l) s.2)
    (I := fun p s => s.2 = nI (d + p) ∧ Bt W0 s.1 9 ∧ ∀ k, k < 3960 → s.1 9 k = if 360 + d ≤ k ∧ k < 360 + d + p then mD V A ne w k - amt else mD V A ne w k) (P := fun W => Bt W0 W 9 ∧ ∀ k, k < 3960 → W 9 k = if 360 + d ≤ k ∧ k < 360 + d + (l + 1 - d) then mD V A ne w k - amt else mD V A ne w k) (l + 1 - d) (by
      rintro p ⟨W, x⟩ hp ⟨h1, h2, h3⟩
      dsimp only at h1 h2 h3
      subst h1
      dsimp only
      simp only [bl_X11_savedOn_20, lt_d, nI_1]
      rw [if_neg (nI_nl (by omega) (by omega)), e1, gd_n (by omega) (by decide), gd_n (by omega) (by decide), clN (by omega)]
      refine ⟨_, rfl, rfl, h2.u _ _, fun k hk => ?_⟩
      dsimp only
      rw [uM_at]
      by_cases e : k = 360 + (d + p)
      · rw [if_pos ⟨rfl, e⟩, h3 _ (by omega), if_neg (by omega), if_pos (by omega), e]
      · rw [if_neg (fun z => e z.2), h3 k hk]
        by_cases c : 360 + d ≤ k ∧ k < 360 + d + p
        · rw [if_pos c, if_pos (by omega)]
        · rw [if_neg c, if_neg (by omega)]) (by
      rintro ⟨W, x⟩ ⟨h1, h2, h3⟩
      dsimp only at h1 h2 h3
      subst h1
      dsimp only
      simp only [bl_X11_savedOn_20]
      rw [if_pos (nI_lt' (by omega) (by omega))]
      exact ⟨_, rfl, h2, h3⟩) (W0, nI d) BG ⟨rfl, Bt.rf W0 9, fun k hk => by
        dsimp only
        rw [if_neg (by omega), hf k hk]⟩ (BG_lt (by omega))
  rw [g1, bd_s]
  have s3 : W1 3 = W0 3 := b1 3 (by decide)
  obtain ⟨W2, v1, v2⟩ := m_chargeBy (W0 := W1) (F := fun k => if 360 + d ≤ k ∧ k < 360 + d + (l + 1 - d) then mD V A ne w k - amt else mD V A ne w k) (y := d / 360) hg (by rw [s3]; exact hgv) (by omega) r1
  rw [v1, bd2_s, s3, kChg_congr (F := fun k => if 360 + d ≤ k ∧ k < 360 + d + (l + 1 - d) then mD V A ne w k - amt else mD V A ne w k) (F' := mX V A ne w d amt) hg (fun k hk => by
    unfold mX
    by_cases c : 360 + d ≤ k
    · rw [if_pos (by omega), if_pos c, Int32.sub_eq_add_neg]
    · rw [if_neg (fun z => c z.1), if_neg c, Int32.add_zero])]
  obtain ⟨W3, g3, b3, r3⟩ := loopN_inv (body := fun s : xM × Int32 => bl_X11_savedOn_64 s.1 amt (nI l) (ch - kChg (mX V A ne w d amt) g (W0 3 3) (W0 3 4) (d / 360)) s.2)
    (I := fun p s => s.2 = nI (d + p) ∧ Bt W2 s.1 9 ∧ ∀ k, k < 3960 → s.1 9 k = if 360 + d + p ≤ k ∧ k < 360 + d + (l + 1 - d) then mD V A ne w k - amt else mD V A ne w k) (P := fun W => Bt W2 W 9 ∧ ∀ k, k < 3960 → W 9 k = mD V A ne w k) (l + 1 - d) (by
      rintro p ⟨W, x⟩ hp ⟨h1, h2, h3⟩
      dsimp only at h1 h2 h3
      subst h1
      dsimp only
      simp only [bl_X11_savedOn_64, lt_d, nI_1]
      rw [if_neg (nI_nl (by omega) (by omega)), e1, gd_n (by omega) (by decide), gd_n (by omega) (by decide), clN (by omega)]
      refine ⟨_, rfl, rfl, h2.u _ _, fun k hk => ?_⟩
      dsimp only
      rw [uM_at]
      by_cases e : k = 360 + (d + p)
      · rw [if_pos ⟨rfl, e⟩, h3 _ (by omega), if_pos (by omega), if_neg (by omega), e, Int32.sub_eq_add_neg, Int32.add_assoc, Int32.add_left_neg, Int32.add_zero]
      · rw [if_neg (fun z => e z.2), h3 k hk]
        by_cases c : 360 + d + p ≤ k ∧ k < 360 + d + (l + 1 - d)
        · rw [if_pos c, if_pos (by omega)]
        · rw [if_neg c, if_neg (by omega)]) (by
      rintro ⟨W, x⟩ ⟨h1, h2, h3⟩
      dsimp only at h1 h2 h3
      subst h1
      dsimp only
      simp only [bl_X11_savedOn_64]
      rw [if_pos (nI_lt' (by omega) (by omega))]
      exact ⟨_, rfl, h2, fun k hk => by rw [h3 k hk, if_neg (by omega)]⟩) (W2, nI d) BG ⟨rfl, Bt.rf W2 9, fun k hk => by
        dsimp only
        rw [v2 9 (by decide) (by decide), r1 k hk]
        rfl⟩ (BG_lt (by omega))
  rw [g3, bd_s]
  exact ⟨W3, rfl, fun k k1 k2 k3 => by rw [b3 k k1, v2 k k2 k3, b1 k k1], r3⟩
theorem SameN.r91011 {N L W : xM} (S : SameN N L) (h : ∀ k, k ≠ 9 → k ≠ 10 → k ≠ 11 → W k = L k) : SameN N W := by
  obtain ⟨a1, a2, a3, a4, a5, a6, a7, a8, a9⟩ := S
  refine ⟨?_, ?_, ?_, ?_, ?_, ?_, ?_, ?_, ?_⟩
  · rw [h 0 (by decide) (by decide) (by decide)]; exact a1
  · rw [h 0 (by decide) (by decide) (by decide)]; exact a2
  · rw [h 0 (by decide) (by decide) (by decide)]; exact a3
  · rw [h 1 (by decide) (by decide) (by decide)]; exact a4
  · rw [h 3 (by decide) (by decide) (by decide)]; exact a5
  · rw [h 4 (by decide) (by decide) (by decide)]; exact a6
  · rw [h 5 (by decide) (by decide) (by decide)]; exact a7
  · rw [h 6 (by decide) (by decide) (by decide)]; exact a8
  · rw [h 7 (by decide) (by decide) (by decide)]; exact a9
theorem BB.r (B : BB M N V A ng nw ne no) : (0 ≤ (M 18 3).toInt ∧ (M 18 3).toInt ≤ 9999) ∧ (0 ≤ (M 18 4).toInt ∧ (M 18 4).toInt ≤ 200) ∧ (0 ≤ (M 18 5).toInt ∧ (M 18 5).toInt ≤ 100) ∧ (1 ≤ (M 18 6).toInt ∧ (M 18 6).toInt ≤ 4) ∧ (18 ≤ (M 18 0).toInt ∧ (M 18 0).toInt ≤ 25) := by
  obtain ⟨a1, a2, a3⟩ := B.2.2.2 3 (by decide)
  obtain ⟨b1, b2, b3⟩ := B.2.2.2 4 (by decide)
  obtain ⟨c1, c2, c3⟩ := B.2.2.2 5 (by decide)
  obtain ⟨d1, d2, d3⟩ := B.2.2.2 6 (by decide)
  obtain ⟨f1, f2, f3⟩ := B.2.2.2 0 (by decide)
  have x1 : (fLo 3).toInt = 0 := by decide
  have x2 : (fHi 3).toInt = 9999 := by decide
  have x3 : (fLo 4).toInt = 0 := by decide
  have x4 : (fHi 4).toInt = 200 := by decide
  have x5 : (fLo 5).toInt = 0 := by decide
  have x6 : (fHi 5).toInt = 100 := by decide
  have x7 : (fLo 6).toInt = 1 := by decide
  have x8 : (fHi 6).toInt = 4 := by decide
  have x9 : (fLo 0).toInt = 18 := by decide
  have x10 : (fHi 0).toInt = 25 := by decide
  rw [a1, b1, c1, d1, f1]
  omega
theorem BB.mX_bd (B : BB M N V A ng nw ne no) {w : Nat} (hw : w < nw) (d : Nat) {amt : Int32} (ha : amtP amt) (k : Nat) : -61000000 ≤ (mX V A ne w d amt k).toInt ∧ (mX V A ne w d amt k).toInt ≤ 61000000 ∧ (mX V A ne w d amt k).toInt = (mD V A ne w k).toInt - (if 360 + d ≤ k then amt.toInt else 0) := by
  have h1 := B.mD_bd hw k
  have ha1 := ha.1
  have ha2 := ha.2
  have hn : (-amt).toInt = -amt.toInt := i_neg (by omega)
  unfold mX
  by_cases c : 360 + d ≤ k
  · rw [if_pos c, if_pos c, i_add (by rw [hn]; omega) (by rw [hn]; omega), hn]; omega
  · rw [if_neg c, if_neg c, Int32.add_zero]; omega
/-- the first day saves most -/
theorem BB.best (B : BB M N V A ng nw ne no) {w g y d : Nat} (hw : w < nw) (hg : g < 360) {amt : Int32} (ha : amtP amt) (h1 : 360 * y ≤ d) (h2 : d < 360 * y + 360) : (kSaved V A ne w g (M 18 3) (M 18 4) d amt).toInt ≤ (kSaved V A ne w g (M 18 3) (M 18 4) (360 * y) amt).toInt ∧ -100000000 ≤ (kSaved V A ne w g (M 18 3) (M 18 4) d amt).toInt := by
  obtain ⟨⟨f0, f1⟩, ⟨r0, r1⟩, -⟩ := B.r
  have hb1 : ∀ d j : Nat, j ≤ 360 * y + 719 → -61000000 ≤ (mX V A ne w d amt j).toInt ∧ (mX V A ne w d amt j).toInt ≤ 61000000 := fun d j _ => ⟨(B.mX_bd hw d ha j).1, (B.mX_bd hw d ha j).2.1⟩
  have hb0 : ∀ j, j ≤ 360 * y + 719 → -61000000 ≤ (mD V A ne w j).toInt ∧ (mD V A ne w j).toInt ≤ 61000000 := fun j _ => by have := B.mD_bd hw j; omega
  have k0 := kChg_z (F := mD V A ne w) (y := y) hg f0 f1 r0 r1 hb0 (T := 61000000) (by omega) (by omega) (fun j hj => (kIdle_z f0 f1 (fun i hi => hb0 i (by omega)) (by omega)).2.2)
  have kd := fun d => kChg_z (F := mX V A ne w d amt) (y := y) hg f0 f1 r0 r1 (hb1 d) (T := 61000000) (by omega) (by omega) (fun j hj => (kIdle_z f0 f1 (fun i hi => hb1 d i (by omega)) (by omega)).2.2)
  have e1 : d / 360 = y := by omega
  have e2 : 360 * y / 360 = y := by omega
  unfold kSaved
  rw [e1, e2]
  obtain ⟨-, a1, a2⟩ := k0
  obtain ⟨b0, b1, b2⟩ := kd d
  obtain ⟨c0, c1, c2⟩ := kd (360 * y)
  rw [i_sub (by omega) (by omega), i_sub (by omega) (by omega)]
  have mono : zS (fun j => (kIdle (mX V A ne w (360 * y) amt) g (M 18 3) (360 * y + 360 + j)).toInt) 360 ≤ zS (fun j => (kIdle (mX V A ne w d amt) g (M 18 3) (360 * y + 360 + j)).toInt) 360 := zS_mono (fun j hj => by
    rw [(kIdle_z (f := mX V A ne w d amt) f0 f1 (fun i hi => hb1 d i (by omega)) (by omega)).1, (kIdle_z (f := mX V A ne w (360 * y) amt) f0 f1 (fun i hi => hb1 (360 * y) i (by omega)) (by omega)).1]
    have := mW_mono (f := mX V A ne w (360 * y) amt) (f' := mX V A ne w d amt) (lo := 360 * y + 360 + j - g) (n := g) (fun i i1 i2 => by
      have q1 := (B.mX_bd hw (360 * y) ha i).2.2
      have q2 := (B.mX_bd hw d ha i).2.2
      have ha1 := ha.1
      rw [q1, q2]
      by_cases s1 : 360 + d ≤ i
      · rw [if_pos s1, if_pos (by omega)]; omega
      · rw [if_neg s1]; split <;> omega)
    omega)
  have m2 := Int.mul_le_mul_of_nonneg_right mono r0
  have m3 := Int.ediv_le_ediv (show (0 : Int) < 360000 by decide) m2
  rw [← c0, ← b0] at m3
  omega
end
theorem c_isAmount (M : xM) (d : Int32) : f_X10_isAmount M d = some (pI (amtP d)) := by
  simp only [f_X10_isAmount, b_X10_isAmount_0, b_X10_isAmount_16, b_X10_isAmount_17, gz0, gz1, i_lt, i_le]
  have e0 : (1 : Int32).toInt = 1 := by decide
  have e1 : (99999 : Int32).toInt = 99999 := by decide
  rw [e0, e1]
  unfold pI amtP
  split <;> (try split) <;> (try split) <;> (first | rfl | omega)
theorem m_isAmount (N : xM) (d : Int32) : f_X11_isAmount N d = some (pI (amtP d)) := by
  simp only [f_X11_isAmount, b_X11_isAmount_0]
  rw [m_in1 N d 1 99999 (by omega) (by omega) 1 99999 (by decide) (by decide), bd_s, gz_p]
  rfl
theorem c_saved {M N : xM} (h : Rel M N) (w d a : Int32) : ∃ r M1 N1, f_X10_saved M w d a = some (r, M1) ∧ f_X11_saved N w d a = some (r, N1) ∧ SameM M M1 ∧ SameN N N1 := by
  obtain ⟨N1, e1, S, V, A, ng, nw, ne, no, B⟩ := h.th
  simp only [f_X10_saved, b_X10_saved_0, b_X10_saved_45, f_X11_saved, b_X11_saved_0, b_X11_saved_42, lt_d, e1]
  rw [B.hW, B.iW, bd_s, bd_s, c_isDay, m_isDay, bd_s, bd_s, c_isAmount, m_isAmount, bd_s, bd_s]
  have R0 := SameM.rf M
  by_cases c : wP nw w
  rotate_left
  · rw [fp_f c, fp_f c]; exact ⟨_, _, _, rfl, rfl, R0, S⟩
  rw [fp_t c, fp_t c]
  by_cases c2 : dayP d
  rotate_left
  · rw [fp_f c2, fp_f c2]; exact ⟨_, _, _, rfl, rfl, R0, S⟩
  rw [fp_t c2, fp_t c2]
  by_cases c3 : amtP a
  rotate_left
  · rw [fp_f c3, fp_f c3]; exact ⟨_, _, _, rfl, rfl, R0, S⟩
  rw [fp_t c3, fp_t c3]
  have hb := B.bd
  obtain ⟨j, hj, rfl⟩ := wP_of (by omega) c
  obtain ⟨k, hk, rfl⟩ := dy_of c2
  obtain ⟨g, g1, g2, g3⟩ := B.g
  obtain ⟨-, -, -, b3, -⟩ := B.k.w hj
  rw [gd_n (by omega) (by decide), clN (by omega), b3, B.its 15 hj 15 (by decide) rfl, bd_s, nI_div k hk]
  by_cases c4 : V (7 + 37 * j + 15) ≤ nI (k / 360)
  rotate_left
  · rw [if_neg c4, if_neg c4]; exact ⟨_, _, _, rfl, rfl, R0, S⟩
  rw [if_pos c4, if_pos c4]
  obtain ⟨M1, m1, m2⟩ := c_savedBy B hj hk g1 g2 a
  obtain ⟨L, l1, l2, l3, l4⟩ := m_laysMoney B hj
  have s3 : L 3 = N1 3 := l2.2.2.2.2.1
  have e2 := (B.2.2.2 2 (by decide)).1
  have e3 := (B.2.2.2 3 (by decide)).1
  have e4 := (B.2.2.2 4 (by decide)).1
  obtain ⟨W, w1, w2⟩ := m_chargeBy (W0 := L) (F := mD V A ne j) (y := k / 360) g1 (by rw [s3]; exact g3) (by omega) l4
  obtain ⟨W2, v1, v2, v3⟩ := m_savedOn (W0 := W) (V := V) (A := A) (ne := ne) (w := j) (d := k) hk g1 (by rw [w2 3 (by decide) (by decide), s3]; exact g3) (fun q hq => by rw [w2 9 (by decide) (by decide)]; exact l4 q hq) a (kChg (mD V A ne j) g (L 3 3) (L 3 4) (k / 360))
  rw [m1, bd2_s, l1, bd_s, w1, bd2_s, v1, bd2_s, w2 3 (by decide) (by decide), s3, ← e3, ← e4]
  exact ⟨_, _, _, rfl, rfl, m2, ((S.tr l2).r1011 w2).r91011 v2⟩
theorem c_bestDay {M N : xM} (h : Rel M N) (w y a b : Int32) : ∃ r M1 N1, f_X10_bestDay M w y a b = some (r, M1) ∧ f_X11_bestDay N w y a b = some (r, N1) ∧ SameM M M1 ∧ SameN N N1 := by
  obtain ⟨N1, e1, S, V, A, ng, nw, ne, no, B⟩ := h.th
  simp only [f_X10_bestDay, b_X10_bestDay_0, b_X10_bestDay_52, b_X10_bestDay_79, f_X11_bestDay, b_X11_bestDay_0, b_X11_bestDay_49, b_X11_bestDay_148, b_X11_bestDay_80, lt_d, e1]
  rw [B.hW, B.iW, bd_s, bd_s, c_isYear, m_isYear, bd_s, bd_s, c_isAmount, m_isAmount, bd_s, bd_s, m_in1 N1 b 0 1 (by omega) (by omega) 0 1 (by decide) (by decide), bd_s]
  have R0 := SameM.rf M
  by_cases c : wP nw w
  rotate_left
  · rw [fp_f c, fp_f c]; exact ⟨_, _, _, rfl, rfl, R0, S⟩
  rw [fp_t c, fp_t c]
  by_cases c2 : yearP y
  rotate_left
  · rw [fp_f c2, fp_f c2]; exact ⟨_, _, _, rfl, rfl, R0, S⟩
  rw [fp_t c2, fp_t c2]
  by_cases c3 : amtP a
  rotate_left
  · rw [fp_f c3, fp_f c3]; exact ⟨_, _, _, rfl, rfl, R0, S⟩
  rw [fp_t c3, fp_t c3]
  by_cases c5 : ((0 : Nat) : Int) ≤ b.toInt ∧ b.toInt ≤ ((1 : Nat) : Int)
  rotate_left
  · rw [fp_f c5]
    by_cases c6 : b < 0
    · rw [if_pos c6]; exact ⟨_, _, _, rfl, rfl, R0, S⟩
    · rw [if_neg c6, if_pos (show (1 : Int32) < b by rw [i_lt, i1]; rw [i_lt, i0] at c6; omega)]; exact ⟨_, _, _, rfl, rfl, R0, S⟩
  rw [fp_t c5, if_neg (show ¬ b < 0 by rw [i_lt, i0]; omega), if_neg (show ¬ (1 : Int32) < b by rw [i_lt, i1]; omega)]
  have hb := B.bd
  obtain ⟨j, hj, rfl⟩ := wP_of (by omega) c
  obtain ⟨k, hk, rfl⟩ := yr_of c2
  obtain ⟨g, g1, g2, g3⟩ := B.g
  obtain ⟨-, -, -, b3, -⟩ := B.k.w hj
  rw [gd_n (by omega) (by decide), clN (by omega), b3, B.its 15 hj 15 (by decide) rfl, bd_s]
  by_cases c4 : V (7 + 37 * j + 15) ≤ nI k
  rotate_left
  · rw [if_neg c4, if_neg c4]; exact ⟨_, _, _, rfl, rfl, R0, S⟩
  rw [if_pos c4, if_pos c4, c_firstDay, bd_s]
  obtain ⟨M1, m1, m2⟩ := c_savedBy B hj (d := 360 * k) (by omega) g1 g2 a
  obtain ⟨L, l1, l2, l3, l4⟩ := m_laysMoney B hj
  have s3 : L 3 = N1 3 := l2.2.2.2.2.1
  have e2 := (B.2.2.2 2 (by decide)).1
  have e3 := (B.2.2.2 3 (by decide)).1
  have e4 := (B.2.2.2 4 (by decide)).1
  obtain ⟨W, w1, w2⟩ := m_chargeBy (W0 := L) (F := mD V A ne j) (y := k) g1 (by rw [s3]; exact g3) hk l4
  rw [l1, bd_s, w1, bd2_s, y360', s3, ← e3, ← e4]
  have hbest := fun d h1 h2 => B.best (w := j) (g := g) (y := k) (d := d) hj g1 c3 h1 h2
  have hb0 := hbest (360 * k) (by omega) (by omega)
  generalize hch : kChg (mD V A ne j) g (M 18 3) (M 18 4) k = ch
  have eM : (-1000000000 : Int32).toInt = -1000000000 := by decide
  obtain ⟨⟨W2, be, mo⟩, hl, x1, x2, x3⟩ := loopN_inv (body := fun s : xM × Int32 × Int32 × Int32 => bl_X11_bestDay_80 s.1 (nI k) a b ch s.2.1 s.2.2.1 s.2.2.2)
    (I := fun p s => s.2.2.2 = nI (360 * k + p) ∧ (∀ q, q ≠ 9 → q ≠ 10 → q ≠ 11 → s.1 q = W q) ∧ (∀ q, q < 3960 → s.1 9 q = mD V A ne j q) ∧ (p = 0 → s.2.1 = -1 ∧ s.2.2.1 = -1000000000) ∧ (0 < p → s.2.1 = nI (360 * k) ∧ s.2.2.1 = kSaved V A ne j g (M 18 3) (M 18 4) (360 * k) a))
    (P := fun s => (∀ q, q ≠ 9 → q ≠ 10 → q ≠ 11 → s.1 q = W q) ∧ s.2.1 = nI (360 * k) ∧ s.2.2 = kSaved V A ne j g (M 18 3) (M 18 4) (360 * k) a) 360 (by
      rintro p ⟨W1, be, mo, x⟩ hp ⟨h1, h2, h3, h4, h5⟩
      dsimp only at h1 h2 h3 h4 h5
      subst h1
      obtain ⟨W2, v1, v2, v3⟩ := m_savedOn (W0 := W1) (V := V) (A := A) (ne := ne) (w := j) (d := 360 * k + p) (by omega) g1 (by rw [h2 3 (by decide) (by decide) (by decide), w2 3 (by decide) (by decide), s3]; exact g3) h3 a ch
      have es : ch - kChg (mX V A ne j (360 * k + p) a) g (W1 3 3) (W1 3 4) ((360 * k + p) / 360) = kSaved V A ne j g (M 18 3) (M 18 4) (360 * k + p) a := by
        unfold kSaved
        rw [← hch, h2 3 (by decide) (by decide) (by decide), w2 3 (by decide) (by decide), s3, ← e3, ← e4, show (360 * k + p) / 360 = k by omega]
      rw [es] at v1
      obtain ⟨z1, z2⟩ := hbest (360 * k + p) (by omega) (by omega)
      dsimp only
      simp only [bl_X11_bestDay_80, b_X11_bestDay_119, lt_d, nI_1]
      rw [y360', show nI (360 * k) + (360 : Int32) = nI (360 * k + 360) from nI_add _ 360, if_neg (nI_ge (by omega) (by omega)), v1, bd2_s]
      have v2' : ∀ q, q ≠ 9 → q ≠ 10 → q ≠ 11 → W2 q = W q := fun q a b c => by rw [v2 q a b c, h2 q a b c]
      by_cases p0 : p = 0
      · subst p0
        obtain ⟨q1, q2⟩ := h4 rfl
        subst q1 q2
        rw [if_neg (show ¬ kSaved V A ne j g (M 18 3) (M 18 4) (360 * k + 0) a ≤ -1000000000 by rw [i_le, eM]; omega)]
        refine ⟨_, rfl, rfl, v2', v3, fun z => absurd z (by omega), fun _ => ⟨rfl, ?_⟩⟩
        dsimp only
        rw [i_eq, imax_i, eM]
        show max _ (kSaved V A ne j g (M 18 3) (M 18 4) (360 * k + 0) a).toInt = (kSaved V A ne j g (M 18 3) (M 18 4) (360 * k + 0) a).toInt
        omega
      · obtain ⟨q1, q2⟩ := h5 (by omega)
        subst q1 q2
        rw [if_pos (by rw [i_le]; exact z1)]
        refine ⟨_, rfl, rfl, v2', v3, fun z => absurd z (by omega), fun _ => ⟨rfl, ?_⟩⟩
        dsimp only
        rw [i_eq, imax_i]
        omega) (by
      rintro ⟨W1, be, mo, x⟩ ⟨h1, h2, h3, h4, h5⟩
      dsimp only at h1 h2 h3 h4 h5
      subst h1
      obtain ⟨q1, q2⟩ := h5 (by omega)
      dsimp only
      simp only [bl_X11_bestDay_80]
      rw [y360', show nI (360 * k) + (360 : Int32) = nI (360 * k + 360) from nI_add _ 360, if_pos (nI_le (by omega) (by omega))]
      exact ⟨_, rfl, h2, q1, q2⟩) (W, -1, -1000000000, nI (360 * k)) BG ⟨rfl, fun _ _ _ _ => rfl, fun q hq => by
        dsimp only
        rw [w2 9 (by decide) (by decide)]; exact l4 q hq, fun _ => ⟨rfl, rfl⟩, fun z => absurd z (Nat.lt_irrefl 0)⟩ (BG_lt (by omega))
  dsimp only at x1 x2 x3
  subst x2 x3
  rw [hl, bd_s]
  have SL := ((S.tr l2).r1011 w2).r91011 x1
  dsimp only
  by_cases c6 : b = 0
  · rw [if_pos c6, if_pos c6]; exact ⟨_, _, _, rfl, rfl, R0, SL⟩
  · rw [if_neg c6, if_neg c6, m1, bd2_s]
    exact ⟨_, _, _, rfl, rfl, m2, SL⟩
