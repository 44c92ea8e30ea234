/-! charges -/
def mX (V A : Nat → Int32) (ne w dx : Nat) (amt : Int32) (k : Nat) : Int32 := mD V A ne w k + (if 360 + dx ≤ k then -amt else 0)
theorem mX_0 (V A : Nat → Int32) (ne w dx : Nat) : mX V A ne w dx 0 = mD V A ne w := by
  funext k
  unfold mX
  have e : -(0 : Int32) = 0 := by decide
  rw [e]
  split <;> exact Int32.add_zero _
theorem kIdle_sh {f f' : Nat → Int32} {g c j : Nat} {fl : Int32} (hg : g < 360) (h : ∀ i, i < 720 → f i = f' (c + i)) (hj : j < 360) : kIdle f g fl (360 + j) = kIdle f' g fl (c + 360 + j) := by
  unfold kIdle
  rw [mW_congr (f := f) (f' := f') (lo := 360 + j - g) (lo' := c + 360 + j - g) (n := g) (fun i hi => by rw [h _ (by omega), show c + (360 + j - g + i) = c + 360 + j - g + i by omega])]
def sL (f : Nat → Int64) : Nat → Int64
  | 0 => 0
  | n + 1 => sL f n + f n
theorem sL_congr {f g : Nat → Int64} : ∀ {n : Nat}, (∀ i, i < n → f i = g i) → sL f n = sL g n
  | 0, _ => rfl
  | n + 1, h => by rw [sL, sL, sL_congr (n := n) (fun i hi => h i (by omega)), h n (by omega)]
theorem accL {body : Int64 × Int32 → Option ((Int64 × Int32) ⊕ Int64)} (f : Nat → Int64) (b n : Nat) (hn : n < 100000) (hs : ∀ i x, i < n → body (x, nI (b + i)) = some (.inl (x + f i, nI (b + i + 1)))) (he : ∀ x, body (x, nI (b + n)) = some (.inr x)) : loopN body BG (0, nI b) = some (sL f n) := by
  have h := loopN_up (body := body) (r := sL f n) (fun k => (sL f k, nI (b + k))) n (fun i hi => by rw [hs i _ hi, sL]; rfl) (he _) BG (BG_lt hn)
  exact h
def kChg (F : Nat → Int32) (g : Nat) (fl rate : Int32) (y : Nat) : Int32 := ((sL (fun j => (kIdle F g fl (360 * y + 360 + j)).toInt64) 360 * rate.toInt64) / (360000 : Int64)).toInt32
section
variable {M N : xM} {V A : Nat → Int32} {ng nw ne no : Nat}
theorem BB.g (B : BB M N V A ng nw ne no) : ∃ g, g < 360 ∧ M 18 2 = nI g ∧ N 3 2 = nI g := by
  obtain ⟨h1, h2, h3⟩ := B.2.2.2 2 (by decide)
  have e1 : (fLo 2).toInt = 0 := by decide
  have e2 : (fHi 2).toInt = 359 := by decide
  rw [e1] at h2
  rw [e2] at h3
  obtain ⟨g, g1, g2, g3⟩ := nI_of0 h2
  exact ⟨g, by omega, by rw [h1, g2], g2⟩
theorem c_more (B : BB M N V A ng nw ne no) {w y dx g : Nat} (hw : w < nw) (hy : y < 10) (h1 : 360 * y ≤ dx) (h2 : dx < 360 * y + 360) (hg : g < 360) (hgv : M 18 2 = nI g) (amt : Int32) : ∃ W, f_X9_lookWithMoreOut M (nI w) (nI y) (nI dx) amt = some W ∧ SameM M W ∧ (∀ i, i < 720 → W 12 i = mX V A ne w dx amt (360 * y + i)) ∧ ∀ j, j < 360 → W 13 j = kIdle (mX V A ne w dx amt) g (M 18 3) (360 * y + 360 + j) := by
  obtain ⟨W, w1, w2, w3⟩ := c_lookMore B hw hy h1 h2 amt
  have w2' : ∀ i, i < 720 → W 12 i = mX V A ne w dx amt (360 * y + i) := w2
  obtain ⟨W2, v1, v2, v3⟩ := c_findIdle (W0 := W) hg w2' (M 18 3)
  rw [w3, hgv, v1, bd_s]
  refine ⟨W2, rfl, fun k a b c d => ?_, fun i hi => ?_, fun j hj => ?_⟩
  · rw [v2 k (by omega) (by omega), w1 k (by omega)]
  · rw [v2 12 (by decide) (by decide)]; exact w2' i hi
  · rw [v3 j hj]
    exact kIdle_sh hg (fun i hi => rfl) hj
theorem c_look (B : BB M N V A ng nw ne no) {w y g : Nat} (hw : w < nw) (hy : y < 10) (hg : g < 360) (hgv : M 18 2 = nI g) : ∃ W, f_X9_look M (nI w) (nI y) = some W ∧ SameM M W ∧ (∀ i, i < 720 → W 12 i = mD V A ne w (360 * y + i)) ∧ ∀ j, j < 360 → W 13 j = kIdle (mD V A ne w) g (M 18 3) (360 * y + 360 + j) := by
  obtain ⟨W, w1, w2, w3, w4⟩ := c_more B hw hy (dx := 360 * y) (Nat.le_refl _) (by omega) hg hgv 0
  rw [mX_0] at w3 w4
  simp only [f_X9_look, b_X9_look_0]
  rw [c_firstDay, bd_s, w1, bd_s]
  exact ⟨W, rfl, w2, w3, w4⟩
theorem c_chargeAt {W : xM} {F : Nat → Int32} {g y : Nat} {fl : Int32} (h : ∀ j, j < 360 → W 13 j = kIdle F g fl (360 * y + 360 + j)) (rate : Int32) : f_X9_chargeAt W rate = some (kChg F g fl rate y) := by
  simp only [f_X9_chargeAt, b_X9_chargeAt_0, b_X9_chargeAt_5]
  have hl := accL (body := fun s : Int64 × Int32 => bl_X9_chargeAt_5 W rate s.1 s.2) (fun j => (kIdle F g fl (360 * y + 360 + j)).toInt64) 0 360 (by omega) (fun i x hi => by
    simp only [bl_X9_chargeAt_5, lt_d]
    rw [Nat.zero_add, if_neg (show ¬ (360 : Int32) ≤ nI i from nI_ge (b := 360) hi (by omega)), gd_n (by omega) (by decide), clN (by omega), h i hi, nI_1]) (fun x => by
    simp only [bl_X9_chargeAt_5]
    rw [if_pos (show (360 : Int32) ≤ nI (0 + 360) from Int32.le_refl _)])
  rw [show ((0 : Int64), (0 : Int32)) = (0, nI 0) from rfl, hl, bd_s]
  rfl
theorem m_chargeBy {W0 : xM} {F : Nat → Int32} {g y : Nat} (hg : g < 360) (hgv : W0 3 2 = nI g) (hy : y < 10) (hf : ∀ i, i < 3960 → W0 9 i = F i) : ∃ W, f_X11_chargeBy W0 (nI y) = some (kChg F g (W0 3 3) (W0 3 4) y, W) ∧ ∀ k, k ≠ 10 → k ≠ 11 → W k = W0 k := by
  obtain ⟨W, w1, w2, w3⟩ := m_laysIdle hg hgv (a0 := 360 * y) (b0 := 360 * y + 359) (by omega) (by omega) hf
  simp only [f_X11_chargeBy, b_X11_chargeBy_0, lt_d, b_X11_chargeBy_29]
  rw [y359', y360', w1, bd_s]
  have hl := accL (body := fun s : Int64 × Int32 => bl_X11_chargeBy_29 W (nI y) s.1 s.2) (fun j => (kIdle F g (W0 3 3) (360 * y + 360 + j)).toInt64) (360 * y) 360 (by omega) (fun i x hi => by
    simp only [bl_X11_chargeBy_29, lt_d]
    rw [y360', show nI (360 * y) + (360 : Int32) = nI (360 * y + 360) from nI_add _ 360, if_neg (nI_ge (by omega) (by omega)), gd_n (by omega) (by decide), clN (by omega), w3 _ (by omega) (by omega), nI_1, show 360 + (360 * y + i) = 360 * y + 360 + i by omega]) (fun x => by
    simp only [bl_X11_chargeBy_29]
    rw [y360', show nI (360 * y) + (360 : Int32) = nI (360 * y + 360) from nI_add _ 360, if_pos (nI_le (by omega) (by omega))])
  rw [hl, bd_s, gd_d (by decide) (by decide), cl4, w2 3 (by decide) (by decide)]
  exact ⟨W, rfl, w2⟩
theorem SameN.r1011 {N L W : xM} (S : SameN N L) (h : ∀ k, k ≠ 10 → k ≠ 11 → W k = L k) : SameN N W := by
  obtain ⟨a1, a2, a3, a4, a5, a6, a7, a8, a9⟩ := S
  refine ⟨?_, ?_, ?_, ?_, ?_, ?_, ?_, ?_, ?_⟩
  · rw [h 0 (by decide) (by decide)]; exact a1
  · rw [h 0 (by decide) (by decide)]; exact a2
  · rw [h 0 (by decide) (by decide)]; exact a3
  · rw [h 1 (by decide) (by decide)]; exact a4
  · rw [h 3 (by decide) (by decide)]; exact a5
  · rw [h 4 (by decide) (by decide)]; exact a6
  · rw [h 5 (by decide) (by decide)]; exact a7
  · rw [h 6 (by decide) (by decide)]; exact a8
  · rw [h 7 (by decide) (by decide)]; exact a9
def kCharge (V A : Nat → Int32) (ne w g : Nat) (fl rate : Int32) (y : Nat) : Int32 := if V (7 + 37 * w + 15) ≤ nI y then kChg (mD V A ne w) g fl rate y else V (7 + 37 * w + 16 + y)
theorem c_chargeOf (B : BB M N V A ng nw ne no) {w y g : Nat} (hw : w < nw) (hy : y < 10) (hg : g < 360) (hgv : M 18 2 = nI g) : ∃ M1, f_X10_chargeOf M (nI w) (nI y) = some (kCharge V A ne w g (M 18 3) (M 18 4) y, M1) ∧ SameM M M1 := by
  have hb := B.bd
  obtain ⟨-, -, -, b3, -, -, b6⟩ := B.k.w hw
  obtain ⟨-, -, -, ⟨cl, hcl, v3, -⟩, -⟩ := B.wf.w hw
  simp only [f_X10_chargeOf, b_X10_chargeOf_0]
  unfold kCharge
  rw [gd_n (by omega) (by decide), clN (by omega), b3, v3]
  by_cases c : nI cl ≤ nI y
  · obtain ⟨W, w1, w2, w3, w4⟩ := c_look B hw hy hg hgv
    rw [if_pos c, if_pos c, w1, bd_s, gd_d (by decide) (by decide), cl4, w2 18 (by decide) (by decide) (by decide) (by decide), c_chargeAt w4, bd_s]
    exact ⟨W, rfl, w2⟩
  · have c' : y < cl := by
      rw [i_le, nI_toInt (by omega), nI_toInt (by omega)] at c; omega
    rw [if_neg c, if_neg c, gd_n (by omega) (by decide), gd_n (by omega) (by decide), clN (by omega), show 25 + 5 * w + 3 = 28 + 5 * w by omega, (b6 y (by rw [v3]; exact nI_lt' c' (by omega)) hy).1]
    exact ⟨M, rfl, SameM.rf M⟩
theorem m_chargeOf (B : BB M N V A ng nw ne no) {w y g : Nat} (hw : w < nw) (hy : y < 10) (hg : g < 360) (hgv : M 18 2 = nI g) : ∃ L, f_X11_chargeOf N (nI w) (nI y) = some (kCharge V A ne w g (M 18 3) (M 18 4) y, L) ∧ SameN N L ∧ ((∀ i, i < ne → L 8 i = A i) ∨ (L = N ∧ ¬ V (7 + 37 * w + 15) ≤ nI y)) := by
  have e2 := (B.2.2.2 2 (by decide)).1
  have e3 := (B.2.2.2 3 (by decide)).1
  have e4 := (B.2.2.2 4 (by decide)).1
  simp only [f_X11_chargeOf, b_X11_chargeOf_0]
  unfold kCharge
  rw [B.its 15 hw 15 (by decide) rfl, bd_s, B.its (16 + nI y) hw (16 + y) (by omega) (nI_add 16 y), bd_s]
  by_cases c : V (7 + 37 * w + 15) ≤ nI y
  · obtain ⟨L, l1, l2, l3, l4⟩ := m_laysMoney B hw
    have s3 : L 3 = N 3 := l2.2.2.2.2.1
    obtain ⟨W, w1, w2⟩ := m_chargeBy (W0 := L) (F := mD V A ne w) hg (by rw [s3, ← e2]; exact hgv) hy l4
    rw [if_pos c, if_pos c, l1, bd_s, w1, bd2_s, s3, e3, e4]
    exact ⟨W, rfl, l2.r1011 w2, Or.inl (fun i hi => by rw [w2 8 (by decide) (by decide)]; exact l3 i hi)⟩
  · rw [if_neg c, if_neg c, show 7 + 37 * w + (16 + y) = 7 + 37 * w + 16 + y by omega]
    exact ⟨N, rfl, SameN.rf N, Or.inr ⟨rfl, c⟩⟩
end
theorem c_charge {M N : xM} (h : Rel M N) (w y : Int32) : ∃ r M1 N1, f_X10_charge M w y = some (r, M1) ∧ f_X11_charge N w y = some (r, N1) ∧ SameM M M1 ∧ SameN N N1 := by
  obtain ⟨N1, e1, S, V, A, ng, nw, ne, no, B⟩ := h.th
  simp only [f_X10_charge, b_X10_charge_0, b_X10_charge_27, b_X10_charge_29, f_X11_charge, b_X11_charge_0, b_X11_charge_29, b_X11_charge_32, lt_d, e1]
  rw [B.hW, B.iW, bd_s, bd_s, c_isYear, m_isYear, bd_s, bd_s]
  have R0 := SameM.rf M
  by_cases c : wP nw w
  rotate_left
  · rw [fp_f c, fp_f c]; exact ⟨_, _, _, rfl, rfl, R0, S⟩
  rw [fp_t c, fp_t c]
  by_cases c2 : yearP y
  rotate_left
  · rw [fp_f c2, fp_f c2]; exact ⟨_, _, _, rfl, rfl, R0, S⟩
  rw [fp_t c2, fp_t c2]
  have hb := B.bd
  obtain ⟨j, hj, rfl⟩ := wP_of (by omega) c
  obtain ⟨k, hk, rfl⟩ := yr_of c2
  obtain ⟨g, g1, g2, g3⟩ := B.g
  obtain ⟨M1, m1, m2⟩ := c_chargeOf B hj hk g1 g2
  obtain ⟨L, l1, l2, -⟩ := m_chargeOf B hj hk g1 g2
  rw [m1, l1]
  exact ⟨_, _, _, rfl, rfl, m2, S.tr l2⟩
theorem dy_of {d : Int32} (h : dayP d) : ∃ n, n < 3600 ∧ d = nI n := by
  obtain ⟨j, h1, h2, h3⟩ := nI_of0 h.1
  have := h.2
  exact ⟨j, by omega, h2⟩
theorem nI_div (n : Nat) (h : n < 3600) : nI n / (360 : Int32) = nI (n / 360) := by
  have e := d360 (a := nI n) ⟨by rw [nI_toInt (by omega)]; omega, by rw [nI_toInt (by omega)]; omega⟩
  rw [i_eq, e, nI_toInt (by omega), nI_toInt (by omega)]; omega
theorem nI_mod (n : Nat) (h : n < 3600) : nI n - nI n / (360 : Int32) * (360 : Int32) = nI (n % 360) := by
  rw [nI_div n h, y360, nI_sub _ _ (by omega)]
  congr 1
  omega
section
variable {M N : xM} {V A : Nat → Int32} {ng nw ne no : Nat}
theorem c_idleOn (B : BB M N V A ng nw ne no) {w d g : Nat} (hw : w < nw) (hd : d < 3600) (hg : g < 360) (hgv : M 18 2 = nI g) : ∃ M1, f_X10_idleOn M (nI w) (nI d) = some (kIdle (mD V A ne w) g (M 18 3) (360 + d), M1) ∧ SameM M M1 := by
  simp only [f_X10_idleOn, b_X10_idleOn_0]
  rw [nI_mod d hd, nI_div d hd]
  obtain ⟨W, w1, w2, w3, w4⟩ := c_look B hw (y := d / 360) (by omega) hg hgv
  rw [w1, bd_s, gd_n (by omega) (by decide), clN (by omega), w4 _ (by omega), show 360 * (d / 360) + 360 + d % 360 = 360 + d by omega]
  exact ⟨W, rfl, w2⟩
theorem m_idleOn (B : BB M N V A ng nw ne no) {w d g : Nat} (hw : w < nw) (hd : d < 3600) (hg : g < 360) (hgv : M 18 2 = nI g) : ∃ L, f_X11_idleOn N (nI w) (nI d) = some (kIdle (mD V A ne w) g (M 18 3) (360 + d), L) ∧ SameN N L := by
  have e2 := (B.2.2.2 2 (by decide)).1
  have e3 := (B.2.2.2 3 (by decide)).1
  simp only [f_X11_idleOn, b_X11_idleOn_0]
  obtain ⟨L, l1, l2, l3, l4⟩ := m_laysMoney B hw
  have s3 : L 3 = N 3 := l2.2.2.2.2.1
  obtain ⟨W, w1, w2, w3⟩ := m_laysIdle (W0 := L) (f := mD V A ne w) hg (by rw [s3, ← e2]; exact hgv) (Nat.le_refl d) hd l4
  rw [l1, bd_s, w1, bd_s, gd_n (by omega) (by decide), clN (by omega), w3 d (Nat.le_refl d) (Nat.le_refl d), s3, e3]
  exact ⟨W, rfl, l2.r1011 w2⟩
end
theorem c_idle {M N : xM} (h : Rel M N) (w y : Int32) : ∃ r M1 N1, f_X10_idle M w y = some (r, M1) ∧ f_X11_idle N w y = some (r, N1) ∧ SameM M M1 ∧ SameN N N1 := by
  obtain ⟨N1, e1, S, V, A, ng, nw, ne, no, B⟩ := h.th
  simp only [f_X10_idle, b_X10_idle_0, b_X10_idle_27, b_X10_idle_29, f_X11_idle, b_X11_idle_0, b_X11_idle_29, b_X11_idle_32, lt_d, e1]
  rw [B.hW, B.iW, bd_s, bd_s, c_isDay, m_isDay, bd_s, bd_s]
  have R0 := SameM.rf M
  by_cases c : wP nw w
  rotate_left
  · rw [fp_f c, fp_f c]; exact ⟨_, _, _, rfl, rfl, R0, S⟩
  rw [fp_t c, fp_t c]
  by_cases c2 : dayP y
  rotate_left
  · rw [fp_f c2, fp_f c2]; exact ⟨_, _, _, rfl, rfl, R0, S⟩
  rw [fp_t c2, fp_t c2]
  have hb := B.bd
  obtain ⟨j, hj, rfl⟩ := wP_of (by omega) c
  obtain ⟨k, hk, rfl⟩ := dy_of c2
  obtain ⟨g, g1, g2, g3⟩ := B.g
  obtain ⟨M1, m1, m2⟩ := c_idleOn B hj hk g1 g2
  obtain ⟨L, l1, l2⟩ := m_idleOn B hj hk g1 g2
  rw [m1, l1]
  exact ⟨_, _, _, rfl, rfl, m2, S.tr l2⟩
