/-! the class's view of a year: its money -/
def cM (V A : Nat → Int32) (ne w y dx : Nat) (amt : Int32) (i : Nat) : Int32 := mD V A ne w (360 * y + i) + (if 360 + dx ≤ 360 * y + i then -amt else 0)
theorem c_addFrom (M : xM) {x : Int32} (v : Int32) {a c : Nat} (hx : x.toInt = (a : Int) - c) : ∃ M1, f_X9_addFrom M x v = some M1 ∧ Bt M M1 12 ∧ ∀ i, i < 720 → M1 12 i = M 12 i + (if hit a c i then v else 0) := by
  simp only [f_X9_addFrom, b_X9_addFrom_0, b_X9_addFrom_23, lt_d]
  have e7 : (720 : Int32).toInt = 720 := by decide
  by_cases h : (720 : Int32) ≤ x
  · rw [if_pos h]
    rw [i_le, e7] at h
    refine ⟨M, rfl, Bt.rf M 12, fun i hi => ?_⟩
    rw [if_neg (fun z => by
      rcases z with q | q
      · omega
      · omega), Int32.add_zero]
  · rw [if_neg h]
    rw [i_le, e7] at h
    have hm : imax 0 x = nI (a - c) := by
      rw [i_eq, imax_i, i0, hx, nI_toInt (by omega)]; omega
    rw [hm, gd_n (by omega) (by decide), gd_n (by omega) (by decide), clN (by omega)]
    refine ⟨_, rfl, (Bt.rf M 12).u _ _, fun i hi => ?_⟩
    rw [uM_at]
    by_cases e : i = a - c
    · rw [if_pos ⟨rfl, e⟩, if_pos (show hit a c i from by
        by_cases j0 : i = 0
        · exact Or.inl ⟨j0, by omega⟩
        · exact Or.inr ⟨j0, by omega⟩), ← e]
    · rw [if_neg (fun z => e z.2), if_neg (show ¬ hit a c i from fun z => by
        rcases z with q | q
        · omega
        · omega), Int32.add_zero]
theorem c_fill12 (M : xM) : ∃ W, f_J7_fill12 M 0 = some W ∧ Bt M W 12 ∧ ∀ j, j < 720 → W 12 j = 0 := by
  simp only [f_J7_fill12, b_J7_fill12_0, b_J7_fill12_5]
  obtain ⟨W1, h1, b1, r1⟩ := loopN_inv (body := fun s : xM × Int32 => bl_J7_fill12_5 s.1 0 s.2 720)
    (I := fun p s => s.2 = nI p ∧ Bt M s.1 12 ∧ ∀ j, j < p → s.1 12 j = 0) (P := fun W => Bt M W 12 ∧ ∀ j, j < 720 → W 12 j = 0) 720 (by
      rintro p ⟨W, y⟩ hp ⟨h1, h2, h3⟩
      dsimp only at h1 h2 h3
      subst h1
      dsimp only
      simp only [bl_J7_fill12_5, lt_d, nI_1]
      rw [if_neg (show ¬ (720 : Int32) ≤ nI p from nI_ge (b := 720) hp (by omega)), gd_n (by omega) (by decide), clN (by omega)]
      refine ⟨_, rfl, rfl, h2.u _ _, fun j hj => ?_⟩
      dsimp only
      by_cases e : j = p
      · rw [e, uM_s]
      · rw [uM_j _ _ _ _ e]; exact h3 j (by omega)) (by
      rintro ⟨W, y⟩ ⟨h1, h2, h3⟩
      dsimp only at h1 h2 h3
      subst h1
      dsimp only
      simp only [bl_J7_fill12_5]
      rw [if_pos (show (720 : Int32) ≤ nI 720 from Int32.le_refl _)]
      exact ⟨_, rfl, h2, h3⟩) (M, 0) BG ⟨rfl, Bt.rf M 12, fun j hj => absurd hj (Nat.not_lt_zero j)⟩ (BG_lt (by omega))
  exact ⟨W1, by rw [h1, bd_s], b1, r1⟩
theorem c_pref (W4 : xM) {D : Nat → Int32} (C : Nat → Int32) (h : ∀ j, j < 720 → W4 12 j = D j) (h0 : C 0 = D 0) (hs : ∀ j, j + 1 < 720 → C (j + 1) = D (j + 1) + C j) : ∃ W5, loopN (fun s : xM × Int32 => bl_X9_lookWithMoreOut_132 s.1 s.2) BG (W4, 1) = some W5 ∧ Bt W4 W5 12 ∧ ∀ j, j < 720 → W5 12 j = C j :=
  loopN_inv (body := fun s : xM × Int32 => bl_X9_lookWithMoreOut_132 s.1 s.2)
    (I := fun p s => s.2 = nI (p + 1) ∧ Bt W4 s.1 12 ∧ ∀ j, j < 720 → s.1 12 j = if j < p + 1 then C j else D j) (P := fun W => Bt W4 W 12 ∧ ∀ j, j < 720 → W 12 j = C j) 719 (by
      rintro p ⟨W, x⟩ hp ⟨g1, g2, g3⟩
      dsimp only at g1 g2 g3
      subst g1
      dsimp only
      simp only [bl_X9_lookWithMoreOut_132, lt_d, nI_1]
      rw [if_neg (show ¬ (720 : Int32) ≤ nI (p + 1) from nI_ge (b := 720) (by omega) (by omega)), gd_n (by omega) (by decide), show nI (p + 1) - 1 = nI p from pk_sub (a := p + 1) (b := 1) (by omega), gd_n (by omega) (by decide), gd_n (by omega) (by decide), clN (by omega), clN (by omega)]
      refine ⟨_, rfl, rfl, g2.u _ _, fun j hj => ?_⟩
      dsimp only
      rw [uM_at]
      by_cases e : j = p + 1
      · rw [if_pos ⟨rfl, e⟩, if_pos (show j < p + 1 + 1 by omega), g3 (p + 1) (by omega), g3 p (by omega), if_neg (show ¬ p + 1 < p + 1 by omega), if_pos (show p < p + 1 by omega), e, hs p (by omega)]
      · rw [if_neg (fun z => e z.2), g3 j hj]
        by_cases c : j < p + 1
        · rw [if_pos c, if_pos (by omega)]
        · rw [if_neg c, if_neg (show ¬ j < p + 1 + 1 by omega)]) (by
      rintro ⟨W, x⟩ ⟨g1, g2, g3⟩
      dsimp only at g1 g2 g3
      subst g1
      dsimp only
      simp only [bl_X9_lookWithMoreOut_132]
      rw [if_pos (show (720 : Int32) ≤ nI (719 + 1) from Int32.le_refl _)]
      exact ⟨_, rfl, g2, fun j hj => by rw [g3 j hj, if_pos (by omega)]⟩) (W4, 1) BG ⟨rfl, Bt.rf W4 12, fun j hj => by
        dsimp only
        by_cases c : j < 0 + 1
        · rw [if_pos c, show j = 0 by omega, h0, h 0 (by omega)]
        · rw [if_neg c, h j hj]⟩ (BG_lt (by omega))
theorem add6 (a b c d e f : Int32) : a + b + (c + d) + (e + f) = b + d + e + (a + c + f) := by ac_rfl
section
variable {M N : xM} {V A : Nat → Int32} {ng nw ne no : Nat}
theorem kBr_9 (h : WF V ng nw ne no) {w cl y i : Nat} (hw : w < nw) (hcl : cl ≤ 10) (hc : V (7 + 37 * w + 15) = nI cl) (hk : 360 * y + i < 3960) : lS (fun _ => True) atY (kBr V w) (360 * y) cl i = lS (fun _ => True) atY (kBr V w) 0 9 (360 * y + i) := by
  have e1 : lS (fun _ => True) atY (kBr V w) (360 * y) 10 i = lS (fun _ => True) atY (kBr V w) (360 * y) cl i := by
    refine sI_ext hcl (fun j h1 h2 => ?_)
    have : kBr V w j = 0 := by
      unfold kBr
      rw [hc, if_neg (nI_nl (by omega) (by omega))]
    rw [this]
    split <;> rfl
  have e2 : lS (fun _ => True) atY (kBr V w) (360 * y) 10 i = lS (fun _ => True) atY (kBr V w) (360 * y) 9 i := by
    refine sI_ext (by omega) (fun j h1 h2 => ?_)
    rw [if_neg (show ¬ (True ∧ 360 * j + 720 ≤ 360 * y + i) from fun z => by have := z.2; omega)]
  rw [← e1, e2]
  refine sI_congr (fun j hj => ?_)
  rw [Nat.zero_add]
def cD (V A : Nat → Int32) (ne w y dx : Nat) (amt : Int32) (cl j : Nat) : Int32 := hS (ofW V w) (atE V) (kWorth V A) (360 * y) ne j + hS (fun _ => True) atY (kBr V w) (360 * y) cl j + (if hit (360 + dx) (360 * y) j then -amt else 0)
theorem cM_0 (h : WF V ng nw ne no) {w y dx cl : Nat} (hw : w < nw) (hy : y < 10) (h1 : 360 * y ≤ dx) (h2 : dx < 360 * y + 360) (hcl : cl ≤ 10) (v3 : V (7 + 37 * w + 15) = nI cl) (amt : Int32) : cM V A ne w y dx amt 0 = cD V A ne w y dx amt cl 0 := by
  unfold cM mD cD
  have l1 : lS (ofW V w) (atE V) (kWorth V A) 0 ne (360 * y + 0) = lS (ofW V w) (atE V) (kWorth V A) (360 * y) ne 0 := sI_congr (fun q hq => by rw [Nat.zero_add])
  rw [← kBr_9 h hw hcl v3 (by omega), l1, lS_0, lS_0, if_neg (show ¬ hit (360 + dx) (360 * y) 0 from fun z => by
    rcases z with q | q
    · omega
    · omega), if_neg (show ¬ 360 + dx ≤ 360 * y + 0 by omega)]
theorem cM_s (h : WF V ng nw ne no) {w y dx cl : Nat} (hw : w < nw) (hy : y < 10) (h1 : 360 * y ≤ dx) (h2 : dx < 360 * y + 360) (hcl : cl ≤ 10) (v3 : V (7 + 37 * w + 15) = nI cl) (amt : Int32) {p : Nat} (hp : p + 1 < 720) : cM V A ne w y dx amt (p + 1) = cD V A ne w y dx amt cl (p + 1) + cM V A ne w y dx amt p := by
  unfold cM mD cD
  rw [← kBr_9 h hw hcl v3 (by omega), ← kBr_9 h hw hcl v3 (by omega)]
  have l1 : lS (ofW V w) (atE V) (kWorth V A) 0 ne (360 * y + (p + 1)) = lS (ofW V w) (atE V) (kWorth V A) (360 * y) ne (p + 1) := sI_congr (fun q hq => by rw [Nat.zero_add])
  have l2 : lS (ofW V w) (atE V) (kWorth V A) 0 ne (360 * y + p) = lS (ofW V w) (atE V) (kWorth V A) (360 * y) ne p := sI_congr (fun q hq => by rw [Nat.zero_add])
  rw [l1, l2, lS_s, lS_s]
  have l3 : (if hit (360 + dx) (360 * y) (p + 1) then -amt else 0) + (if 360 + dx ≤ 360 * y + p then -amt else 0) = if 360 + dx ≤ 360 * y + (p + 1) then -amt else 0 := by
    by_cases c1 : 360 + dx ≤ 360 * y + p
    · rw [if_neg (show ¬ hit (360 + dx) (360 * y) (p + 1) from fun z => by
        rcases z with q | q
        · omega
        · omega), if_pos c1, if_pos (by omega), Int32.zero_add]
    · by_cases c2 : 360 + dx = 360 * y + (p + 1)
      · rw [if_pos (show hit (360 + dx) (360 * y) (p + 1) from Or.inr ⟨by omega, c2⟩), if_neg c1, if_pos (by omega), Int32.add_zero]
      · rw [if_neg (show ¬ hit (360 + dx) (360 * y) (p + 1) from fun z => by
          rcases z with q | q
          · omega
          · omega), if_neg c1, if_neg (by omega), Int32.add_zero]
  rw [← l3]
  exact add6 _ _ _ _ _ _
theorem c_lookE (B : BB M N V A ng nw ne no) {w y : Nat} {x4 amt fr : Int32} (hat : ∀ a : Nat, a < 8000 → (nI a - fr).toInt = ((360 + a : Nat) : Int) - ((360 * y : Nat) : Int)) {W1 : xM} (b1 : Bt M W1 12) (r1 : ∀ j, j < 720 → W1 12 j = 0) : ∃ W2, loopN (fun s : xM × Int32 => bl_X9_lookWithMoreOut_19 s.1 (nI w) x4 amt fr s.2) BG (W1, 0) = some W2 ∧ Bt M W2 12 ∧ ∀ j, j < 720 → W2 12 j = hS (ofW V w) (atE V) (kWorth V A) (360 * y) ne j := by
  have hb := B.bd
  exact loopN_inv (body := fun s : xM × Int32 => bl_X9_lookWithMoreOut_19 s.1 (nI w) x4 amt fr s.2)
    (I := fun p s => s.2 = nI p ∧ Bt M s.1 12 ∧ ∀ j, j < 720 → s.1 12 j = hS (ofW V w) (atE V) (kWorth V A) (360 * y) p j) (P := fun W => Bt M W 12 ∧ ∀ j, j < 720 → W 12 j = hS (ofW V w) (atE V) (kWorth V A) (360 * y) ne j) ne (by
      rintro p ⟨W, x⟩ hp ⟨h1, h2, h3⟩
      dsimp only at h1 h2 h3
      subst h1
      have BW := B.sm ((SameM.rf M).bt h2 (by omega))
      obtain ⟨d1, d2⟩ := B.wf.dN hp
      obtain ⟨-, w1, w2, -⟩ := BW.k.2.1.e hp
      obtain ⟨W3, f1, f2, f3⟩ := c_addFrom W (kWorth V A p) (hat (dyN V p) (by omega))
      dsimp only
      simp only [bl_X9_lookWithMoreOut_19, b_X9_lookWithMoreOut_63, lt_d, nI_1]
      rw [BW.k.ne.1, if_neg (nI_ge hp (by omega)), gd_n (by omega) (by decide), clN (by omega), w1, w2, d1, c_effectOnMoney BW.k hp, bd_s, f1, bd_s]
      by_cases c : V (155 + 7 * p + 1) = nI w
      · rw [if_pos c]
        refine ⟨_, rfl, rfl, h2.tr f2, fun j hj => ?_⟩
        dsimp only
        rw [f3 j hj, h3 j hj]
        show _ = hS (ofW V w) (atE V) (kWorth V A) (360 * y) p j + (if ofW V w p ∧ hit (atE V p) (360 * y) j then kWorth V A p else 0)
        by_cases e : hit (360 + dyN V p) (360 * y) j
        · rw [if_pos e, if_pos ⟨c, e⟩]
        · rw [if_neg e, if_neg (fun z => e z.2)]
      · rw [if_neg c]
        refine ⟨_, rfl, rfl, h2, fun j hj => ?_⟩
        dsimp only
        show _ = hS (ofW V w) (atE V) (kWorth V A) (360 * y) p j + (if ofW V w p ∧ hit (atE V p) (360 * y) j then kWorth V A p else 0)
        rw [if_neg (fun z => c z.1), Int32.add_zero, h3 j hj]) (by
      rintro ⟨W, x⟩ ⟨h1, h2, h3⟩
      dsimp only at h1 h2 h3
      subst h1
      have BW := B.sm ((SameM.rf M).bt h2 (by omega))
      dsimp only
      simp only [bl_X9_lookWithMoreOut_19]
      rw [BW.k.ne.1, if_pos (nI_le (Nat.le_refl ne) (by omega))]
      exact ⟨_, rfl, h2, h3⟩) (W1, 0) BG ⟨rfl, b1, fun j hj => by
        dsimp only
        rw [r1 j hj]; rfl⟩ (BG_lt (by omega))
theorem c_lookY (B : BB M N V A ng nw ne no) {w y cl : Nat} (hw : w < nw) (hcl : cl ≤ 10) (v3 : V (7 + 37 * w + 15) = nI cl) {x4 amt fr : Int32} (hat : ∀ a : Nat, a < 8000 → (nI a - fr).toInt = ((360 + a : Nat) : Int) - ((360 * y : Nat) : Int)) {W2 : xM} (b2 : Bt M W2 12) (r2 : ∀ j, j < 720 → W2 12 j = hS (ofW V w) (atE V) (kWorth V A) (360 * y) ne j) : ∃ W3, loopN (fun s : xM × Int32 => bl_X9_lookWithMoreOut_72 s.1 (nI w) x4 amt fr s.2) BG (W2, 0) = some W3 ∧ Bt M W3 12 ∧ ∀ j, j < 720 → W3 12 j = hS (ofW V w) (atE V) (kWorth V A) (360 * y) ne j + hS (fun _ => True) atY (kBr V w) (360 * y) cl j := by
  have hb := B.bd
  exact loopN_inv (body := fun s : xM × Int32 => bl_X9_lookWithMoreOut_72 s.1 (nI w) x4 amt fr s.2)
    (I := fun p s => s.2 = nI p ∧ Bt M s.1 12 ∧ ∀ j, j < 720 → s.1 12 j = hS (ofW V w) (atE V) (kWorth V A) (360 * y) ne j + hS (fun _ => True) atY (kBr V w) (360 * y) p j) (P := fun W => Bt M W 12 ∧ ∀ j, j < 720 → W 12 j = hS (ofW V w) (atE V) (kWorth V A) (360 * y) ne j + hS (fun _ => True) atY (kBr V w) (360 * y) cl j) cl (by
      rintro p ⟨W, x⟩ hp ⟨h1, h2, h3⟩
      dsimp only at h1 h2 h3
      subst h1
      have BW := B.sm ((SameM.rf M).bt h2 (by omega))
      obtain ⟨-, -, -, w5, -⟩ := BW.k.w hw
      obtain ⟨W3, f1, f2, f3⟩ := c_addFrom W (kBr V w p) (hat (360 * (p + 1)) (by omega))
      dsimp only
      simp only [bl_X9_lookWithMoreOut_72, lt_d, nI_1]
      rw [gd_n (by omega) (by decide), clN (by omega), w5, v3, if_neg (nI_ge hp (by omega)), c_firstDay, bd_s, gd_n (by omega) (by decide), c_broughtBy BW.k hw (by omega), bd_s, f1, bd_s]
      refine ⟨_, rfl, rfl, h2.tr f2, fun j hj => ?_⟩
      dsimp only
      rw [f3 j hj, h3 j hj]
      show _ = _ + (hS (fun _ => True) atY (kBr V w) (360 * y) p j + (if True ∧ hit (atY p) (360 * y) j then kBr V w p else 0))
      rw [Int32.add_assoc]
      have ea : 360 + 360 * (p + 1) = atY p := by
        show _ = 360 * p + 720
        omega
      rw [ea]
      by_cases e : hit (atY p) (360 * y) j
      · rw [if_pos e, if_pos ⟨trivial, e⟩]
      · rw [if_neg e, if_neg (fun z => e z.2)]) (by
      rintro ⟨W, x⟩ ⟨h1, h2, h3⟩
      dsimp only at h1 h2 h3
      subst h1
      have BW := B.sm ((SameM.rf M).bt h2 (by omega))
      obtain ⟨-, -, -, w5, -⟩ := BW.k.w hw
      dsimp only
      simp only [bl_X9_lookWithMoreOut_72]
      rw [gd_n (by omega) (by decide), clN (by omega), w5, v3, if_pos (nI_le (Nat.le_refl cl) (by omega))]
      exact ⟨_, rfl, h2, h3⟩) (W2, 0) BG ⟨rfl, b2, fun j hj => by
        dsimp only
        rw [r2 j hj]; exact (Int32.add_zero _).symm⟩ (BG_lt (by omega))
theorem c_lookMore (B : BB M N V A ng nw ne no) {w y dx : Nat} (hw : w < nw) (hy : y < 10) (h1 : 360 * y ≤ dx) (h2 : dx < 360 * y + 360) (amt : Int32) : ∃ W, Bt M W 12 ∧ (∀ i, i < 720 → W 12 i = cM V A ne w y dx amt i) ∧ f_X9_lookWithMoreOut M (nI w) (nI y) (nI dx) amt = bd (f_X9_findIdle W (M 18 2) (M 18 3)) (fun W2 => some W2) := by
  have hb := B.bd
  obtain ⟨-, -, -, ⟨cl, hcl, v3, -⟩, -⟩ := B.wf.w hw
  have e360 : (360 : Int32).toInt = 360 := by decide
  generalize hfr : (nI y - 1) * (360 : Int32) = fr
  have hfrz : fr.toInt = 360 * (y : Int) - 360 := by
    have q1 : (nI y - 1).toInt = (y : Int) - 1 := by rw [i_sub (by rw [nI_toInt (by omega), i1]; omega) (by rw [nI_toInt (by omega), i1]; omega), nI_toInt (by omega), i1]
    rw [← hfr, i_mul (by rw [q1, e360]; omega) (by rw [q1, e360]; omega), q1, e360]; omega
  have hat : ∀ a : Nat, a < 8000 → (nI a - fr).toInt = ((360 + a : Nat) : Int) - ((360 * y : Nat) : Int) := by
    intro a ha
    rw [i_sub (by rw [nI_toInt (by omega), hfrz]; omega) (by rw [nI_toInt (by omega), hfrz]; omega), nI_toInt (by omega), hfrz]; omega
  obtain ⟨W1, g1, b1, r1⟩ := c_fill12 M
  simp only [f_X9_lookWithMoreOut, b_X9_lookWithMoreOut_0]
  rw [show f_X10_firstDay M (nI y - 1) = some fr by rw [← hfr]; rfl, bd_s, g1, bd_s]
  simp only [b_X9_lookWithMoreOut_19]
  obtain ⟨W2, g2, b2, r2⟩ := c_lookE B (w := w) (x4 := nI dx) (amt := amt) hat b1 r1
  rw [g2, bd_s]
  simp only [b_X9_lookWithMoreOut_72]
  obtain ⟨W3, g3, b3, r3⟩ := c_lookY B hw hcl v3 (x4 := nI dx) (amt := amt) hat b2 r2
  rw [g3, bd_s]
  obtain ⟨W4, g4, b4, r4⟩ := c_addFrom W3 (-amt) (hat dx (by omega))
  rw [g4, bd_s]
  simp only [b_X9_lookWithMoreOut_132]
  have b5 := b3.tr b4
  have hD : ∀ j, j < 720 → W4 12 j = cD V A ne w y dx amt cl j := fun j hj => by rw [r4 j hj, r3 j hj]; rfl
  obtain ⟨W5, g5, b6', r5⟩ := c_pref W4 (D := cD V A ne w y dx amt cl) (cM V A ne w y dx amt) hD (cM_0 B.wf hw hy h1 h2 hcl v3 amt) (fun j hj => cM_s B.wf hw hy h1 h2 hcl v3 amt hj)
  have b6 := b5.tr b6'
  rw [g5, bd_s, gd_d (by decide) (by decide), gd_d (by decide) (by decide), cl2, cl3, b6 18 (by decide)]
  exact ⟨W5, b6, r5, rfl⟩
end
