/-! money of all days -/
abbrev hit (a c i : Nat) : Prop := (i = 0 ∧ a ≤ c) ∨ (¬ i = 0 ∧ a = c + i)
abbrev hS (P : Nat → Prop) [DecidablePred P] (a : Nat → Nat) (w : Nat → Int32) (c n i : Nat) : Int32 := sI (fun e => if P e ∧ hit (a e) c i then w e else 0) n
abbrev lS (P : Nat → Prop) [DecidablePred P] (a : Nat → Nat) (w : Nat → Int32) (c n i : Nat) : Int32 := sI (fun e => if P e ∧ a e ≤ c + i then w e else 0) n
theorem lS_0 (P : Nat → Prop) [DecidablePred P] (a : Nat → Nat) (w : Nat → Int32) (c n : Nat) : lS P a w c n 0 = hS P a w c n 0 := by
  refine sI_congr (fun e he => ?_)
  by_cases h : P e ∧ a e ≤ c + 0
  · rw [if_pos h, if_pos ⟨h.1, Or.inl ⟨rfl, by omega⟩⟩]
  · rw [if_neg h, if_neg (fun z => h ⟨z.1, by
      rcases z.2 with q | q
      · omega
      · exact absurd rfl q.1⟩)]
theorem lS_s (P : Nat → Prop) [DecidablePred P] (a : Nat → Nat) (w : Nat → Int32) (c n i : Nat) : lS P a w c n (i + 1) = lS P a w c n i + hS P a w c n (i + 1) := by
  rw [← sI_add]
  refine sI_congr (fun e he => ?_)
  by_cases p : P e
  · by_cases h1 : a e ≤ c + i
    · rw [if_pos ⟨p, by omega⟩, if_pos ⟨p, h1⟩, if_neg (show ¬ (P e ∧ hit (a e) c (i + 1)) from fun z => by
        rcases z.2 with q | q
        · omega
        · omega), Int32.add_zero]
    · rw [if_neg (show ¬ (P e ∧ a e ≤ c + i) from fun z => h1 z.2), Int32.zero_add]
      by_cases h2 : a e = c + (i + 1)
      · rw [if_pos ⟨p, by omega⟩, if_pos ⟨p, Or.inr ⟨by omega, h2⟩⟩]
      · rw [if_neg (show ¬ (P e ∧ a e ≤ c + (i + 1)) from fun z => by omega), if_neg (show ¬ (P e ∧ hit (a e) c (i + 1)) from fun z => by
          rcases z.2 with q | q
          · omega
          · omega)]
  · rw [if_neg (fun z => p z.1), if_neg (fun z => p z.1), if_neg (fun z => p z.1), Int32.add_zero]
abbrev dyN (V : Nat → Int32) (e : Nat) : Nat := (V (155 + 7 * e + 2)).toInt.toNat
abbrev ofW (V : Nat → Int32) (w e : Nat) : Prop := V (155 + 7 * e + 1) = nI w
abbrev atE (V : Nat → Int32) (e : Nat) : Nat := 360 + dyN V e
abbrev atY (y : Nat) : Nat := 360 * y + 720
/-- money at a day (360 behind) -/
def mD (V A : Nat → Int32) (ne w k : Nat) : Int32 := lS (ofW V w) (atE V) (kWorth V A) 0 ne k + lS (fun _ => True) atY (kBr V w) 0 9 k
theorem hit_t' {a j : Nat} (ha : 0 < a) (e : j = a) : hit a 0 j := Or.inr ⟨by omega, by omega⟩
theorem hit_f' {a j : Nat} (ha : 0 < a) (e : ¬ j = a) : ¬ hit a 0 j := fun z => by
  rcases z with q | q
  · omega
  · omega
section
variable {M N : xM} {V A : Nat → Int32} {ng nw ne no : Nat}
theorem WF.dN (h : WF V ng nw ne no) {e : Nat} (he : e < ne) : V (155 + 7 * e + 2) = nI (dyN V e) ∧ dyN V e < 3600 := by
  have hd := (h.e he).2.2.1
  have h1 := hd.1
  have h2 := hd.2
  have e1 : dyN V e = (V (155 + 7 * e + 2)).toInt.toNat := rfl
  rw [e1]
  refine ⟨?_, by omega⟩
  rw [i_eq, nI_toInt (by omega)]
  omega
/-- the reference's row of money -/
theorem m_laysMoney (B : BB M N V A ng nw ne no) {w : Nat} (hw : w < nw) : ∃ L, f_X11_laysMoney N (nI w) = some L ∧ SameN N L ∧ (∀ i, i < ne → L 8 i = A i) ∧ ∀ k, k < 3960 → L 9 k = mD V A ne w k := by
  have hb := B.bd
  obtain ⟨L, hL, SL, hA⟩ := B.lays
  simp only [f_X11_laysMoney, b_X11_laysMoney_0, b_X11_laysMoney_6]
  rw [hL, bd_s]
  obtain ⟨W1, h1, b1, r1⟩ := loopN_inv (body := fun s : xM × Int32 => bl_X11_laysMoney_6 s.1 (nI w) s.2)
    (I := fun p s => s.2 = nI p ∧ Bt L s.1 9 ∧ ∀ j, j < p → s.1 9 j = 0) (P := fun W => Bt L W 9 ∧ ∀ j, j < 3960 → W 9 j = 0) 3960 (by
      rintro p ⟨W, y⟩ hp ⟨h1, h2, h3⟩
      dsimp only at h1 h2 h3
      subst h1
      dsimp only
      simp only [bl_X11_laysMoney_6, lt_d, nI_1]
      rw [if_neg (show ¬ (3960 : Int32) ≤ nI p from nI_ge (b := 3960) hp (by omega)), gd_n (by omega) (by decide), clN (by omega)]
      refine ⟨_, rfl, rfl, h2.u _ _, fun j hj => ?_⟩
      dsimp only
      by_cases e : j = p
      · rw [e, uM_s]
      · rw [uM_j _ _ _ _ e]; exact h3 j (by omega)) (by
      rintro ⟨W, y⟩ ⟨h1, h2, h3⟩
      dsimp only at h1 h2 h3
      subst h1
      dsimp only
      simp only [bl_X11_laysMoney_6]
      rw [if_pos (show (3960 : Int32) ≤ nI 3960 from Int32.le_refl _)]
      exact ⟨_, rfl, h2, h3⟩) (L, 0) BG ⟨rfl, Bt.rf L 9, fun j hj => absurd hj (Nat.not_lt_zero j)⟩ (BG_lt (by omega))
  rw [h1, bd_s]
  simp only [b_X11_laysMoney_28]
  obtain ⟨W2, h2, b2, r2⟩ := loopN_inv (body := fun s : xM × Int32 => bl_X11_laysMoney_28 s.1 (nI w) s.2)
    (I := fun p s => s.2 = nI p ∧ Bt L s.1 9 ∧ ∀ j, j < 3960 → s.1 9 j = hS (ofW V w) (atE V) (kWorth V A) 0 p j) (P := fun W => Bt L W 9 ∧ ∀ j, j < 3960 → W 9 j = hS (ofW V w) (atE V) (kWorth V A) 0 ne j) ne (by
      rintro p ⟨W, y⟩ hp ⟨h1, h2, h3⟩
      dsimp only at h1 h2 h3
      subst h1
      have BW := (B.sn SL).sn ((SameN.rf L).bt h2 (by omega))
      have hAW : ∀ i, i < ne → W 8 i = A i := fun i hi => by rw [h2 8 (by decide)]; exact hA i hi
      obtain ⟨d1, d2⟩ := B.wf.dN hp
      dsimp only
      simp only [bl_X11_laysMoney_28, b_X11_laysMoney_71, lt_d, nI_1]
      rw [gd_d (by decide) (by decide), cl2, BW.1, B.wf.c.2.2.1, if_neg (nI_ge hp (by omega)), BW.eOf 1 hp 1 (by decide) rfl, bd_s, BW.eOf 2 hp 2 (by decide) rfl, bd_s, d1, show (360 : Int32) + nI (dyN V p) = nI (360 + dyN V p) from nI_add 360 _, gd_n (by omega) (by decide), BW.rWorth hAW hp, bd_s, gd_n (by omega) (by decide), clN (by omega)]
      by_cases c : V (155 + 7 * p + 1) = nI w
      · rw [if_pos c]
        refine ⟨_, rfl, rfl, h2.u _ _, fun j hj => ?_⟩
        dsimp only
        rw [uM_at]
        show _ = hS (ofW V w) (atE V) (kWorth V A) 0 p j + (if ofW V w p ∧ hit (atE V p) 0 j then kWorth V A p else 0)
        by_cases e : j = 360 + dyN V p
        · rw [if_pos ⟨rfl, e⟩, if_pos ⟨c, hit_t' (show 0 < 360 + dyN V p by omega) e⟩, ← e, h3 j hj]
        · rw [if_neg (fun z => e z.2), if_neg (fun z => hit_f' (show 0 < 360 + dyN V p by omega) e z.2), Int32.add_zero, h3 j hj]
      · rw [if_neg c]
        refine ⟨_, rfl, rfl, h2, fun j hj => ?_⟩
        dsimp only
        show _ = hS (ofW V w) (atE V) (kWorth V A) 0 p j + (if ofW V w p ∧ hit (atE V p) 0 j then kWorth V A p else 0)
        rw [if_neg (fun z => c z.1), Int32.add_zero, h3 j hj]) (by
      rintro ⟨W, y⟩ ⟨h1, h2, h3⟩
      dsimp only at h1 h2 h3
      subst h1
      have BW := (B.sn SL).sn ((SameN.rf L).bt h2 (by omega))
      dsimp only
      simp only [bl_X11_laysMoney_28]
      rw [gd_d (by decide) (by decide), cl2, BW.1, B.wf.c.2.2.1, if_pos (nI_le (Nat.le_refl ne) (by omega))]
      exact ⟨_, rfl, h2, h3⟩) (W1, 0) BG ⟨rfl, b1, fun j hj => by
        dsimp only
        rw [r1 j hj]; rfl⟩ (BG_lt (by omega))
  rw [h2, bd_s]
  simp only [b_X11_laysMoney_79]
  obtain ⟨W3, h3, b3, r3⟩ := loopN_inv (body := fun s : xM × Int32 => bl_X11_laysMoney_79 s.1 (nI w) s.2)
    (I := fun p s => s.2 = nI p ∧ Bt L s.1 9 ∧ ∀ j, j < 3960 → s.1 9 j = hS (ofW V w) (atE V) (kWorth V A) 0 ne j + hS (fun _ => True) atY (kBr V w) 0 p j) (P := fun W => Bt L W 9 ∧ ∀ j, j < 3960 → W 9 j = hS (ofW V w) (atE V) (kWorth V A) 0 ne j + hS (fun _ => True) atY (kBr V w) 0 9 j) 9 (by
      rintro p ⟨W, y⟩ hp ⟨h1, h2, h3⟩
      dsimp only at h1 h2 h3
      subst h1
      have BW := (B.sn SL).sn ((SameN.rf L).bt h2 (by omega))
      have e1 : ((360 : Int32) + (360 : Int32) * nI p) + (360 : Int32) = nI (360 * p + 720) := by
        rw [y360', show (360 : Int32) + nI (360 * p) = nI (360 + 360 * p) from nI_add 360 _, show nI (360 + 360 * p) + (360 : Int32) = nI (360 + 360 * p + 360) from nI_add _ 360, show 360 + 360 * p + 360 = 360 * p + 720 by omega]
      dsimp only
      simp only [bl_X11_laysMoney_79, lt_d, nI_1]
      rw [if_neg (show ¬ (9 : Int32) ≤ nI p from nI_ge (b := 9) hp (by omega)), e1, gd_n (by omega) (by decide), BW.rBr hw (by omega), bd_s, gd_n (by omega) (by decide), clN (by omega)]
      refine ⟨_, rfl, rfl, h2.u _ _, fun j hj => ?_⟩
      dsimp only
      rw [uM_at]
      show _ = _ + (hS (fun _ => True) atY (kBr V w) 0 p j + (if True ∧ hit (atY p) 0 j then kBr V w p else 0))
      by_cases e : j = 360 * p + 720
      · rw [if_pos ⟨rfl, e⟩, if_pos ⟨trivial, hit_t' (show 0 < 360 * p + 720 by omega) e⟩, ← e, h3 j hj, Int32.add_assoc]
      · rw [if_neg (fun z => e z.2), if_neg (fun z => hit_f' (show 0 < 360 * p + 720 by omega) e z.2), Int32.add_zero, h3 j hj]) (by
      rintro ⟨W, y⟩ ⟨h1, h2, h3⟩
      dsimp only at h1 h2 h3
      subst h1
      dsimp only
      simp only [bl_X11_laysMoney_79]
      rw [if_pos (show (9 : Int32) ≤ nI 9 from Int32.le_refl _)]
      exact ⟨_, rfl, h2, h3⟩) (W2, 0) BG ⟨rfl, b2, fun j hj => by
        dsimp only
        rw [r2 j hj]; exact (Int32.add_zero _).symm⟩ (BG_lt (by omega))
  rw [h3, bd_s]
  simp only [b_X11_laysMoney_120]
  obtain ⟨W4, h4, b4, r4⟩ := loopN_inv (body := fun s : xM × Int32 => bl_X11_laysMoney_120 s.1 s.2)
    (I := fun p s => s.2 = nI (p + 1) ∧ Bt L s.1 9 ∧ ∀ j, j < 3960 → s.1 9 j = if j < p + 1 then mD V A ne w j else hS (ofW V w) (atE V) (kWorth V A) 0 ne j + hS (fun _ => True) atY (kBr V w) 0 9 j) (P := fun W => Bt L W 9 ∧ ∀ j, j < 3960 → W 9 j = mD V A ne w j) 3959 (by
      rintro p ⟨W, y⟩ hp ⟨h1, h2, h3⟩
      dsimp only at h1 h2 h3
      subst h1
      dsimp only
      simp only [bl_X11_laysMoney_120, lt_d, nI_1]
      rw [if_neg (show ¬ (3960 : Int32) ≤ nI (p + 1) from nI_ge (b := 3960) (by omega) (by omega)), gd_n (by omega) (by decide), show nI (p + 1) - 1 = nI p from pk_sub (a := p + 1) (b := 1) (by omega), gd_n (by omega) (by decide), gd_n (by omega) (by decide), clN (by omega), clN (by omega)]
      refine ⟨_, rfl, rfl, h2.u _ _, fun j hj => ?_⟩
      dsimp only
      rw [uM_at]
      by_cases e : j = p + 1
      · rw [if_pos ⟨rfl, e⟩, if_pos (by omega), h3 (p + 1) (by omega), h3 p (by omega), if_neg (by omega), if_pos (by omega), e]
        unfold mD
        rw [lS_s, lS_s]
        ac_rfl
      · rw [if_neg (fun z => e z.2), h3 j hj]
        by_cases c : j < p + 1
        · rw [if_pos c, if_pos (by omega)]
        · rw [if_neg c, if_neg (by omega)]) (by
      rintro ⟨W, y⟩ ⟨h1, h2, h3⟩
      dsimp only at h1 h2 h3
      subst h1
      dsimp only
      simp only [bl_X11_laysMoney_120]
      rw [if_pos (show (3960 : Int32) ≤ nI (3959 + 1) from Int32.le_refl _)]
      exact ⟨_, rfl, h2, fun j hj => by rw [h3 j hj, if_pos (by omega)]⟩) (W3, 1) BG ⟨rfl, b3, fun j hj => by
        dsimp only
        rw [r3 j hj]
        by_cases c : j < 0 + 1
        · rw [if_pos c, show j = 0 by omega]
          unfold mD
          rw [lS_0, lS_0]
        · rw [if_neg c]⟩ (BG_lt (by omega))
  rw [h4, bd_s]
  exact ⟨W4, rfl, SL.bt b4 (by omega), fun i hi => by rw [b4 8 (by decide)]; exact hA i hi, r4⟩
end
