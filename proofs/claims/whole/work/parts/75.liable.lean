/-! liable -/
theorem lc_eq0 (a : Int64) : lg_cmp a 0 = 0 ↔ a = 0 := by
  unfold lg_cmp
  by_cases h : a > 0
  · rw [if_pos h]
    constructor
    · intro q; exact absurd q (by decide)
    · intro q; rw [q] at h; exact absurd h (by decide)
  · rw [if_neg h]
    by_cases e : a = 0
    · rw [if_pos e]; exact ⟨fun _ => e, fun _ => rfl⟩
    · rw [if_neg e]
      constructor
      · intro q; exact absurd q (by decide)
      · intro q; exact absurd q e
section
variable {M N : xM} {V A : Nat → Int32} {ng nw ne no : Nat}
def dUn (V A : Nat → Int32) (g i : Nat) : Int32 := if kGuard V (V (155 + 7 * i + 1)).toInt.toNat (V (155 + 7 * i + 2)) = nI g then kPart V A 3 i else 0
theorem c_disUnder (B : BB M N V A ng nw ne no) (g : Nat) : f_X1_disallowedUnder M (nI g) = some (sI (dUn V A g) ne) := by
  have hb := B.bd
  unfold f_X1_disallowedUnder b_X1_disallowedUnder_0 b_X1_disallowedUnder_4
  have := accN (body := fun x : Int32 × Int32 => bl_X1_disallowedUnder_4 M (nI g) x.1 x.2) (dUn V A g) ne 0 (by omega) (fun i x hi => by
    dsimp only
    obtain ⟨-, ⟨w, hw, vw⟩, -⟩ := B.wf.e hi
    obtain ⟨-, b1, b2, -⟩ := B.k.2.1.e hi
    unfold bl_X1_disallowedUnder_4 b_X1_disallowedUnder_55 dUn
    rw [B.rb.2.2.1, if_neg (nI_ge hi (by omega)), gd_n (by omega) (by decide), clN (by omega), b1, b2, vw, gd_n (by omega) (by decide), gd_n (by omega) (by decide), clN (by omega), c_guardianOn B.k hw, bd_s, nI_toInt (by omega), Int.toNat_natCast]
    by_cases c : kGuard V w (V (155 + 7 * i + 2)) = nI g
    · rw [if_pos c, if_pos c, gd_n (by omega) (by decide), c_part B.k hi, bd_s, lt_d, lt_d, nI_1]
    · rw [if_neg c, if_neg c, lt_d, nI_1, Int32.add_zero]) (fun x => by
    dsimp only
    unfold bl_X1_disallowedUnder_4
    rw [B.rb.2.2.1, if_pos (Int32.le_refl _)])
  rw [this, Int32.zero_add, bd_s]
theorem m_disOf (B : BB M N V A ng nw ne no) (g : Nat) : ∃ L, f_X11_disallowedOf N (nI g) = some (sI (dUn V A g) ne, L) ∧ SameN N L := by
  have hb := B.bd
  obtain ⟨L, l1, l2, l3⟩ := B.lays
  have BL := B.sn l2
  unfold f_X11_disallowedOf b_X11_disallowedOf_0 b_X11_disallowedOf_8
  rw [l1, bd_s]
  have := accN (body := fun x : Int32 × Int32 => bl_X11_disallowedOf_8 L (nI g) x.1 x.2) (dUn V A g) ne 0 (by omega) (fun i x hi => by
    dsimp only
    obtain ⟨-, ⟨w, hw, vw⟩, -⟩ := B.wf.e hi
    unfold bl_X11_disallowedOf_8 b_X11_disallowedOf_52 b_X11_disallowedOf_53 b_X11_disallowedOf_70 dUn
    rw [gd2, cl2, BL.wf4.c.2.2.1, if_neg (nI_ge hi (by omega)), BL.e0 hi, bd_s]
    by_cases c0 : V (155 + 7 * i) = 1
    · rw [if_pos c0, BL.eOf 1 hi 1 (by decide) rfl, bd_s, BL.eOf 2 hi 2 (by decide) rfl, bd_s, vw, BL.rGuard hw, bd_s, nI_toInt (by omega), Int.toNat_natCast]
      by_cases c : kGuard V w (V (155 + 7 * i + 2)) = nI g
      · rw [if_pos c, if_pos c, if_neg (by decide), BL.rDis l3 hi, bd_s, lt_d, lt_d, nI_1, kPart3 c0]
      · rw [if_neg c, if_neg c, if_pos rfl, lt_d, lt_d, nI_1]
    · rw [if_neg c0, if_pos rfl, lt_d, lt_d, nI_1, kPart3n c0]
      split <;> rfl) (fun x => by
    dsimp only
    unfold bl_X11_disallowedOf_8
    rw [gd2, cl2, BL.wf4.c.2.2.1, if_pos (Int32.le_refl _)])
  rw [this, Int32.zero_add, bd_s]
  exact ⟨L, rfl, l2⟩
/-- his part of the commission of a year -/
def kCo (V : Nat → Int32) (g w y : Nat) : Int32 := if kGuard V w (nI (360 * y + 359)) = nI g then V (7 + 37 * w + 26 + y) else 0
theorem c_commTo (B : BB M N V A ng nw ne no) {w y cl : Nat} (hw : w < nw) (v3 : V (7 + 37 * w + 15) = nI cl) (hcl : cl ≤ 10) (hy : y < cl) (g : Nat) : f_X10_commissionTo M (nI g) (nI w) (nI y) = some (kCo V g w y) := by
  have hb := B.bd
  obtain ⟨-, -, -, -, -, -, b6⟩ := B.k.w hw
  unfold f_X10_commissionTo b_X10_commissionTo_0 b_X10_commissionTo_25 b_X10_commissionTo_50 kCo
  rw [gd_n (by omega) (by decide), clN (by omega), c_lastDay, bd_s, c_guardianOn B.k hw, bd_s]
  by_cases c : kGuard V w (nI (360 * y + 359)) = nI g
  · rw [if_pos c, if_pos c, if_neg (by decide), gd_n (by omega) (by decide), gd_n (by omega) (by decide), clN (by omega), show 25 + 5 * w + 4 = 29 + 5 * w by omega, (b6 y (by rw [v3]; exact nI_lt' hy (by omega)) (by omega)).2]
  · rw [if_neg c, if_neg c, if_pos rfl]
theorem m_costsOf (B : BB M N V A ng nw ne no) {w cl : Nat} (hw : w < nw) (v3 : V (7 + 37 * w + 15) = nI cl) (hcl : cl ≤ 10) (g : Nat) : f_X11_costsOf N (nI g) (nI w) = some (sI (kCo V g w) cl) := by
  unfold f_X11_costsOf b_X11_costsOf_0 b_X11_costsOf_5
  have := accN (body := fun x : Int32 × Int32 => bl_X11_costsOf_5 N (nI g) (nI w) x.1 x.2) (kCo V g w) cl 0 (by omega) (fun y x hy => by
    dsimp only
    unfold bl_X11_costsOf_5 b_X11_costsOf_53 kCo
    rw [B.its 15 hw 15 (by decide) rfl, bd_s, v3, if_neg (nI_ge hy (by omega)), y359', B.rGuard hw, bd_s]
    by_cases c : kGuard V w (nI (360 * y + 359)) = nI g
    · rw [if_pos c, if_pos c, B.its (26 + nI y) hw (26 + y) (by omega) (nI_add 26 y), bd_s, lt_d, lt_d, nI_1, show 7 + 37 * w + (26 + y) = 7 + 37 * w + 26 + y by omega]
    · rw [if_neg c, if_neg c, lt_d, lt_d, nI_1]) (fun x => by
    dsimp only
    unfold bl_X11_costsOf_5
    rw [B.its 15 hw 15 (by decide) rfl, bd_s, v3, if_pos (Int32.le_refl _)])
  rw [this, Int32.zero_add, bd_s]
-- his part of the charge of a year
def cAll (F : Nat → Int32) (gr : Nat) (fl : Int32) (y : Nat) : Nat → Int64 := fun j => (kIdle F gr fl (360 * y + 360 + j)).toInt64
def cHis (V F : Nat → Int32) (gr : Nat) (fl : Int32) (g w y : Nat) : Nat → Int64 := fun j => if kGuard V w (nI (360 * y + j)) = nI g then (kIdle F gr fl (360 * y + 360 + j)).toInt64 else 0
def kCp (V F : Nat → Int32) (gr : Nat) (fl : Int32) (g w y : Nat) : Int32 := if sL (cAll F gr fl y) 360 = 0 then 0 else (((V (7 + 37 * w + 16 + y)).toInt64 * sL (cHis V F gr fl g w y) 360) / sL (cAll F gr fl y) 360).toInt32
theorem cAll_nn (F : Nat → Int32) (gr : Nat) (fl : Int32) (y : Nat) : 0 ≤ (sL (cAll F gr fl y) 360).toInt := by
  obtain ⟨h1, h2, -⟩ := sL_z (f := cAll F gr fl y) (B := 2147483647) (n := 360) (fun i _ => by
    unfold cAll
    rw [i_l]
    have h3 := Int32.toInt_lt (kIdle F gr fl (360 * y + 360 + i))
    have h4 : 0 ≤ (kIdle F gr fl (360 * y + 360 + i)).toInt := by
      unfold kIdle
      rw [imax_i, i0]; omega
    omega) (by decide) (by decide)
  rw [h1]; exact h2
theorem c_chgPart (B : BB M N V A ng nw ne no) {w y cl gr : Nat} (hw : w < nw) (v3 : V (7 + 37 * w + 15) = nI cl) (hcl : cl ≤ 10) (hy : y < cl) (hg : gr < 360) (hgv : M 18 2 = nI gr) (g : Nat) : ∃ M1, f_X10_chargePart M (nI g) (nI w) (nI y) = some (kCp V (mD V A ne w) gr (M 18 3) g w y, M1) ∧ SameM M M1 := by
  have hb := B.bd
  obtain ⟨W, w1, w2, w3, w4⟩ := c_look B hw (show y < 10 by omega) hg hgv
  have BW := B.sm w2
  obtain ⟨-, -, -, -, -, -, b6⟩ := BW.k.w hw
  unfold f_X10_chargePart b_X10_chargePart_0 b_X10_chargePart_22 b_X10_chargePart_124
  rw [w1, bd_s]
  have hl := loopN_up (body := fun s : Int64 × Int64 × Int32 => bl_X10_chargePart_22 W (nI g) (nI w) (nI y) s.1 s.2.1 s.2.2) (r := (sL (cAll (mD V A ne w) gr (M 18 3) y) 360, sL (cHis V (mD V A ne w) gr (M 18 3) g w y) 360)) (fun i => (sL (cAll (mD V A ne w) gr (M 18 3) y) i, sL (cHis V (mD V A ne w) gr (M 18 3) g w y) i, nI i)) 360 (fun i hi => by
      dsimp only
      have e1 : (W 13 i).toInt64 = cAll (mD V A ne w) gr (M 18 3) y i := by rw [w4 i hi]; rfl
      unfold bl_X10_chargePart_22 b_X10_chargePart_85
      rw [if_neg (gE 360 360 rfl hi (by decide)), gd_n hi (by decide), clN (by omega), e1, lt_d, gd_n (by omega) (by decide), clN (by omega), c_firstDay, bd_s, nI_add, c_guardianOn BW.k hw, bd_s]
      by_cases c : kGuard V w (nI (360 * y + i)) = nI g
      · have e2 : cHis V (mD V A ne w) gr (M 18 3) g w y i = cAll (mD V A ne w) gr (M 18 3) y i := if_pos c
        rw [if_pos c, gd_n hi (by decide), lt_d, lt_d, nI_1, sL, sL, e2]
      · have e2 : cHis V (mD V A ne w) gr (M 18 3) g w y i = 0 := if_neg c
        rw [if_neg c, lt_d, nI_1, sL, sL, e2, Int64.add_zero]) (by
      dsimp only
      unfold bl_X10_chargePart_22
      rw [if_pos (by decide)]) BG (BG_lt (by omega))
  have e0 : (sL (cAll (mD V A ne w) gr (M 18 3) y) 0, sL (cHis V (mD V A ne w) gr (M 18 3) g w y) 0, nI 0) = ((0 : Int64), (0 : Int64), (0 : Int32)) := rfl
  rw [e0] at hl
  rw [hl, bd_s]
  have hn := cAll_nn (mD V A ne w) gr (M 18 3) y
  unfold kCp
  by_cases c : sL (cAll (mD V A ne w) gr (M 18 3) y) 360 = 0
  · rw [if_pos c, if_neg (show ¬ (0 : Int32) < lg_cmp (sL (cAll (mD V A ne w) gr (M 18 3) y) 360) 0 by rw [lc_gt, c]; decide)]
    exact ⟨W, rfl, w2⟩
  · have c2 : (0 : Int64).toInt < (sL (cAll (mD V A ne w) gr (M 18 3) y) 360).toInt := by
      have : (sL (cAll (mD V A ne w) gr (M 18 3) y) 360).toInt ≠ (0 : Int64).toInt := fun z => c (Int64.toInt_inj.mp z)
      have e9 : (0 : Int64).toInt = 0 := by decide
      rw [e9] at this ⊢
      omega
    rw [if_neg c, if_pos ((lc_gt _ _).mpr c2), gd_n (by omega) (by decide), gd_n (by omega) (by decide), clN (by omega), clN (by omega), show 25 + 5 * w + 3 = 28 + 5 * w by omega, (b6 y (by rw [v3]; exact nI_lt' hy (by omega)) (by omega)).1]
    unfold g0L
    rw [if_neg c]
    exact ⟨W, rfl, w2⟩
theorem m_chargesOf (B : BB M N V A ng nw ne no) {w cl gr : Nat} (hw : w < nw) (v3 : V (7 + 37 * w + 15) = nI cl) (hcl : cl ≤ 10) (hg : gr < 360) (hgv : M 18 2 = nI gr) (g : Nat) : ∃ L, f_X11_chargesOf N (nI g) (nI w) = some (sI (kCp V (mD V A ne w) gr (M 18 3) g w) cl, L) ∧ SameN N L := by
  have hb := B.bd
  have e2 := (B.2.2.2 2 (by decide)).1
  have e3 := (B.2.2.2 3 (by decide)).1
  obtain ⟨L, l1, l2, -, l4⟩ := m_laysMoney B hw
  unfold f_X11_chargesOf b_X11_chargesOf_0 b_X11_chargesOf_10
  rw [l1, bd_s]
  obtain ⟨W, h1, h2, h3⟩ := loopN_inv (body := fun s : xM × Int32 × Int32 => bl_X11_chargesOf_10 s.1 (nI g) (nI w) s.2.1 s.2.2) (fun y s => s.2.2 = nI y ∧ (SameN N s.1 ∧ ∀ i, i < 3960 → s.1 9 i = mD V A ne w i) ∧ s.2.1 = sI (kCp V (mD V A ne w) gr (M 18 3) g w) y) (fun W => SameN N W.1 ∧ W.2 = sI (kCp V (mD V A ne w) gr (M 18 3) g w) cl) cl (by
      rintro y ⟨W, x, yy⟩ hy ⟨h1, ⟨h2, h9⟩, h3⟩
      dsimp only at h1 h2 h3 h9
      subst h1 h3
      dsimp only
      have BW := B.sn h2
      obtain ⟨X, x1, x2, x3⟩ := m_laysIdle (W0 := W) (f := mD V A ne w) (a0 := 360 * y) (b0 := 360 * y + 359) hg (by rw [h2.2.2.2.2.1, ← e2]; exact hgv) (by omega) (by omega) h9
      have SX : SameN N X := h2.r1011 x2
      have BX := B.sn SX
      have e33 : W 3 3 = M 18 3 := by rw [h2.2.2.2.2.1]; exact e3.symm
      unfold bl_X11_chargesOf_10 b_X11_chargesOf_58
      rw [BW.its 15 hw 15 (by decide) rfl, bd_s, v3, if_neg (nI_ge hy (by omega)), y359', y360', x1, bd_s, lt_d]
      have hl := loopN_up (body := fun s : Int64 × Int64 × Int32 => bl_X11_chargesOf_58 X (nI g) (nI w) (sI (kCp V (mD V A ne w) gr (M 18 3) g w) y) (nI y) s.1 s.2.1 s.2.2) (r := (sL (cAll (mD V A ne w) gr (M 18 3) y) 360, sL (cHis V (mD V A ne w) gr (M 18 3) g w y) 360)) (fun i => (sL (cAll (mD V A ne w) gr (M 18 3) y) i, sL (cHis V (mD V A ne w) gr (M 18 3) g w y) i, nI (360 * y + i))) 360 (fun i hi => by
          dsimp only
          have ei : (X 10 (360 * y + i)).toInt64 = cAll (mD V A ne w) gr (M 18 3) y i := by
            rw [x3 (360 * y + i) (by omega) (by omega), e33, show 360 + (360 * y + i) = 360 * y + 360 + i by omega]; rfl
          unfold bl_X11_chargesOf_58 b_X11_chargesOf_111
          rw [y360', show nI (360 * y) + (360 : Int32) = nI (360 * y + 360) from nI_add _ 360, if_neg (nI_ge (by omega) (by omega)), gd_n (by omega) (by decide), clN (by omega), ei, lt_d, BX.rGuard hw, bd_s]
          by_cases c : kGuard V w (nI (360 * y + i)) = nI g
          · have eh : cHis V (mD V A ne w) gr (M 18 3) g w y i = cAll (mD V A ne w) gr (M 18 3) y i := if_pos c
            rw [if_pos c, gd_n (by omega) (by decide), lt_d, lt_d, nI_1, sL, sL, eh, Nat.add_assoc]
          · have eh : cHis V (mD V A ne w) gr (M 18 3) g w y i = 0 := if_neg c
            rw [if_neg c, lt_d, lt_d, nI_1, sL, sL, eh, Nat.add_assoc]) (by
          dsimp only
          unfold bl_X11_chargesOf_58
          rw [y360', show nI (360 * y) + (360 : Int32) = nI (360 * y + 360) from nI_add _ 360, if_pos (Int32.le_refl _)]) BG (BG_lt (by omega))
      have e0 : (sL (cAll (mD V A ne w) gr (M 18 3) y) 0, sL (cHis V (mD V A ne w) gr (M 18 3) g w y) 0, nI (360 * y + 0)) = ((0 : Int64), (0 : Int64), nI (360 * y)) := rfl
      rw [e0] at hl
      rw [hl, bd_s]
      have key : ∀ v, v = kCp V (mD V A ne w) gr (M 18 3) g w y → b_X11_chargesOf_150 X (nI g) (nI w) (nI y) v (sI (kCp V (mD V A ne w) gr (M 18 3) g w) y) = some (.inl (X, sI (kCp V (mD V A ne w) gr (M 18 3) g w) (y + 1), nI (y + 1))) := fun v hv => by
        unfold b_X11_chargesOf_150
        rw [lt_d, lt_d, nI_1, hv]; rfl
      have r9 : ∀ i, i < 3960 → X 9 i = mD V A ne w i := fun i hi => by rw [x2 9 (by decide) (by decide)]; exact h9 i hi
      by_cases c : sL (cAll (mD V A ne w) gr (M 18 3) y) 360 = 0
      · rw [if_pos ((lc_eq0 _).mpr c), key 0 (by unfold kCp; rw [if_pos c])]
        exact ⟨_, rfl, rfl, ⟨SX, r9⟩, rfl⟩
      · rw [if_neg (fun z => c ((lc_eq0 _).mp z)), BX.its (16 + nI y) hw (16 + y) (by omega) (nI_add 16 y), bd_s]
        unfold g0L
        rw [if_neg c, key _ (by unfold kCp; rw [if_neg c, show 7 + 37 * w + (16 + y) = 7 + 37 * w + 16 + y by omega])]
        exact ⟨_, rfl, rfl, ⟨SX, r9⟩, rfl⟩) (by
      rintro ⟨W, x, yy⟩ ⟨h1, h2, h3⟩
      dsimp only at h1 h2 h3
      subst h1
      dsimp only
      unfold bl_X11_chargesOf_10
      rw [(B.sn h2.1).its 15 hw 15 (by decide) rfl, bd_s, v3, if_pos (Int32.le_refl _)]
      exact ⟨_, rfl, h2.1, h3⟩) (L, 0, 0) BG ⟨rfl, ⟨l2, l4⟩, rfl⟩ (BG_lt (by omega))
  rw [h1, bd_s, h3]
  exact ⟨_, rfl, h2⟩
def kLi (V A : Nat → Int32) (ne gr : Nat) (fl what : Int32) (g w y : Nat) : Int32 := if what = 1 then kCp V (mD V A ne w) gr fl g w y else kCo V g w y
abbrev clN' (V : Nat → Int32) (w : Nat) : Nat := (V (7 + 37 * w + 15)).toInt.toNat
theorem c_liL (B : BB M N V A ng nw ne no) {gr : Nat} (hg : gr < 360) (hgv : M 18 2 = nI gr) (g : Nat) (what : Int32) : ∃ W, b_X10_liable_41 M (nI g) what 0 0 = some (sI (fun w => sI (kLi V A ne gr (M 18 3) what g w) (clN' V w)) nw, W) ∧ SameM M W := by
  have hb := B.bd
  unfold b_X10_liable_41
  obtain ⟨W, h1, h2, h3⟩ := loopN_inv (body := fun s : xM × Int32 × Int32 => bl_X10_liable_41 s.1 (nI g) what s.2.1 s.2.2) (fun w s => s.2.2 = nI w ∧ SameM M s.1 ∧ s.2.1 = sI (fun w => sI (kLi V A ne gr (M 18 3) what g w) (clN' V w)) w) (fun W => SameM M W.1 ∧ W.2 = sI (fun w => sI (kLi V A ne gr (M 18 3) what g w) (clN' V w)) nw) nw (by
      rintro w ⟨W, x, yy⟩ hw ⟨h1, h2, h3⟩
      dsimp only at h1 h2 h3
      subst h1
      dsimp only
      obtain ⟨-, -, -, ⟨cl, hcl, v3, -⟩, -⟩ := B.wf.w hw
      have ec : clN' V w = cl := by
        show (V (7 + 37 * w + 15)).toInt.toNat = cl
        rw [v3, nI_toInt (by omega)]; rfl
      unfold bl_X10_liable_41 b_X10_liable_56
      rw [(B.sm h2).rb.2.1, if_neg (nI_ge hw (by omega))]
      obtain ⟨X, k1, k2, k3⟩ := loopN_inv (body := fun s : xM × Int32 × Int32 => bl_X10_liable_56 s.1 (nI g) what s.2.1 (nI w) s.2.2) (fun y s => s.2.2 = nI y ∧ SameM M s.1 ∧ s.2.1 = x + sI (kLi V A ne gr (M 18 3) what g w) y) (fun X => SameM M X.1 ∧ X.2 = x + sI (kLi V A ne gr (M 18 3) what g w) cl) cl (by
          rintro y ⟨Y, z, yy⟩ hy ⟨q1, q2, q3⟩
          dsimp only at q1 q2 q3
          subst q1 q3
          dsimp only
          have BY := B.sm q2
          have e18 : Y 18 = M 18 := q2 18 (by decide) (by decide) (by decide) (by decide)
          unfold bl_X10_liable_56 b_X10_liable_101
          rw [gd_n (by omega) (by decide), clN (by omega), (BY.k.w hw).2.2.2.1, v3, if_neg (nI_ge hy (by omega))]
          by_cases c : what = 1
          · obtain ⟨Z, z1, z2⟩ := c_chgPart BY hw v3 hcl hy hg (by rw [e18]; exact hgv) g
            rw [if_pos c, z1, bd2_s, lt_d, lt_d, nI_1, e18]
            refine ⟨_, rfl, rfl, q2.tr z2, ?_⟩
            dsimp only
            rw [sI, Int32.add_assoc, show kLi V A ne gr (M 18 3) what g w y = kCp V (mD V A ne w) gr (M 18 3) g w y from if_pos c]
          · rw [if_neg c, c_commTo BY hw v3 hcl hy g, bd_s, lt_d, lt_d, nI_1]
            refine ⟨_, rfl, rfl, q2, ?_⟩
            dsimp only
            rw [sI, Int32.add_assoc, show kLi V A ne gr (M 18 3) what g w y = kCo V g w y from if_neg c]) (by
          rintro ⟨Y, z, yy⟩ ⟨q1, q2, q3⟩
          dsimp only at q1 q2 q3
          subst q1
          dsimp only
          unfold bl_X10_liable_56
          rw [gd_n (by omega) (by decide), clN (by omega), ((B.sm q2).k.w hw).2.2.2.1, v3, if_pos (Int32.le_refl _)]
          exact ⟨_, rfl, q2, q3⟩) (W, x, 0) BG ⟨rfl, h2, (Int32.add_zero x).symm⟩ (BG_lt (by omega))
      rw [k1, bd_s, lt_d, nI_1]
      refine ⟨_, rfl, rfl, k2, ?_⟩
      dsimp only
      rw [k3, h3, sI, ec]) (by
      rintro ⟨W, x, yy⟩ ⟨h1, h2, h3⟩
      dsimp only at h1 h2 h3
      subst h1
      dsimp only
      unfold bl_X10_liable_41
      rw [(B.sm h2).rb.2.1, if_pos (Int32.le_refl _)]
      exact ⟨_, rfl, h2, h3⟩) (M, 0, 0) BG ⟨rfl, SameM.rf M, rfl⟩ (BG_lt (by omega))
  rw [h1, bd_s, h3]
  exact ⟨_, rfl, h2⟩
theorem m_liL (B : BB M N V A ng nw ne no) {gr : Nat} (hg : gr < 360) (hgv : M 18 2 = nI gr) (g : Nat) (what : Int32) : ∃ W, b_X11_liable_44 N (nI g) what 0 0 = some (sI (fun w => sI (kLi V A ne gr (M 18 3) what g w) (clN' V w)) nw, W) ∧ SameN N W := by
  have hb := B.bd
  unfold b_X11_liable_44
  obtain ⟨W, h1, h2, h3⟩ := loopN_inv (body := fun s : xM × Int32 × Int32 => bl_X11_liable_44 s.1 (nI g) what s.2.1 s.2.2) (fun w s => s.2.2 = nI w ∧ SameN N s.1 ∧ s.2.1 = sI (fun w => sI (kLi V A ne gr (M 18 3) what g w) (clN' V w)) w) (fun W => SameN N W.1 ∧ W.2 = sI (fun w => sI (kLi V A ne gr (M 18 3) what g w) (clN' V w)) nw) nw (by
      rintro w ⟨W, x, yy⟩ hw ⟨h1, h2, h3⟩
      dsimp only at h1 h2 h3
      subst h1 h3
      dsimp only
      obtain ⟨-, -, -, ⟨cl, hcl, v3, -⟩, -⟩ := B.wf.w hw
      have ec : clN' V w = cl := by
        show (V (7 + 37 * w + 15)).toInt.toNat = cl
        rw [v3, nI_toInt (by omega)]; rfl
      have BW := B.sn h2
      unfold bl_X11_liable_44 b_X11_liable_78
      rw [gd1, cl1, BW.wf4.c.2.1, if_neg (nI_ge hw (by omega))]
      by_cases c : what = 1
      · obtain ⟨L, l1, l2⟩ := m_chargesOf BW hw v3 hcl hg hgv g
        rw [if_pos c, l1, bd2_s, lt_d, lt_d, nI_1]
        refine ⟨_, rfl, rfl, h2.tr l2, ?_⟩
        dsimp only
        rw [sI, ec]
        congr 1
        exact sI_congr (fun y _ => by unfold kLi; rw [if_pos c])
      · rw [if_neg c, m_costsOf BW hw v3 hcl g, bd_s, lt_d, lt_d, nI_1]
        refine ⟨_, rfl, rfl, h2, ?_⟩
        dsimp only
        rw [sI, ec]
        congr 1
        exact sI_congr (fun y _ => by unfold kLi; rw [if_neg c])) (by
      rintro ⟨W, x, yy⟩ ⟨h1, h2, h3⟩
      dsimp only at h1 h2 h3
      subst h1
      dsimp only
      unfold bl_X11_liable_44
      rw [gd1, cl1, (B.sn h2).wf4.c.2.1, if_pos (Int32.le_refl _)]
      exact ⟨_, rfl, h2, h3⟩) (N, 0, 0) BG ⟨rfl, SameN.rf N, rfl⟩ (BG_lt (by omega))
  rw [h1, bd_s, h3]
  exact ⟨_, rfl, h2⟩
end
theorem c_liable {M N : xM} (h : Rel M N) (g0 a : Int32) : ∃ r M1 N1, f_X10_liable M g0 a = some (r, M1) ∧ f_X11_liable N g0 a = some (r, N1) ∧ SameM M M1 ∧ SameN N N1 := by
  obtain ⟨N0, e1, S, V, A, ng, nw, ne, no, B⟩ := h.th
  unfold f_X10_liable b_X10_liable_0 b_X10_liable_20 f_X11_liable b_X11_liable_0 b_X11_liable_25
  rw [lt_d (uM N 0 0 0), e1, B.hG, B.iG, bd_s, bd_s]
  by_cases c0 : wP ng g0
  rotate_left
  · rw [fp_f c0, fp_f c0]; exact ⟨_, _, _, rfl, rfl, SameM.rf M, S⟩
  have hb := B.bd
  obtain ⟨g, hg, rfl⟩ := wP_of (by omega) c0
  rw [fp_t c0, fp_t c0, m_in02, bd_s]
  by_cases c2 : 0 ≤ a.toInt ∧ a.toInt ≤ 2
  rotate_left
  · rw [fp_f c2]
    by_cases c3 : a < 0
    · rw [if_pos c3]; exact ⟨_, _, _, rfl, rfl, SameM.rf M, S⟩
    · rw [if_neg c3, if_neg (by rw [i_lt, i0] at c3; rw [i_le, x2i]; omega)]; exact ⟨_, _, _, rfl, rfl, SameM.rf M, S⟩
  rw [fp_t c2, if_neg (by rw [i_lt, i0]; omega), if_pos (by rw [i_le, x2i]; omega)]
  by_cases c3 : a = 0
  · obtain ⟨L, l1, l2⟩ := m_disOf B g
    rw [if_pos c3, if_pos c3, c_disUnder B g, bd_s, l1, bd2_s]
    exact ⟨_, _, _, rfl, rfl, SameM.rf M, S.tr l2⟩
  · obtain ⟨gr, hgr, hgv, -⟩ := B.g
    obtain ⟨W, w1, w2⟩ := c_liL B hgr hgv g a
    obtain ⟨X, x1, x2⟩ := m_liL B hgr hgv g a
    rw [if_neg c3, if_neg c3, w1, x1]
    exact ⟨_, _, _, rfl, rfl, w2, S.tr x2⟩
