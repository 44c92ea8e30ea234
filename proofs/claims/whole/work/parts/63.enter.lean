/-! writes: entries -/
section
variable {M N : xM} {V A : Nat → Int32} {ng nw ne no : Nat}
theorem WF.reck {M2 : xM} (hW : WF V ng nw ne no) (hB : RB M2 17 V ng nw ne no) : ∃ M3, f_X1_reckon M2 = some M3 ∧ KpB M2 M3 ∧ RB M3 17 V ng nw ne no ∧ (∀ i, i < ne → V (155 + 7 * i) = 1 → (M3 (17 + 28 + i) 8).toInt = kAlw V (M2 18 1).toInt ne no i) ∧ M3 17 = M2 17 := by
  have hb := hW.bd
  obtain ⟨M3, h, ag, al⟩ := c_reckon hb (CV_of hB) hW.fo hW.fw hW.fp
  exact ⟨M3, h, fun k a b c => ag.1 k (by omega) (by omega) (by omega), (ag.cv hb (CV_of hB)).to, fun i hi hp => al i hi hp, ag.1 17 (by omega) (by omega) (by omega)⟩
theorem c_tell (M : xM) (k0 : Nat) (x1 x2 x3 x4 x5 x6 : Int32) (p : Prop) [Decidable p] : ∃ W, f_X2_tell M k0 x1 x2 x3 x4 x5 x6 (pI p) = some W ∧ (∀ k, k ≠ k0 → W k = M k) ∧ W k0 0 = x1 ∧ W k0 1 = x2 ∧ W k0 2 = x3 ∧ W k0 3 = x4 ∧ W k0 4 = x5 ∧ W k0 5 = x6 ∧ W k0 6 = pI p ∧ W k0 7 = 0 ∧ W k0 8 = 0 := by
  unfold f_X2_tell b_X2_tell_0
  rw [lt_d, lt_d, lt_d, lt_d, lt_d, lt_d, gz_p, lt_d, lt_d, lt_d]
  refine ⟨_, rfl, fun k hk => by rw [uM_row _ _ _ _ hk, uM_row _ _ _ _ hk, uM_row _ _ _ _ hk, uM_row _ _ _ _ hk, uM_row _ _ _ _ hk, uM_row _ _ _ _ hk, uM_row _ _ _ _ hk, uM_row _ _ _ _ hk, uM_row _ _ _ _ hk], ?_, ?_, ?_, ?_, ?_, ?_, ?_, ?_, ?_⟩ <;> simp [uM, upd]
theorem m_enters {N1 : xM} (hk : f_X11_keeps N = some N1) (h4 : N1 4 = N 4) (h2 : N 4 2 = nI ne) (c : ne < 40) (x1 x2 x3 x4 x5 x6 : Int32) : ∃ N2, f_X11_enters N x1 x2 x3 x4 x5 x6 = some (nI ne, N2) ∧ (∀ k, k ≠ 4 → N2 k = N1 k) ∧ N2 4 2 = nI (ne + 1) ∧ (N2 4 (155 + 7 * ne) = x1 ∧ N2 4 (155 + 7 * ne + 1) = x2 ∧ N2 4 (155 + 7 * ne + 2) = x3 ∧ N2 4 (155 + 7 * ne + 3) = x4 ∧ N2 4 (155 + 7 * ne + 4) = x5 ∧ N2 4 (155 + 7 * ne + 5) = x6 ∧ N2 4 (155 + 7 * ne + 6) = 0) ∧ ∀ k, k ≠ 2 → ¬ (155 + 7 * ne ≤ k ∧ k < 155 + 7 * ne + 7) → N2 4 k = N 4 k := by
  have e7 : (155 : Int32) + (7 : Int32) * nI ne = nI (155 + 7 * ne) := by rw [show (7 : Int32) = nI 7 from rfl, pk_mul, show (155 : Int32) = nI 155 from rfl, nI_add]
  have a0 : nI (155 + 7 * ne) + (0 : Int32) = nI (155 + 7 * ne) := nI_add _ 0
  have a1 : nI (155 + 7 * ne) + (1 : Int32) = nI (155 + 7 * ne + 1) := nI_add _ 1
  have a2 : nI (155 + 7 * ne) + (2 : Int32) = nI (155 + 7 * ne + 2) := nI_add _ 2
  have a3 : nI (155 + 7 * ne) + (3 : Int32) = nI (155 + 7 * ne + 3) := nI_add _ 3
  have a4 : nI (155 + 7 * ne) + (4 : Int32) = nI (155 + 7 * ne + 4) := nI_add _ 4
  have a5 : nI (155 + 7 * ne) + (5 : Int32) = nI (155 + 7 * ne + 5) := nI_add _ 5
  have a6 : nI (155 + 7 * ne) + (6 : Int32) = nI (155 + 7 * ne + 6) := nI_add _ 6
  have n2 : N1 4 2 = nI ne := by rw [h4]; exact h2
  unfold f_X11_enters b_X11_enters_0
  rw [gd_d (by decide) (by decide), cl2, h2, if_neg (nE 40 40 rfl (by omega) (by decide)), hk, bd_s, gd_d (by decide) (by decide), n2, e7, lt_d, a0, a1, a2, a3, a4, a5, a6]
  rw [gd_n (by omega) (by decide), clN (by omega), lt_d, gd_n (by omega) (by decide), clN (by omega), lt_d, gd_n (by omega) (by decide), clN (by omega), lt_d, gd_n (by omega) (by decide), clN (by omega), lt_d, gd_n (by omega) (by decide), clN (by omega), lt_d, gd_n (by omega) (by decide), clN (by omega), lt_d, gd_n (by omega) (by decide), clN (by omega), lt_d, gd_d (by decide) (by decide), gd_d (by decide) (by decide)]
  generalize hW : uM (uM (uM (uM (uM (uM (uM N1 4 (155 + 7 * ne) x1) 4 (155 + 7 * ne + 1) x2) 4 (155 + 7 * ne + 2) x3) 4 (155 + 7 * ne + 3) x4) 4 (155 + 7 * ne + 4) x5) 4 (155 + 7 * ne + 5) x6) 4 (155 + 7 * ne + 6) 0 = W
  have w4 : ∀ k, k ≠ 4 → W k = N1 k := fun k hk => by rw [← hW, uM_row _ _ _ _ hk, uM_row _ _ _ _ hk, uM_row _ _ _ _ hk, uM_row _ _ _ _ hk, uM_row _ _ _ _ hk, uM_row _ _ _ _ hk, uM_row _ _ _ _ hk]
  have wk : ∀ k, ¬ (155 + 7 * ne ≤ k ∧ k < 155 + 7 * ne + 7) → W 4 k = N1 4 k := fun k hk => by rw [← hW, uM_j _ _ _ _ (by omega), uM_j _ _ _ _ (by omega), uM_j _ _ _ _ (by omega), uM_j _ _ _ _ (by omega), uM_j _ _ _ _ (by omega), uM_j _ _ _ _ (by omega), uM_j _ _ _ _ (by omega)]
  have v0 : W 4 (155 + 7 * ne) = x1 := by rw [← hW, uM_j _ _ _ _ (by omega), uM_j _ _ _ _ (by omega), uM_j _ _ _ _ (by omega), uM_j _ _ _ _ (by omega), uM_j _ _ _ _ (by omega), uM_j _ _ _ _ (by omega), uM_s]
  have v1 : W 4 (155 + 7 * ne + 1) = x2 := by rw [← hW, uM_j _ _ _ _ (by omega), uM_j _ _ _ _ (by omega), uM_j _ _ _ _ (by omega), uM_j _ _ _ _ (by omega), uM_j _ _ _ _ (by omega), uM_s]
  have v2 : W 4 (155 + 7 * ne + 2) = x3 := by rw [← hW, uM_j _ _ _ _ (by omega), uM_j _ _ _ _ (by omega), uM_j _ _ _ _ (by omega), uM_j _ _ _ _ (by omega), uM_s]
  have v3 : W 4 (155 + 7 * ne + 3) = x4 := by rw [← hW, uM_j _ _ _ _ (by omega), uM_j _ _ _ _ (by omega), uM_j _ _ _ _ (by omega), uM_s]
  have v4 : W 4 (155 + 7 * ne + 4) = x5 := by rw [← hW, uM_j _ _ _ _ (by omega), uM_j _ _ _ _ (by omega), uM_s]
  have v5 : W 4 (155 + 7 * ne + 5) = x6 := by rw [← hW, uM_j _ _ _ _ (by omega), uM_s]
  have v6 : W 4 (155 + 7 * ne + 6) = 0 := by rw [← hW, uM_s]
  rw [wk 2 (by omega), n2, lt_d, gd_d (by decide) (by decide), uM_s, nI_1, nI_pred]
  refine ⟨_, rfl, fun k hk => by rw [uM_row _ _ _ _ hk]; exact w4 k hk, uM_s _ _ _ _, ⟨by rw [uM_j _ _ _ _ (by omega)]; exact v0, by rw [uM_j _ _ _ _ (by omega)]; exact v1, by rw [uM_j _ _ _ _ (by omega)]; exact v2, by rw [uM_j _ _ _ _ (by omega)]; exact v3, by rw [uM_j _ _ _ _ (by omega)]; exact v4, by rw [uM_j _ _ _ _ (by omega)]; exact v5, by rw [uM_j _ _ _ _ (by omega)]; exact v6⟩, fun k a b => by rw [uM_j _ _ _ _ a, wk k b, h4]⟩
theorem c_enterP (B : BB M N V A ng nw ne no) (c : ne < 40) (x1 x2 x3 x4 x5 v : Int32) : f_X10_enter M x1 x2 x3 x4 x5 v = b_X10_enter_41 M x1 x2 x3 x4 x5 v (pI (¬ v ≤ 0 ∧ kHold V ne v = -1)) := by
  unfold f_X10_enter b_X10_enter_0 b_X10_enter_40
  rw [B.rb.2.2.1, if_pos (lE 40 40 rfl c (by decide)), c_holderOf B.k, bd_s]
  by_cases e : v ≤ 0
  · rw [if_pos e, pI_f (fun z => z.1 e)]
  · rw [if_neg e]
    by_cases e2 : kHold V ne v = -1
    · rw [if_pos e2, pI_t ⟨e, e2⟩]
    · rw [if_neg e2, pI_f (fun z => e2 z.2)]
theorem Rel.enter (R : Rel M N) (B : BB M N V A ng nw ne no) {s w : Nat} (hs : s < 4) (hw : w < nw) {d a k v : Int32} (hd : dayP d) (ha : amtP a) (hp : s = 1 → (∃ x, x < 4 ∧ k = nI x) ∧ ∃ c, c ≤ 999 ∧ v = nI c) (hv : s ≠ 1 → v = -1) : ∃ r M1 N1, f_X10_enter M (nI s) (nI w) d a k v = some (r, M1) ∧ f_X11_enters N (nI s) (nI w) d a k v = some (r, N1) ∧ Rel M1 N1 := by
  have hb := B.bd
  have m5 : M 17 5 = nI ne := B.rb.2.2.1
  by_cases c : ne < 40
  rotate_left
  · have : ne = 40 := by omega
    subst this
    unfold f_X10_enter b_X10_enter_0 f_X11_enters b_X11_enters_0
    rw [m5, if_neg (by decide), gd2, cl2, B.wf4.c.2.2.1, if_pos (by decide)]
    exact R.refD 4 (by decide) (by decide)
  rw [c_enterP B c]
  obtain ⟨Wt, hWt, t1, u0, u1, u2, u3, u4, u5, u6, u7, u8⟩ := c_tell M (45 + ne) (nI s) (nI w) d a k v (¬ v ≤ 0 ∧ kHold V ne v = -1)
  unfold b_X10_enter_41
  rw [m5, gd_n c (by decide), clN (by omega), hWt, bd_s, lt_d, t1 17 (by omega), m5, nI_1]
  generalize hM2 : uM Wt 17 5 (nI (ne + 1)) = M2
  -- the new row
  let W : Nat → Int32 := fun q => if q = 2 then nI (ne + 1) else if q = 155 + 7 * ne then nI s else if q = 155 + 7 * ne + 1 then nI w else if q = 155 + 7 * ne + 2 then d else if q = 155 + 7 * ne + 3 then a else if q = 155 + 7 * ne + 4 then k else if q = 155 + 7 * ne + 5 then v else if q = 155 + 7 * ne + 6 then 0 else V q
  have w2 : W 2 = nI (ne + 1) := if_pos rfl
  have W0 : W (155 + 7 * ne) = nI s := by
    show (if 155 + 7 * ne = 2 then nI (ne + 1) else if 155 + 7 * ne = 155 + 7 * ne then nI s else _) = _
    rw [if_neg (by omega), if_pos rfl]
  have Wn : ∀ q, q ≠ 2 → ¬ (155 + 7 * ne ≤ q ∧ q < 155 + 7 * ne + 7) → W q = V q := fun q h2 h7 => by
    show (if q = 2 then _ else if q = _ then _ else if q = _ then _ else if q = _ then _ else if q = _ then _ else if q = _ then _ else if q = _ then _ else if q = _ then _ else V q) = _
    rw [if_neg h2, if_neg (by omega), if_neg (by omega), if_neg (by omega), if_neg (by omega), if_neg (by omega), if_neg (by omega), if_neg (by omega)]
  have W1 : W (155 + 7 * ne + 1) = nI w := by
    show (if 155 + 7 * ne + 1 = 2 then _ else if _ = _ then _ else if _ = _ then _ else _) = _
    rw [if_neg (by omega), if_neg (by omega), if_pos rfl]
  have W2 : W (155 + 7 * ne + 2) = d := by
    show (if 155 + 7 * ne + 2 = 2 then _ else if _ = _ then _ else if _ = _ then _ else if _ = _ then _ else _) = _
    rw [if_neg (by omega), if_neg (by omega), if_neg (by omega), if_pos rfl]
  have W3 : W (155 + 7 * ne + 3) = a := by
    show (if 155 + 7 * ne + 3 = 2 then _ else if _ = _ then _ else if _ = _ then _ else if _ = _ then _ else if _ = _ then _ else _) = _
    rw [if_neg (by omega), if_neg (by omega), if_neg (by omega), if_neg (by omega), if_pos rfl]
  have W4 : W (155 + 7 * ne + 4) = k := by
    show (if 155 + 7 * ne + 4 = 2 then _ else if _ = _ then _ else if _ = _ then _ else if _ = _ then _ else if _ = _ then _ else if _ = _ then _ else _) = _
    rw [if_neg (by omega), if_neg (by omega), if_neg (by omega), if_neg (by omega), if_neg (by omega), if_pos rfl]
  have W5 : W (155 + 7 * ne + 5) = v := by
    show (if 155 + 7 * ne + 5 = 2 then _ else if _ = _ then _ else if _ = _ then _ else if _ = _ then _ else if _ = _ then _ else if _ = _ then _ else if _ = _ then _ else _) = _
    rw [if_neg (by omega), if_neg (by omega), if_neg (by omega), if_neg (by omega), if_neg (by omega), if_neg (by omega), if_pos rfl]
  have W6 : W (155 + 7 * ne + 6) = 0 := by
    show (if 155 + 7 * ne + 6 = 2 then _ else if _ = _ then _ else if _ = _ then _ else if _ = _ then _ else if _ = _ then _ else if _ = _ then _ else if _ = _ then _ else if _ = _ then _ else _) = _
    rw [if_neg (by omega), if_neg (by omega), if_neg (by omega), if_neg (by omega), if_neg (by omega), if_neg (by omega), if_neg (by omega), if_pos rfl]
  clear_value W
  have s1 : (nI s = 1) ↔ s = 1 := nI_eq (b := 1) (by omega) (by decide)
  have hWF : WF W ng nw (ne + 1) no := by
    obtain ⟨b, ⟨v0, v1, v2, v3⟩, hg, hww, he, ho⟩ := WF_ex B.wf
    refine WF_mk ⟨b.1, b.2.1, by omega, b.2.2.2⟩ ⟨by rw [Wn 0 (by omega) (by omega)]; exact v0, by rw [Wn 1 (by omega) (by omega)]; exact v1, w2, by rw [Wn 3 (by omega) (by omega)]; exact v3⟩ (fun g hg' => by rw [Wn _ (by omega) (by omega)]; exact hg g hg') (fun u h => (hww u h).cg (by omega) (fun j hj => Wn _ (by omega) (by omega))) (fun i hi => ?_) (fun o h => (ho o h).cg (by omega) (fun j hj => Wn _ (by omega) (by omega)))
    by_cases e : i = ne
    · subst e
      refine ⟨⟨s, hs, W0⟩, ⟨w, hw, W1⟩, by rw [W2]; exact hd, by rw [W3]; exact ha, Or.inl W6, fun z => ?_, fun z => ?_⟩
      · rw [W4, W5]; rw [W0, s1] at z; exact hp z
      · rw [W5]; rw [W0, s1] at z; exact hv z
    · exact (he i (by omega)).cg (by omega) (fun j hj => Wn _ (by omega) (by omega))
  have hRB : RB M2 17 W ng nw (ne + 1) no := by
    obtain ⟨⟨p1, p3, p5, p7⟩, hg, hww, he, ho⟩ := RB_ex B.rb
    have fm : ∀ q, q ≠ 17 → q ≠ 45 + ne → M2 q = M q := fun q a b => by rw [← hM2, uM_row _ _ _ _ a]; exact t1 q b
    have f17 : ∀ j, j ≠ 5 → M2 17 j = M 17 j := fun j a => by rw [← hM2, uM_j _ _ _ _ a, t1 17 (by omega)]
    have fe : M2 (17 + 28 + ne) = Wt (45 + ne) := by rw [← hM2]; exact uM_row _ _ _ _ (by omega)
    refine RB_mk ⟨by rw [f17 1 (by decide)]; exact p1, by rw [f17 3 (by decide)]; exact p3, by rw [← hM2]; exact uM_s _ _ _ _, by rw [f17 7 (by decide)]; exact p7⟩ (fun g hg' => by rw [fm _ (by omega) (by omega), Wn _ (by omega) (by omega)]; exact hg g hg') (fun u h => (hww u h).cg (fun j hj => fm _ (by omega) (by omega)) (fun j hj => Wn _ (by omega) (by omega))) (fun i hi => ?_) (fun o h => (ho o h).cg (fm _ (by omega) (by omega)) (fun j hj => Wn _ (by omega) (by omega)))
    by_cases e : i = ne
    · subst e
      refine ⟨fun j hj => ?_, by rw [fe, W6]; exact u7, ?_⟩
      · rw [fe]
        have : j = 0 ∨ j = 1 ∨ j = 2 ∨ j = 3 ∨ j = 4 ∨ j = 5 := by omega
        rcases this with rfl | rfl | rfl | rfl | rfl | rfl
        · exact u0.trans W0.symm
        · exact u1.trans W1.symm
        · exact u2.trans W2.symm
        · exact u3.trans W3.symm
        · exact u4.trans W4.symm
        · exact u5.trans W5.symm
      · have hg : kGood W i ↔ (¬ v ≤ 0 ∧ kHold V i v = -1) := by
          rw [kHold_none (by omega)]
          constructor
          · rintro ⟨a1, a2, a3⟩
            rw [W0, s1] at a1
            rw [W5] at a2
            obtain ⟨-, x, hx, rfl⟩ := hp a1
            refine ⟨fun z => a2 ?_, fun q hq z => a3 q hq ?_⟩
            · rw [i_le, nI_toInt (by omega), i0] at z
              rw [show x = 0 by omega]; rfl
            · rw [Wn _ (by omega) (by omega), Wn _ (by omega) (by omega), W5]; exact z
          · rintro ⟨a1, a2⟩
            have hs1 : s = 1 := by
              by_cases e : s = 1
              · exact e
              · exact absurd (by rw [hv e]; decide) a1
            refine ⟨by rw [W0, hs1]; rfl, fun z => a1 ?_, fun q hq z => a2 q hq ?_⟩
            · rw [W5] at z; rw [z]; decide
            · rw [Wn _ (by omega) (by omega), Wn _ (by omega) (by omega), W5] at z; exact z
        rw [fe, u6, hg]
        by_cases e : ¬ v ≤ 0 ∧ kHold V i v = -1
        · exact Or.inl ⟨pI_t e, e⟩
        · exact Or.inr ⟨pI_f e, e⟩
    · exact (he i (by omega)).cg (fun j hj => by rw [fm _ (by omega) (by omega)]) (fun j hj => Wn _ (by omega) (by omega)) (fun q hq => ⟨Wn _ (by omega) (by omega), Wn _ (by omega) (by omega)⟩)
  obtain ⟨M3, r1, r2, r3, r4, r5⟩ := hWF.reck hRB
  rw [r1, bd_s]
  have k2 : KpB M M2 := fun q a b c => by rw [← hM2, uM_row _ _ _ _ (by omega)]; exact t1 q (by omega)
  obtain ⟨M1, N1, g1, g2, g3, g4, g5⟩ := R.act (k2.tr r2) (a := nI 4) (n := nI 0) 0 (okA_mk 4 0 (by decide) (by decide) (by decide) (by decide))
  have n4 : N1 4 = N 4 := g4 4 (by decide) (by decide)
  obtain ⟨N2, q1, q2, q3, ⟨y0, y1, y2, y3, y4, y5, y6⟩, q7⟩ := m_enters g2 n4 B.wf4.c.2.2.1 c (nI s) (nI w) d a k v
  have a1 : M1 17 5 = nI (ne + 1) := by rw [g3 17 (by decide) (by decide) (by decide) (by decide), r5, ← hM2]; exact uM_s _ _ _ _
  have g1' : f_X0_note M3 4 0 0 = some M1 := g1
  have eW : N2 4 = W := by
    funext q
    by_cases e2 : q = 2
    · rw [e2, q3, w2]
    by_cases e7 : 155 + 7 * ne ≤ q ∧ q < 155 + 7 * ne + 7
    · have : q = 155 + 7 * ne ∨ q = 155 + 7 * ne + 1 ∨ q = 155 + 7 * ne + 2 ∨ q = 155 + 7 * ne + 3 ∨ q = 155 + 7 * ne + 4 ∨ q = 155 + 7 * ne + 5 ∨ q = 155 + 7 * ne + 6 := by omega
      rcases this with rfl | rfl | rfl | rfl | rfl | rfl | rfl
      · exact y0.trans W0.symm
      · exact y1.trans W1.symm
      · exact y2.trans W2.symm
      · exact y3.trans W3.symm
      · exact y4.trans W4.symm
      · exact y5.trans W5.symm
      · exact y6.trans W6.symm
    · rw [q7 q e2 e7, Wn q e2 e7, B.1]
  rw [g1', bd_s, q1, a1, nI_pred]
  refine ⟨_, _, _, rfl, rfl, g5 N2 q2 ?_ ⟨ng, nw, ne + 1, no, by rw [eW]; exact hWF, by rw [eW]; exact r3, fun i hi hp' => ?_⟩⟩
  · rw [B.1, eW]
    refine EqV_mk B.wf (EqF_D (fun q => 155 + 7 * ne ≤ q ∧ q < 155 + 7 * ne + 7) (fun q hq => ?_) (fun q h1 h2 => by omega) (fun g h1 h2 => by omega) (fun u hu => ⟨fun j hj h2 => by omega, fun h2 => by omega, fun h2 => by omega, fun i _ _ => ⟨fun h2 => by omega, fun h2 => by omega⟩, fun y _ _ => ⟨fun h2 => by omega, fun h2 => by omega⟩⟩) (fun i hi j hj h2 => by omega) (fun o ho j hj h2 => by omega))
    show up1 W 2 (W 2 - 1) q = V q
    by_cases e : q = 2
    · subst e; rw [up1_s, w2, nI_pred]; exact B.wf.c.2.2.1.symm
    · rw [up1_n _ _ _ e, Wn q e hq]
  · rw [eW] at hp' ⊢
    have e18 : M2 18 1 = N 3 1 := by rw [k2 18 (by omega) (by omega) (by omega)]; exact (B.2.2.2 1 (by decide)).1
    rw [← e18]; exact r4 i hi hp'
theorem BB.why (B : BB M N V A ng nw ne no) (w d : Int32) (p q : Prop) [Decidable p] [Decidable q] (hpq : p ↔ dayP d ∧ q) : ∃ r, f_X10_entryRefusal M w d (pI p) = some r ∧ f_X11_why N w d (pI q) = some r ∧ ((r = -1 ∧ p ∧ ∃ j, j < nw ∧ w = nI j ∧ ¬ shutP V j d) ∨ (r ≠ -1 ∧ 0 ≤ r.toInt ∧ r.toInt < 5)) := by
  unfold f_X10_entryRefusal b_X10_entryRefusal_0 b_X10_entryRefusal_40 f_X11_why b_X11_why_0 b_X11_why_23 b_X11_why_41
  rw [B.hW, B.iW, bd_s, bd_s, m_isDay, bd_s]
  by_cases c0 : wP nw w
  rotate_left
  · rw [fp_f c0, fp_f c0]; exact ⟨0, rfl, rfl, Or.inr ⟨by decide, by decide, by decide⟩⟩
  rw [fp_t c0, fp_t c0]
  by_cases c1 : p
  rotate_left
  · rw [fp_f c1]
    by_cases c2 : dayP d
    · have c3 : ¬ q := fun z => c1 (hpq.mpr ⟨c2, z⟩)
      rw [fp_t c2, fp_f c3]; exact ⟨1, rfl, rfl, Or.inr ⟨by decide, by decide, by decide⟩⟩
    · rw [fp_f c2]; exact ⟨1, rfl, rfl, Or.inr ⟨by decide, by decide, by decide⟩⟩
  obtain ⟨c2, c3⟩ := hpq.mp c1
  have hb := B.bd
  obtain ⟨j, hj, rfl⟩ := wP_of (by omega) c0
  rw [fp_t c1, fp_t c2, fp_t c3, gd_n (by omega) (by decide), clN (by omega), c_isShutOn B hj c2, m_isShut B hj c2, bd_s]
  by_cases c4 : shutP V j d
  · rw [fp_t c4]; exact ⟨2, rfl, rfl, Or.inr ⟨by decide, by decide, by decide⟩⟩
  · rw [fp_f c4]; exact ⟨-1, rfl, rfl, Or.inl ⟨rfl, c1, j, hj, rfl, c4⟩⟩
end
