/-! writes: change -/
section
variable {M N : xM} {V A : Nat → Int32} {ng nw ne no : Nat}
abbrev laterP (V : Nat → Int32) (w ch : Nat) (d : Int32) : Prop := 0 < ch ∧ d.toInt < (V (7 + 37 * w + 3 + 2 * (ch - 1))).toInt
theorem c_changesAfter (B : BB M N V A ng nw ne no) {w ch : Nat} (hw : w < nw) (hch : ch ≤ 6) (v2 : V (7 + 37 * w + 2) = nI ch) (d : Int32) : f_X8_changesAfter M (25 + 5 * w) d = some (pI (laterP V w ch d)) := by
  obtain ⟨-, -, b2, -, -, b5, -⟩ := B.k.w hw
  unfold f_X8_changesAfter b_X8_changesAfter_0 b_X8_changesAfter_26 b_X8_changesAfter_27
  rw [b2, v2, gz0, gz1]
  by_cases e : ch = 0
  · subst e
    rw [if_pos (by decide), pI_f (fun z => absurd z.1 (by omega))]
  · rw [if_neg (nI_nle (by omega) (by omega)), show (1 : Int32) = nI 1 from rfl, pk_sub (by omega), gd_n (by omega) (by decide), clN (by omega), show 25 + 5 * w + 1 = 26 + 5 * w by omega, (b5 (ch - 1) (by rw [v2]; exact nI_lt' (by omega) (by omega)) (by omega)).1]
    by_cases e2 : V (7 + 37 * w + 3 + 2 * (ch - 1)) ≤ d
    · rw [if_pos e2]
      rw [i_le] at e2
      rw [pI_f (fun z => by have := z.2; omega)]
    · rw [if_neg e2]
      rw [i_le] at e2
      rw [pI_t ⟨by omega, by omega⟩]; rfl
theorem m_chW {N1 : xM} {w ch : Nat} (hw : w < 4) (hch : ch < 6) (h2 : N1 4 (7 + 37 * w + 2) = nI ch) (d g : Int32) : ∃ N2, lt ((7 : Int32) + ((37 : Int32) * nI w)) (fun y_9 => gd ((y_9 + (3 : Int32)) + ((2 : Int32) * nI ch)) 495 (lt (uM N1 4 ((y_9 + (3 : Int32)) + ((2 : Int32) * nI ch)).toNatClampNeg d) (fun M_11 => gd (((y_9 + (3 : Int32)) + ((2 : Int32) * nI ch)) + (1 : Int32)) 495 (lt (uM M_11 4 (((y_9 + (3 : Int32)) + ((2 : Int32) * nI ch)) + (1 : Int32)).toNatClampNeg g) (fun M_13 => gd (y_9 + (2 : Int32)) 495 (gd (y_9 + (2 : Int32)) 495 (lt (uM M_13 4 (y_9 + (2 : Int32)).toNatClampNeg ((M_13 4 (y_9 + (2 : Int32)).toNatClampNeg) + (1 : Int32))) (fun M_16 => some (nI ch + (1 : Int32), M_16))))))))) = some (nI (ch + 1), N2) ∧ (∀ k, k ≠ 4 → N2 k = N1 k) ∧ N2 4 (7 + 37 * w + 2) = nI (ch + 1) ∧ N2 4 (7 + 37 * w + 3 + 2 * ch) = d ∧ N2 4 (7 + 37 * w + 3 + 2 * ch + 1) = g ∧ ∀ k, k ≠ 7 + 37 * w + 2 → k ≠ 7 + 37 * w + 3 + 2 * ch → k ≠ 7 + 37 * w + 3 + 2 * ch + 1 → N2 4 k = N1 4 k := by
  have e7 : (7 : Int32) + (37 : Int32) * nI w = nI (7 + 37 * w) := by rw [show (37 : Int32) = nI 37 from rfl, pk_mul, show (7 : Int32) = nI 7 from rfl, nI_add]
  have ea : nI (7 + 37 * w) + (3 : Int32) + (2 : Int32) * nI ch = nI (7 + 37 * w + 3 + 2 * ch) := by rw [show (3 : Int32) = nI 3 from rfl, show (2 : Int32) = nI 2 from rfl, pk_mul, nI_add, nI_add]
  have ec : nI (7 + 37 * w) + (2 : Int32) = nI (7 + 37 * w + 2) := nI_add _ 2
  rw [lt_d, e7, ea, nI_1, ec, gd_n (by omega) (by decide), clN (by omega), lt_d, gd_n (by omega) (by decide), clN (by omega), lt_d, gd_n (by omega) (by decide), gd_n (by omega) (by decide), clN (by omega), uM_j _ _ _ _ (by omega), uM_j _ _ _ _ (by omega), h2, lt_d, nI_1]
  refine ⟨_, rfl, fun k hk => by rw [uM_row _ _ _ _ hk, uM_row _ _ _ _ hk, uM_row _ _ _ _ hk], uM_s _ _ _ _, by rw [uM_j _ _ _ _ (by omega), uM_j _ _ _ _ (by omega), uM_s], by rw [uM_j _ _ _ _ (by omega), uM_s], fun k a b c => by rw [uM_j _ _ _ _ a, uM_j _ _ _ _ c, uM_j _ _ _ _ b]⟩
theorem c_goTo {M : xM} {k0 ch : Nat} (hch : ch < 6) (h2 : M k0 2 = nI ch) (d g : Int32) : ∃ W, f_X8_goTo M k0 d g = some W ∧ (∀ k, k ≠ k0 → k ≠ k0 + 1 → k ≠ k0 + 2 → W k = M k) ∧ W k0 = upd (M k0) 2 (nI (ch + 1)) ∧ W (k0 + 1) = upd (M (k0 + 1)) ch d ∧ W (k0 + 2) = upd (M (k0 + 2)) ch g := by
  unfold f_X8_goTo b_X8_goTo_0 b_X8_goTo_39
  rw [h2, if_neg (gE 6 6 rfl hch (by decide)), gd_n hch (by decide), clN (by omega), lt_d, uM_row _ _ _ _ (by omega), h2, gd_n hch (by decide), clN (by omega), lt_d, uM_row _ _ _ _ (by omega), uM_row _ _ _ _ (by omega), h2, lt_d, nI_1]
  refine ⟨_, rfl, fun k a b c => by rw [uM_row _ _ _ _ a, uM_row _ _ _ _ c, uM_row _ _ _ _ b], ?_, ?_, ?_⟩
  · rw [uM4, uM_row _ _ _ _ (by omega), uM_row _ _ _ _ (by omega)]
  · rw [uM_row _ _ _ _ (by omega), uM_row _ _ _ _ (by omega), uM4]
  · rw [uM_row _ _ _ _ (by omega), uM4, uM_row _ _ _ _ (by omega)]
theorem c_change {M N : xM} (h : Rel M N) (w0 d g0 : Int32) : ∃ r M1 N1, f_X10_change M w0 d g0 = some (r, M1) ∧ f_X11_change N w0 d g0 = some (r, N1) ∧ Rel M1 N1 := by
  obtain ⟨N0, e1, S, V, A, ng, nw, ne, no, B⟩ := h.th
  have R := h.sn S
  unfold f_X10_change b_X10_change_0 f_X11_change b_X11_change_0 b_X10_change_22 b_X11_change_21
  rw [lt_d (uM N 0 0 0), e1, B.hW, B.iW, bd_s, bd_s]
  by_cases c0 : wP nw w0
  rotate_left
  · rw [fp_f c0, fp_f c0]; exact R.refD 0 (by decide) (by decide)
  rw [fp_t c0, fp_t c0, B.hG, B.iG, bd_s, bd_s]
  by_cases c1 : wP ng g0
  rotate_left
  · rw [fp_f c1, fp_f c1]; exact R.refD 0 (by decide) (by decide)
  rw [fp_t c1, fp_t c1, c_isDay, m_isDay, bd_s, bd_s]
  by_cases c2 : dayP d
  rotate_left
  · rw [fp_f c2, fp_f c2]; exact R.refD 1 (by decide) (by decide)
  have hb := B.bd
  obtain ⟨w, hw, rfl⟩ := wP_of (by omega) c0
  obtain ⟨g, hg, rfl⟩ := wP_of (by omega) c1
  obtain ⟨-, -, ⟨ch, hch, v2, hcd, hcs⟩, -, -⟩ := B.wf.w hw
  obtain ⟨-, -, b2, -, -, -, -⟩ := B.k.w hw
  rw [fp_t c2, fp_t c2, gd_n (by omega) (by decide), clN (by omega), c_isShutOn B hw c2, m_isShut B hw c2, bd_s, bd_s]
  by_cases c3 : shutP V w d
  · rw [fp_t c3, fp_t c3]; exact R.refD 2 (by decide) (by decide)
  rw [fp_f c3, fp_f c3, c_guardianOn B.k hw, bd_s, B.its 2 hw 2 (by decide) rfl, bd_s, v2]
  have hlat : (if nI ch ≤ 0 then b_X11_change_89 N0 (nI w) d (nI g) (nI ch) else bd (f_X11_its N0 (nI w) (((3 : Int32) + ((2 : Int32) * nI ch)) - (2 : Int32))) (fun r_17 => if r_17 ≤ d then b_X11_change_89 N0 (nI w) d (nI g) (nI ch) else b_X11_change_90 N0 (nI w) d (nI g) (nI ch) (1 : Int32))) = b_X11_change_90 N0 (nI w) d (nI g) (nI ch) (pI (laterP V w ch d)) := by
    by_cases e : ch = 0
    · subst e
      rw [if_pos (by decide), pI_f (fun z => absurd z.1 (by omega))]; rfl
    · have ei : ((3 : Int32) + ((2 : Int32) * nI ch)) - (2 : Int32) = nI (3 + 2 * (ch - 1)) := by
        rw [show (3 : Int32) = nI 3 from rfl, show (2 : Int32) = nI 2 from rfl, pk_mul, nI_add, pk_sub (by omega)]
        congr 1; omega
      rw [if_neg (nI_nle (by omega) (by omega)), ei, B.its _ hw (3 + 2 * (ch - 1)) (by omega) rfl, bd_s, show 7 + 37 * w + (3 + 2 * (ch - 1)) = 7 + 37 * w + 3 + 2 * (ch - 1) by omega]
      by_cases e2 : V (7 + 37 * w + 3 + 2 * (ch - 1)) ≤ d
      · rw [if_pos e2]
        rw [i_le] at e2
        rw [pI_f (fun z => by have := z.2; omega)]; rfl
      · rw [if_neg e2]
        rw [i_le] at e2
        rw [pI_t ⟨by omega, by omega⟩]
  rw [hlat]
  unfold b_X11_change_90 b_X11_change_107 b_X10_change_86
  by_cases c5 : laterP V w ch d
  · rw [fp_t c5]
    by_cases c4 : kGuard V w d = nI g
    · rw [if_pos c4]; exact R.refD 3 (by decide) (by decide)
    · rw [if_neg c4, c_changesAfter B hw hch v2, bd_s, fp_t c5]; exact R.refD 3 (by decide) (by decide)
  rw [fp_f c5, B.rGuard hw, bd_s]
  by_cases c4 : kGuard V w d = nI g
  · rw [if_pos c4, if_pos c4]; exact R.refD 3 (by decide) (by decide)
  rw [if_neg c4, if_neg c4, c_changesAfter B hw hch v2, bd_s, fp_f c5, b2, v2]
  by_cases c6 : ch < 6
  rotate_left
  · have : ch = 6 := by omega
    subst this
    rw [if_neg (by decide), if_pos (by decide)]; exact R.refD 4 (by decide) (by decide)
  obtain ⟨Mb, hMb, w1, w2, w3, w4⟩ := c_goTo c6 (b2.trans v2) d (nI g)
  rw [if_pos (lE 6 6 rfl c6 (by decide)), if_neg (nE 6 6 rfl (by omega) (by decide)), hMb, bd_s]
  have kb : KpB M Mb := fun k a b c => w1 k (by omega) (by omega) (by omega)
  obtain ⟨M1, N1, g1, g2, g3, g4, g5⟩ := R.act kb (a := nI 3) (n := nI w) 0 (okA_mk 3 w (by decide) (by omega) (fun z => by omega) (fun _ => by omega))
  have n4 : N1 4 = V := (g4 4 (by decide) (by decide)).trans B.1
  obtain ⟨N2, q1, q2, q3, q4, q5, q6⟩ := m_chW (N1 := N1) (w := w) (by omega) c6 (by rw [n4]; exact v2) d (nI g)
  have a1 : M1 (25 + 5 * w) 2 = nI (ch + 1) := by rw [g3 _ (by omega) (by omega) (by omega) (by omega), w2]; exact pk_us
  have g1' : f_X0_note Mb 3 (nI w) 0 = some M1 := g1
  rw [g1', bd_s, g2, bd_s, q1, a1]
  have f : ∀ k, k ≠ 7 + 37 * w + 2 → k ≠ 7 + 37 * w + 3 + 2 * ch → k ≠ 7 + 37 * w + 3 + 2 * ch + 1 → N2 4 k = V k := fun k a b c => by rw [q6 k a b c, n4]
  refine ⟨_, _, _, rfl, rfl, g5 N2 q2 ?_ ⟨ng, nw, ne, no, ?_, ?_, ?_⟩⟩
  · rw [B.1]
    refine EqV_mk B.wf (EqF_D (fun k => k = 7 + 37 * w + 3 + 2 * ch ∨ k = 7 + 37 * w + 3 + 2 * ch + 1) (fun k hk => ?_) (fun k h1 h2 => by omega) (fun g h1 h2 => by omega) (fun u hu => ?_) (fun i hi j hj h2 => by omega) (fun o ho j hj h2 => by omega))
    · show up1 (N2 4) (7 + 37 * (nI w).toNatClampNeg + 2) (N2 4 (7 + 37 * (nI w).toNatClampNeg + 2) - 1) k = V k
      rw [clN (by omega)]
      by_cases e : k = 7 + 37 * w + 2
      · subst e; rw [up1_s, q3, nI_pred]; exact v2.symm
      · rw [up1_n _ _ _ e]; exact f k e (fun z => hk (Or.inl z)) (fun z => hk (Or.inr z))
    · have tri : u < w ∨ u = w ∨ w < u := by omega
      have hi' : ∀ i, nI i < V (7 + 37 * u + 2) → i < 6 → u = w → i < ch := fun i h1 hi e => by
        subst e
        rw [v2, nI_ltI (by omega) (by omega)] at h1; exact h1
      refine ⟨fun j hj h2 => ?_, fun h2 => ?_, fun h2 => ?_, fun i h1 hi => ⟨fun h2 => ?_, fun h2 => ?_⟩, fun y _ hy => ⟨fun h2 => ?_, fun h2 => ?_⟩⟩
      · rcases h2 with h2 | h2 <;> rcases tri with q | q | q <;> omega
      · rcases h2 with h2 | h2 <;> rcases tri with q | q | q <;> omega
      · rcases h2 with h2 | h2 <;> rcases tri with q | q | q <;> omega
      · have h3 := hi' i h1 hi
        rcases h2 with h2 | h2 <;> rcases tri with q | q | q <;> (try have h4 := h3 q) <;> omega
      · have h3 := hi' i h1 hi
        rcases h2 with h2 | h2 <;> rcases tri with q | q | q <;> (try have h4 := h3 q) <;> omega
      · rcases h2 with h2 | h2 <;> rcases tri with q | q | q <;> omega
      · rcases h2 with h2 | h2 <;> rcases tri with q | q | q <;> omega
  · obtain ⟨b, ⟨v0, v1, v2', v3⟩, hg0, hww, he, ho⟩ := WF_ex B.wf
    refine WF_mk b ⟨by rw [f 0 (by omega) (by omega) (by omega)]; exact v0, by rw [f 1 (by omega) (by omega) (by omega)]; exact v1, by rw [f 2 (by omega) (by omega) (by omega)]; exact v2', by rw [f 3 (by omega) (by omega) (by omega)]; exact v3⟩ (fun g hg' => by rw [f _ (by omega) (by omega) (by omega)]; exact hg0 g hg') (fun u hu => ?_) (fun i h => (he i h).cg (by omega) (fun j hj => f _ (by omega) (by omega) (by omega))) (fun o h => (ho o h).cg (by omega) (fun j hj => f _ (by omega) (by omega) (by omega)))
    by_cases e : u = w
    · subst e
      obtain ⟨a1, ⟨g', a2, a3⟩, -, ⟨cl, d1, d2, d3⟩, a5⟩ := hww u hu
      refine ⟨by rw [f _ (by omega) (by omega) (by omega)]; exact a1, ⟨g', a2, by rw [f _ (by omega) (by omega) (by omega)]; exact a3⟩, ⟨ch + 1, by omega, q3, fun i hi => ?_, fun i hi => ?_⟩, ⟨cl, d1, by rw [f _ (by omega) (by omega) (by omega)]; exact d2, fun y hy => by rw [f (7 + 37 * u + 16 + y) (by omega) (by omega) (by omega), f (7 + 37 * u + 26 + y) (by omega) (by omega) (by omega)]; exact d3 y hy⟩, by rw [f _ (by omega) (by omega) (by omega)]; exact a5⟩
      · by_cases e : i = ch
        · subst e; rw [q4, q5]; exact ⟨c2, g, hg, rfl⟩
        · rw [f _ (by omega) (by omega) (by omega), f (7 + 37 * u + 3 + 2 * i + 1) (by omega) (by omega) (by omega)]; exact hcd i (by omega)
      · rw [f (7 + 37 * u + 3 + 2 * i) (by omega) (by omega) (by omega)]
        by_cases e : i + 1 = ch
        · rw [e, q4]
          have : ¬ laterP V u ch d := c5
          have e8 : ch - 1 = i := by omega
          have h9 : ¬ (0 < ch ∧ d.toInt < (V (7 + 37 * u + 3 + 2 * (ch - 1))).toInt) := c5
          rw [e8] at h9
          omega
        · rw [f (7 + 37 * u + 3 + 2 * (i + 1)) (by omega) (by omega) (by omega)]; exact hcs i (by omega)
    · exact (hww u hu).cg (by omega) (fun j hj => f _ (by omega) (by omega) (by omega))
  · obtain ⟨p, hg0, hww, he, ho⟩ := RB_ex B.rb
    refine RB_mk (by rw [w1 17 (by omega) (by omega) (by omega)]; exact p) (fun g hg' => by rw [w1 _ (by omega) (by omega) (by omega), f _ (by omega) (by omega) (by omega)]; exact hg0 g hg') (fun u hu => ?_) (fun i h => (he i h).cg (fun j hj => by rw [w1 _ (by omega) (by omega) (by omega)]) (fun j hj => f _ (by omega) (by omega) (by omega)) (fun q hq => ⟨f _ (by omega) (by omega) (by omega), f _ (by omega) (by omega) (by omega)⟩)) (fun o h => (ho o h).cg (w1 _ (by omega) (by omega) (by omega)) (fun j hj => f _ (by omega) (by omega) (by omega)))
    by_cases e : u = w
    · subst e
      obtain ⟨a1, a2, a3, a4, a5, a6, a7⟩ := hww u hu
      have z0 : Mb (17 + 8 + 5 * u) = upd (M (17 + 8 + 5 * u)) 2 (nI (ch + 1)) := w2
      have z1 : Mb (17 + 9 + 5 * u) = upd (M (17 + 9 + 5 * u)) ch d := by
        have := w3; rw [show 25 + 5 * u + 1 = 26 + 5 * u by omega] at this; exact this
      have z2 : Mb (17 + 10 + 5 * u) = upd (M (17 + 10 + 5 * u)) ch (nI g) := by
        have := w4; rw [show 25 + 5 * u + 2 = 27 + 5 * u by omega] at this; exact this
      rw [show RBw Mb 17 (N2 4) u = RBw Mb 17 (N2 4) u from rfl]
      refine ⟨?_, ?_, ?_, ?_, ?_, fun i h1 hi => ?_, fun y h1 hy => ?_⟩
      · rw [z0, pk_un (by decide), f _ (by omega) (by omega) (by omega)]; exact a1
      · rw [z0, pk_un (by decide), f _ (by omega) (by omega) (by omega)]; exact a2
      · rw [z0, pk_us, q3]
      · rw [z0, pk_un (by decide), f _ (by omega) (by omega) (by omega)]; exact a4
      · rw [z0, pk_un (by decide), f _ (by omega) (by omega) (by omega)]; exact a5
      · rw [q3, nI_ltI (by omega) (by omega)] at h1
        rw [z1, z2]
        by_cases e : i = ch
        · subst e; rw [pk_us, pk_us, q4, q5]; exact ⟨rfl, rfl⟩
        · rw [pk_un e, pk_un e, f (7 + 37 * u + 3 + 2 * i) (by omega) (by omega) (by omega), f (7 + 37 * u + 3 + 2 * i + 1) (by omega) (by omega) (by omega)]
          exact a6 i (by rw [v2]; exact nI_lt' (by omega) (by omega)) hi
      · rw [f _ (by omega) (by omega) (by omega)] at h1
        rw [w1 _ (by omega) (by omega) (by omega), w1 _ (by omega) (by omega) (by omega), f _ (by omega) (by omega) (by omega), f (7 + 37 * u + 26 + y) (by omega) (by omega) (by omega)]
        exact a7 y h1 hy
    · exact (hww u hu).cg (fun j hj => w1 _ (by omega) (by omega) (by omega)) (fun j hj => f _ (by omega) (by omega) (by omega))
  · exact B.ralw.hi hb.2.2.1 (fun k hk => f k (by omega) (by omega) (by omega)) (fun i hi => by rw [w1 _ (by omega) (by omega) (by omega)])
end
