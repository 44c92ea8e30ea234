/-! the reference's line; all lines; fault, rules -/
section
variable {M N W X : xM} {R : Nat → Int32} {a fr wr pt nm ln : Int32} {T : Nat → Int32} {n : Nat}
theorem m_readsLine (h : TpM N T n) {s m : Nat} (hm : m < 128) (hs : s ≤ n) {nm ln : Int32} (x : MS N X R (nI (enF T n s)) (nI s) (-1) (nI (ptF T n s)) nm ln) : ∃ X',
    (badW T n s m → ∃ a pt nm, f_X11_readsLine X (nI m) = some (nI m, X') ∧ MS N X' R a (nI s) (nI s) pt nm ln) ∧
    (¬ badW T n s m → badN T n s → ∃ a pt nm, f_X11_readsLine X (nI m) = some (nI m, X') ∧ MS N X' R a (nI (lnQ T n s)) (nI (lnQ T n s)) pt nm ln) ∧
    (¬ badW T n s m → ¬ badN T n s → f_X11_readsLine X (nI m) = some (nI (m ||| 2 ^ kW T n s), X') ∧ MS N X' (upd R (kW T n s) (lnX T n s)) (nI (enF T n (bl T n (lnD T n s)))) (nI (bl T n (lnD T n s))) (-1) (nI (ptF T n (bl T n (lnD T n s)))) (nmF T n (bl T n (lnD T n s))) ln) := by
  have h0 := h.1
  obtain ⟨d1, d2, d3, d4, d5⟩ := ln_bd (T := T) hs
  have hk := kW_bd T n s
  unfold f_X11_readsLine b_X11_readsLine_0 b_X11_readsLine_2
  rw [m_which h hs x (nI m), bd_s]
  unfold b_X11_readsLine_25 b_X11_readsLine_40 b_X11_readsLine_94
  by_cases b1 : badW T n s m
  · obtain ⟨Y, y1, y2⟩ := m_bad x
    refine ⟨Y, fun _ => ⟨_, _, _, ?_, y2⟩, fun z => absurd b1 z, fun z => absurd b1 z⟩
    rw [y1, bd_s]
    by_cases c1 : kW T n s < 7
    · have c2 : m.testBit (kW T n s) = true := by
        by_cases e : m.testBit (kW T n s) = true
        · exact e
        · exact absurd ⟨c1, by simpa using e⟩ b1
      rw [if_neg (nE 7 7 rfl c1 (by decide)), if_pos ((bit_get m hm _ c1).mpr c2)]
    · rw [if_pos (show nI (kW T n s) = (7 : Int32) by rw [show kW T n s = 7 by omega]; rfl)]
  have ⟨k1, k2⟩ : kW T n s < 7 ∧ m.testBit (kW T n s) = false := by
    by_cases e : kW T n s < 7 ∧ m.testBit (kW T n s) = false
    · exact e
    · exact absurd e b1
  -- a word stands there: the token is a word
  have hw : s < n ∧ smP T s := by
    by_cases c : s < n ∧ smP T s
    · exact c
    · exfalso
      have e : sm' T n s = s := by
        by_cases c1 : s < n
        · exact pst_no _ _ _ (fun z => c ⟨c1, z⟩)
        · show pst (smP T) (n - s) s = s
          rw [show n - s = 0 by omega]; rfl
      have : kW T n s = 7 := by
        show wd T s (sm' T n s) = 7
        rw [e]; exact wd_none
      omega
  have e1 : enF T n s = sm' T n s := by show (if s < n then _ else _) = _; rw [if_pos hw.1, if_pos hw.2]
  rw [e1] at x
  obtain ⟨Y, y1, y2⟩ := m_next h (show sm' T n s ≤ n by omega) x
  have y2' : MS N Y R (nI (enF T n (lnQ T n s))) (nI (lnQ T n s)) (-1) (nI (ptF T n (lnQ T n s))) (nmF T n (lnQ T n s)) ln := y2
  have nb : ¬ (((nI m >>> (nI (kW T n s) &&& 31)) &&& (1 : Int32)) = 1) := fun z => by
    rw [bit_get m hm _ k1, k2] at z; exact absurd z (by decide)
  rw [if_neg (nE 7 7 rfl k1 (by decide)), if_neg nb, y1, bd_s, y2'.2.2.2.2.2.2.1, y2'.2.2.2.1, y2'.2.2.2.2.1, y2'.2.2.2.2.2.2.2.1]
  have hq : lnQ T n s ≤ n := by omega
  -- digits stand there
  by_cases c0 : lnD T n s = lnQ T n s
  · have e2 : ¬ nI (ptF T n (lnQ T n s)) = 2 := by
      have : ptF T n (lnQ T n s) = 0 ∨ ptF T n (lnQ T n s) = 1 ∨ ptF T n (lnQ T n s) = 3 := by
        show (if lnQ T n s < n then _ else _) = 0 ∨ (if lnQ T n s < n then _ else _) = 1 ∨ (if lnQ T n s < n then _ else _) = 3
        by_cases c1 : lnQ T n s < n
        · rw [if_pos c1]
          by_cases c2 : smP T (lnQ T n s)
          · rw [if_pos c2]; exact Or.inr (Or.inl rfl)
          · rw [if_neg c2]
            by_cases c3 : dgP T (lnQ T n s)
            · exfalso
              rcases pst_stop (dgP T) (n - lnQ T n s) (lnQ T n s) with z | z
              · have z' : lnD T n s = lnQ T n s + (n - lnQ T n s) := z
                omega
              · have z' : ¬ dgP T (lnD T n s) := z
                rw [c0] at z'
                exact z' c3
            · rw [if_neg c3]; exact Or.inr (Or.inr rfl)
        · rw [if_neg c1]; exact Or.inl rfl
      rcases this with z | z | z <;> rw [z] <;> decide
    obtain ⟨Z, z1, z2⟩ := m_bad y2'
    refine ⟨Z, fun z => absurd z b1, fun _ _ => ⟨_, _, _, ?_, z2⟩, fun _ z => absurd (Or.inl c0) z⟩
    rw [if_neg e2, z1, bd_s]
  have hd : lnQ T n s < n ∧ dgP T (lnQ T n s) := by
    constructor
    · omega
    · by_cases c : dgP T (lnQ T n s)
      · exact c
      · exact absurd (pst_no (dgP T) (n - lnQ T n s) (lnQ T n s) c) c0
  have hns : ¬ smP T (lnQ T n s) := fun z => by have h1 := z.1; have h2 := hd.2.2; omega
  have e2 : ptF T n (lnQ T n s) = 2 := by show (if lnQ T n s < n then _ else _) = 2; rw [if_pos hd.1, if_neg hns, if_pos hd.2]
  have e3 : enF T n (lnQ T n s) = lnD T n s := by show (if lnQ T n s < n then _ else _) = _; rw [if_pos hd.1, if_neg hns, if_pos hd.2]
  have e4 : nmF T n (lnQ T n s) = nMf T (lnQ T n s) (lnD T n s - lnQ T n s) := if_pos ⟨hd.1, hns, hd.2⟩
  rw [e2, e3, e4, if_pos (show nI 2 = (2 : Int32) from rfl), pk_sub (by omega)]
  rw [e2, e3, e4] at y2'
  by_cases c1 : 4 < lnD T n s - lnQ T n s
  · obtain ⟨Z, z1, z2⟩ := m_bad y2'
    refine ⟨Z, fun z => absurd z b1, fun _ _ => ⟨_, _, _, ?_, z2⟩, fun _ z => absurd (Or.inr (Or.inl c1)) z⟩
    rw [if_pos (show (4 : Int32) < nI (lnD T n s - lnQ T n s) from nI_lt' (a := 4) c1 (by omega)), z1, bd_s]
  rw [if_neg (show ¬ (4 : Int32) < nI (lnD T n s - lnQ T n s) from nI_nlt (a := 4) (by omega) (by omega))]
  obtain ⟨x1, x2, x3⟩ := nC_eq (T := T) (s := lnQ T n s) (lnD T n s - lnQ T n s) (by omega) (fun j hj => pst_in (dgP T) (n - lnQ T n s) (lnQ T n s) _ (by omega) (by
    show lnQ T n s + j < lnD T n s
    omega))
  rw [x1] at y2' ⊢
  have gk : ∀ {β : Type} (o : Option β), gd (nI (kW T n s)) 7 o = o := fun o => gd_n k1 (by decide) o
  have cE : (nI (kW T n s)).toNatClampNeg = kW T n s := clN (by omega)
  rw [gk, gk, cE, m_in, i_l, i_l, i_l, bd_s]
  by_cases c2 : (fLo (kW T n s)).toInt ≤ (lnX T n s).toInt ∧ (lnX T n s).toInt ≤ (fHi (kW T n s)).toInt
  rotate_left
  · obtain ⟨Z, z1, z2⟩ := m_bad y2'
    have hbN : badN T n s := by
      by_cases e : (lnX T n s).toInt < (fLo (kW T n s)).toInt
      · exact Or.inr (Or.inr (Or.inl e))
      · exact Or.inr (Or.inr (Or.inr (by omega)))
    refine ⟨Z, fun z => absurd z b1, fun _ _ => ⟨_, _, _, ?_, z2⟩, fun _ z => absurd hbN z⟩
    rw [fp_f c2, z1, bd_s]
  have nbN : ¬ badN T n s := fun z => by
    rcases z with z | z | z | z
    · exact c0 z
    · exact c1 z
    · omega
    · omega
  have y3 := y2'.r2 (kW T n s) (nC T (lnQ T n s) (lnD T n s - lnQ T n s))
  obtain ⟨Z, z1, z2⟩ := m_next h (show lnD T n s ≤ n by omega) y3
  refine ⟨Z, fun z => absurd z b1, fun _ z => absurd z nbN, fun _ _ => ⟨?_, z2⟩⟩
  rw [fp_t c2, gk, lt_d, z1, bd_s, (bit_or m hm _ k1).1]
end
