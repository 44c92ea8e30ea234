/-! lines: class and reference step by step -/
/-- what a line does: a fault there, or rule k is x and the next begins at q -/
abbrev lnQ (T : Nat → Int32) (n s : Nat) : Nat := bl T n (sm' T n s)
abbrev lnD (T : Nat → Int32) (n s : Nat) : Nat := dg T n (lnQ T n s)
abbrev lnX (T : Nat → Int32) (n s : Nat) : Int32 := nC T (lnQ T n s) (lnD T n s - lnQ T n s)
abbrev badW (T : Nat → Int32) (n s m : Nat) : Prop := ¬ (kW T n s < 7 ∧ m.testBit (kW T n s) = false)
abbrev badN (T : Nat → Int32) (n s : Nat) : Prop := lnD T n s = lnQ T n s ∨ 4 < lnD T n s - lnQ T n s ∨ (lnX T n s).toInt < (fLo (kW T n s)).toInt ∨ (fHi (kW T n s)).toInt < (lnX T n s).toInt
theorem fLo_0 : ∀ k, k < 7 → 0 ≤ (fLo k).toInt := by decide +kernel
section
variable {M N W X : xM} {R : Nat → Int32} {a fr wr pt nm ln : Int32} {T : Nat → Int32} {n : Nat}
/-- what the class has read -/
def WR (W : xM) (R : Nat → Int32) (m i : Nat) : Prop := (∀ k, k < 7 → W 4 k = R k ∧ (fLo k).toInt ≤ (R k).toInt ∧ (R k).toInt ≤ (fHi k).toInt) ∧ (∀ k, k < 7 → W 5 k = if m.testBit k then 1 else 0) ∧ W 3 2 = nI i
def K345 (M W : xM) : Prop := ∀ k, k ≠ 3 → k ≠ 4 → k ≠ 5 → W k = M k
theorem K345.tr {M W W' : xM} (h : K345 M W) (g : K345 W W') : K345 M W' := fun k a b c => (g k a b c).trans (h k a b c)
theorem K345.tp (h : K345 M W) (t : TpC M T n) : TpC W T n := ⟨t.1, by rw [h 1 (by decide) (by decide) (by decide)]; exact t.2.1, by rw [h 2 (by decide) (by decide) (by decide)]; exact t.2.2⟩
theorem ln_bd {s : Nat} (hs : s ≤ n) : s ≤ sm' T n s ∧ sm' T n s ≤ lnQ T n s ∧ lnQ T n s ≤ lnD T n s ∧ lnD T n s ≤ bl T n (lnD T n s) ∧ bl T n (lnD T n s) ≤ n := by
  have a1 := sm_bd T hs
  have a2 := bl_bd T a1.2
  have a3 := dg_bd T a2.2
  have a4 := bl_bd T a3.2
  exact ⟨a1.1, a2.1, a3.1, a4.1, a4.2⟩
theorem kW_bd (T : Nat → Int32) (n s : Nat) : kW T n s ≤ 7 := by
  have := (pst_bd (fun k => ¬ wdP T s (sm' T n s) k) 7 0).2
  show pst (fun k => ¬ wdP T s (sm' T n s) k) 7 0 ≤ 7
  omega
theorem c_readLine (t : TpC W T n) {s m i : Nat} (hm : m < 128) (hs : s ≤ n) (wr : WR W R m i) : ∃ W', K345 W W' ∧
    (badW T n s m → f_X6_readLine W (nI s) = some (nI s, W')) ∧
    (¬ badW T n s m → badN T n s → f_X6_readLine W (nI s) = some (nI (lnQ T n s), W')) ∧
    (¬ badW T n s m → ¬ badN T n s → f_X6_readLine W (nI s) = some (-1, W') ∧ WR W' (upd R (kW T n s) (lnX T n s)) (m ||| 2 ^ kW T n s) (i + 1)) := by
  have h0 := t.1
  obtain ⟨d1, d2, d3, d4, d5⟩ := ln_bd (T := T) hs
  have hk := kW_bd T n s
  unfold f_X6_readLine b_X6_readLine_0 b_X6_readLine_45 b_X6_readLine_113
  rw [t.2.1, c_small t hs, bd_s, c_ruleAt t d1 (by omega), bd_s, show f_X7_pastBlanks W (nI (sm' T n s)) = some (nI (lnQ T n s)) from c_pastBlanks t (by omega), bd_s, show f_X7_pastRun W (nI (lnQ T n s)) 48 57 = some (nI (lnD T n s)) from c_digit t (by omega), bd_s, c_numberIn t d3 (by omega), bd_s]
  by_cases b1 : badW T n s m
  · refine ⟨W, fun _ _ _ _ => rfl, fun _ => ?_, fun z => absurd b1 z, fun z => absurd b1 z⟩
    by_cases c0 : nI s = nI n
    · rw [if_pos c0]
    · rw [if_neg c0]
      by_cases c1 : wd T s (sm' T n s) < 7
      · have c2 : m.testBit (kW T n s) = true := by
          by_cases e : m.testBit (kW T n s) = true
          · exact e
          · exact absurd ⟨c1, by simpa using e⟩ b1
        rw [if_pos c1, if_neg (fun z => by
          have := congrArg Int32.toInt z
          rw [nI_toInt (by omega), show (-1 : Int32).toInt = -1 by decide] at this
          omega), gd_n c1 (by decide), clN (by omega), wr.2.1 _ c1, if_pos c2, if_neg (by decide)]
      · rw [if_neg c1, if_pos rfl]
  have ⟨k1, k2⟩ : kW T n s < 7 ∧ m.testBit (kW T n s) = false := by
    by_cases e : kW T n s < 7 ∧ m.testBit (kW T n s) = false
    · exact e
    · exact absurd e b1
  have c0 : ¬ nI s = nI n := fun z => by
    rw [nI_eq (by omega) (by omega)] at z
    have e : sm' T n s = s := by
      show pst (smP T) (n - s) s = s
      rw [show n - s = 0 by omega]; rfl
    have : kW T n s = 7 := by
      show wd T s (sm' T n s) = 7
      rw [e]; exact wd_none
    omega
  have k1' : wd T s (sm' T n s) < 7 := k1
  have kn : ¬ nI (kW T n s) = -1 := fun z => by
    have := congrArg Int32.toInt z
    rw [nI_toInt (by omega), show (-1 : Int32).toInt = -1 by decide] at this
    omega
  have w5 : W 5 (kW T n s) = 0 := by rw [wr.2.1 _ k1, k2]; rfl
  have gk : ∀ {β : Type} (o : Option β), gd (nI (kW T n s)) 7 o = o := fun o => gd_n k1 (by decide) o
  have cE : (nI (kW T n s)).toNatClampNeg = kW T n s := clN (by omega)
  have eQ : nI (bl T n (sm' T n s)) = nI (lnQ T n s) := rfl
  rw [if_neg c0, if_pos k1', if_neg kn, gk, cE, w5, if_pos rfl]
  have hlo := fLo_0 _ k1
  by_cases b2 : badN T n s
  · refine ⟨W, fun _ _ _ _ => rfl, fun z => absurd z b1, fun _ _ => ?_, fun _ z => absurd b2 z⟩
    by_cases c1 : nI (lnQ T n s) = nI n
    · rw [if_pos c1]
    · rw [if_neg c1, gk]
      by_cases c2 : lnD T n s = lnQ T n s ∨ 4 < lnD T n s - lnQ T n s
      · rw [if_pos c2, if_pos (by rw [i_lt, show (-1 : Int32).toInt = -1 by decide]; omega)]
      · rw [if_neg c2]
        by_cases c3 : lnX T n s < fLo (kW T n s)
        · rw [if_pos c3]
        · rw [if_neg c3, gk, if_neg (fun z => by
            rw [i_lt] at c3
            rw [i_le] at z
            rcases b2 with b2 | b2 | b2 | b2
            · exact c2 (Or.inl b2)
            · exact c2 (Or.inr b2)
            · exact c3 b2
            · have z' : (lnX T n s).toInt ≤ (fHi (kW T n s)).toInt := z
              omega)]
  · have n1 : ¬ (lnD T n s = lnQ T n s ∨ 4 < lnD T n s - lnQ T n s) := fun z => b2 (by rcases z with z | z; exact Or.inl z; exact Or.inr (Or.inl z))
    have n2 : (fLo (kW T n s)).toInt ≤ (lnX T n s).toInt := by
      by_cases e : (lnX T n s).toInt < (fLo (kW T n s)).toInt
      · exact absurd (Or.inr (Or.inr (Or.inl e))) b2
      · omega
    have n3 : (lnX T n s).toInt ≤ (fHi (kW T n s)).toInt := by
      by_cases e : (fHi (kW T n s)).toInt < (lnX T n s).toInt
      · exact absurd (Or.inr (Or.inr (Or.inr e))) b2
      · omega
    have c1 : ¬ nI (lnQ T n s) = nI n := fun z => by
      rw [nI_eq (by omega) (by omega)] at z
      have e : lnD T n s = lnQ T n s := by
        show pst (dgP T) (n - lnQ T n s) (lnQ T n s) = lnQ T n s
        rw [show n - lnQ T n s = 0 by omega]; rfl
      exact n1 (Or.inl e)
    have w3 : W 3 2 = nI i := wr.2.2
    refine ⟨uM (uM (uM W 4 (kW T n s) (lnX T n s)) 5 (kW T n s) 1) 3 2 (nI (i + 1)), fun k a3 a4 a5 => by rw [uM_row _ _ _ _ a3, uM_row _ _ _ _ a5, uM_row _ _ _ _ a4], fun z => absurd z b1, fun _ z => absurd z b2, fun _ _ => ⟨?_, fun k hk7 => ?_, fun k hk7 => ?_, uM_s _ _ _ _⟩⟩
    · rw [if_neg c1, gk, if_neg n1, if_neg (show ¬ lnX T n s < fLo (kW T n s) by rw [i_lt]; omega), gk, if_pos (show lnX T n s ≤ fHi (kW T n s) by rw [i_le]; exact n3), gk, lt_d (uM W 4 (kW T n s) (lnX T n s)), gk, lt_d, uM_row _ _ _ _ (by decide), uM_row _ _ _ _ (by decide), w3, lt_d, nI_1]
    · rw [uM_row _ _ _ _ (by decide), uM_row _ _ _ _ (by decide), uM4]
      by_cases e : k = kW T n s
      · subst e
        rw [pk_us, pk_us]
        exact ⟨rfl, n2, n3⟩
      · rw [pk_un e, pk_un e]; exact wr.1 k hk7
    · have hor := (bit_or m hm (kW T n s) k1).2.2.1 k hk7
      rw [uM_row _ _ _ _ (by decide), uM4, hor]
      by_cases e : k = kW T n s
      · subst e
        rw [pk_us]; simp
      · rw [pk_un e, uM_row _ _ _ _ (by decide), wr.2.1 k hk7]
        simp [e]
end
