/-! the class: the turn in which payments go -/
abbrev dyI (V : Nat → Int32) (i : Nat) : Int := (V (155 + 7 * i + 2)).toInt
def posF (V : Nat → Int32) (t : Nat → Nat) (i : Nat) : Nat → Nat
  | 0 => 0
  | a + 1 => if dyI V (t a) ≤ dyI V i then a + 1 else posF V t i a
theorem posF_ok (V : Nat → Int32) (t : Nat → Nat) (i : Nat) : ∀ a, posF V t i a ≤ a ∧ (∀ b, posF V t i a ≤ b → b < a → dyI V i < dyI V (t b)) ∧ (posF V t i a = 0 ∨ dyI V (t (posF V t i a - 1)) ≤ dyI V i)
  | 0 => ⟨Nat.le_refl _, fun b _ h => absurd h (Nat.not_lt_zero b), Or.inl rfl⟩
  | a + 1 => by
    obtain ⟨h1, h2, h3⟩ := posF_ok V t i a
    unfold posF
    by_cases c : dyI V (t a) ≤ dyI V i
    · rw [if_pos c]
      exact ⟨Nat.le_refl _, fun b h4 h5 => by omega, Or.inr (by simpa using c)⟩
    · rw [if_neg c]
      refine ⟨by omega, fun b h4 h5 => ?_, h3⟩
      by_cases e : b = a
      · subst e; omega
      · exact h2 b h4 (by omega)
def tN (V : Nat → Int32) : Nat → Nat → Nat
  | 0 => fun q => q
  | i + 1 => fun q => if q < posF V (tN V i) i i then tN V i q else if q = posF V (tN V i) i i then i else tN V i (q - 1)
def TurnOK (V : Nat → Int32) (n : Nat) (t : Nat → Nat) : Prop := (∀ q, q < n → t q < n) ∧ (∀ p q, p < q → q < n → kAhead V (t p) (t q)) ∧ (∀ k, k < n → ∃ q, q < n ∧ t q = k)
theorem tN_ok (V : Nat → Int32) : ∀ n, TurnOK V n (tN V n)
  | 0 => ⟨fun q h => absurd h (Nat.not_lt_zero q), fun p q _ h => absurd h (Nat.not_lt_zero q), fun k h => absurd h (Nat.not_lt_zero k)⟩
  | i + 1 => by
    obtain ⟨g1, g2, g3⟩ := tN_ok V i
    obtain ⟨p1, p2, p3⟩ := posF_ok V (tN V i) i i
    simp only [tN]
    generalize hp : posF V (tN V i) i i = p at p1 p2 p3
    generalize tN V i = t at g1 g2 g3 p2 p3
    have lo : ∀ q, q < p → kAhead V (t q) i := by
      intro q hq
      have h0 : dyI V (t (p - 1)) ≤ dyI V i := p3.resolve_left (by omega)
      have h1 := g1 q (by omega)
      by_cases e : q = p - 1
      · rw [← e] at h0
        rcases Int.lt_or_eq_of_le h0 with z | z
        · exact Or.inl z
        · exact Or.inr ⟨z, h1⟩
      · rcases g2 q (p - 1) (by omega) (by omega) with z | ⟨z, -⟩
        · exact Or.inl (Int.lt_of_lt_of_le z h0)
        · have h2 : dyI V (t q) ≤ dyI V i := by have z' : dyI V (t q) = dyI V (t (p - 1)) := z; omega
          rcases Int.lt_or_eq_of_le h2 with y | y
          · exact Or.inl y
          · exact Or.inr ⟨y, h1⟩
    have hi : ∀ q, p ≤ q → q < i → kAhead V i (t q) := fun q h1 h2 => Or.inl (p2 q h1 h2)
    generalize hT : (fun q => if q < p then t q else if q = p then i else t (q - 1)) = T
    have T1 : ∀ q, q < p → T q = t q := fun q h => by rw [← hT]; exact if_pos h
    have T2 : T p = i := by rw [← hT]; simp
    have T3 : ∀ q, p < q → T q = t (q - 1) := fun q h => by rw [← hT]; simp only []; rw [if_neg (by omega), if_neg (by omega)]
    refine ⟨fun q hq => ?_, fun a b hab hb => ?_, fun k hk => ?_⟩
    · rcases Nat.lt_trichotomy q p with c | c | c
      · rw [T1 q c]; have := g1 q (by omega); omega
      · rw [c, T2]; omega
      · rw [T3 q c]; have := g1 (q - 1) (by omega); omega
    · rcases Nat.lt_trichotomy b p with c | c | c
      · rw [T1 b c, T1 a (by omega)]; exact g2 a b hab (by omega)
      · rw [c, T2, T1 a (by omega)]; exact lo a (by omega)
      · rw [T3 b c]
        rcases Nat.lt_trichotomy a p with d | d | d
        · rw [T1 a d]; exact g2 a (b - 1) (by omega) (by omega)
        · rw [d, T2]; exact hi (b - 1) (by omega) (by omega)
        · rw [T3 a d]; exact g2 (a - 1) (b - 1) (by omega) (by omega)
    · by_cases e : k = i
      · exact ⟨p, by omega, by rw [T2, e]⟩
      · obtain ⟨q, hq, hk2⟩ := g3 k (by omega)
        by_cases c1 : q < p
        · exact ⟨q, by omega, by rw [T1 q c1]; exact hk2⟩
        · exact ⟨q + 1, by omega, by rw [T3 (q + 1) (by omega), Nat.add_sub_cancel]; exact hk2⟩
theorem c_fillTurn {M : xM} {V : Nat → Int32} {ng nw ne no : Nat} (hb : ng ≤ 3 ∧ nw ≤ 4 ∧ ne ≤ 40 ∧ no ≤ 12) (h : CV M V ng nw ne no) : f_X1_fillTurn M = some (sR M 24 (fun q => if q < ne then nI (tN V ne q) else M 24 q)) := by
  simp only [f_X1_fillTurn, b_X1_fillTurn_0, b_X1_fillTurn_2]
  have hl := loopN_up (body := fun s : xM × Int32 => bl_X1_fillTurn_2 s.1 s.2) (r := sR M 24 (fun q => if q < ne then nI (tN V ne q) else M 24 q))
    (fun i => (sR M 24 (fun q => if q < i then nI (tN V i q) else M 24 q), nI i)) ne ?_ ?_ BG (BG_lt (by omega))
  · have e : (sR M 24 (fun q => if q < 0 then nI (tN V 0 q) else M 24 q), nI 0) = (M, (0 : Int32)) := by
      have : (fun q => if q < 0 then nI (tN V 0 q) else M 24 q) = M 24 := by funext q; exact if_neg (Nat.not_lt_zero q)
      rw [this, sR_self]; rfl
    rw [e] at hl
    rw [hl, bd_s]
  · intro i hi
    obtain ⟨g1, g2, g3⟩ := tN_ok V i
    obtain ⟨p1, p2, p3⟩ := posF_ok V (tN V i) i i
    have nx : tN V (i + 1) = fun q => if q < posF V (tN V i) i i then tN V i q else if q = posF V (tN V i) i i then i else tN V i (q - 1) := rfl
    rw [nx]
    generalize hp : posF V (tN V i) i i = p at p1 p2 p3
    generalize ht : tN V i = t at g1 p2 p3
    simp only [bl_X1_fillTurn_2, b_X1_fillTurn_12]
    have e17 : ∀ g, sR M 24 g 17 5 = nI ne := fun g => by rw [sR_n _ _ _ (by decide)]; exact h.2.2.1
    rw [if_neg (show ¬ sR M 24 (fun q => if q < i then nI (t q) else M 24 q) 17 5 ≤ nI i from by rw [e17]; exact nI_ge hi (by omega))]
    have li := loopN_up (body := fun s : xM × Int32 => bl_X1_fillTurn_12 s.1 (nI i) s.2) (r := (sR M 24 (fun q => if p < q ∧ q ≤ i then nI (t (q - 1)) else if q < i then nI (t q) else M 24 q), nI p))
      (fun a => (sR M 24 (fun q => if i - a < q ∧ q ≤ i then nI (t (q - 1)) else if q < i then nI (t q) else M 24 q), nI (i - a))) (i - p) ?_ ?_ BG (BG_lt (by omega))
    · have e : (sR M 24 (fun q => if i - 0 < q ∧ q ≤ i then nI (t (q - 1)) else if q < i then nI (t q) else M 24 q), nI (i - 0)) = (sR M 24 (fun q => if q < i then nI (t q) else M 24 q), nI i) := by
        congr 2
        funext q
        exact if_neg (by omega)
      rw [e] at li
      rw [li, bd_s]
      simp only [b_X1_fillTurn_64]
      rw [gd_n (by omega) (by decide), lt_d, lt_d, nI_clamp (by omega), nI_1, uM_sR]
      congr 3
      congr 1
      funext q
      unfold upd
      by_cases c : q = p
      · subst c
        rw [if_pos rfl, if_pos (show q < i + 1 by omega), if_neg (Nat.lt_irrefl q), if_pos rfl]
      · rw [if_neg c]
        by_cases c1 : q < p
        · rw [if_pos (show q < i + 1 by omega), if_pos c1]
          show (if p < q ∧ q ≤ i then nI (t (q - 1)) else if q < i then nI (t q) else M 24 q) = _
          rw [if_neg (by omega), if_pos (by omega)]
        · by_cases c2 : q < i + 1
          · rw [if_pos c2, if_neg c1, if_neg c]
            exact if_pos (by omega)
          · rw [if_neg c2]
            show (if p < q ∧ q ≤ i then nI (t (q - 1)) else if q < i then nI (t q) else M 24 q) = _
            rw [if_neg (by omega), if_neg (by omega)]
    · intro a ha
      simp only [bl_X1_fillTurn_12]
      generalize hR : (fun q => if i - a < q ∧ q ≤ i then nI (t (q - 1)) else if q < i then nI (t q) else M 24 q) = R
      have rr : ∀ q, R q = if i - a < q ∧ q ≤ i then nI (t (q - 1)) else if q < i then nI (t q) else M 24 q := fun q => by rw [← hR]
      obtain ⟨m, hm⟩ : ∃ m, i - a = m + 1 := ⟨i - a - 1, by omega⟩
      have hC : CV (sR M 24 R) V ng nw ne no := h.sR hb 24 R (by omega)
      have hd := p2 m (by omega) (by omega)
      have htm := g1 m (by omega)
      have e1 : R m = nI (t m) := by rw [rr, if_neg (by omega), if_pos (by omega)]
      have d1 : sR M 24 R (45 + t m) 2 = V (155 + 7 * t m + 2) := (hC.e (by omega)).2.2.1
      have d2 : sR M 24 R (45 + i) 2 = V (155 + 7 * i + 2) := (hC.e (by omega)).2.2.1
      have s1 : nI (m + 1) - (1 : Int32) = nI m := nI_pred m
      have s2 : nI (m + 1) + (-1 : Int32) = nI m := pk_m1 m
      rw [hm]
      have z0 : ¬ nI (m + 1) ≤ 0 := nI_nle (by omega) (by omega)
      rw [if_neg z0, s1, s2, sR_s, nI_clamp (by omega), e1, nI_clamp (by omega), nI_clamp (by omega), gd_n (by omega) (by decide), gd_n (by omega) (by decide), gd_n (by omega) (by decide), d1, d2]
      rw [if_neg (show ¬ V (155 + 7 * t m + 2) ≤ V (155 + 7 * i + 2) from fun z => by have z' : dyI V (t m) ≤ dyI V i := (i_le _ _).mp z; omega), gd_n (by omega) (by decide), gd_n (by omega) (by decide), lt_d, lt_d, nI_clamp (by omega), uM_sR]
      have e5 : i - (a + 1) = m := by omega
      rw [e5]
      congr 3
      congr 1
      funext q
      unfold upd
      by_cases c : q = m + 1
      · subst c
        rw [if_pos rfl, if_pos (by omega), Nat.add_sub_cancel]
      · rw [if_neg c, rr]
        by_cases c1 : m + 1 < q ∧ q ≤ i
        · rw [if_pos (by omega), if_pos (by omega)]
        · rw [if_neg (by omega), if_neg (show ¬ (m < q ∧ q ≤ i) by omega)]
    · have e5 : i - (i - p) = p := by omega
      rw [e5]
      simp only [bl_X1_fillTurn_12]
      generalize hR : (fun q => if p < q ∧ q ≤ i then nI (t (q - 1)) else if q < i then nI (t q) else M 24 q) = R
      have rr : ∀ q, R q = if p < q ∧ q ≤ i then nI (t (q - 1)) else if q < i then nI (t q) else M 24 q := fun q => by rw [← hR]
      rcases p3 with z | z
      · rw [z]
        rw [if_pos (show nI 0 ≤ 0 by decide)]
      · by_cases z2 : p = 0
        · rw [z2, if_pos (show nI 0 ≤ 0 by decide)]
        · obtain ⟨m, rfl⟩ : ∃ m, p = m + 1 := ⟨p - 1, by omega⟩
          have hC : CV (sR M 24 R) V ng nw ne no := h.sR hb 24 R (by omega)
          have htm := g1 m (by omega)
          have e1 : R m = nI (t m) := by rw [rr, if_neg (by omega), if_pos (by omega)]
          have d1 : sR M 24 R (45 + t m) 2 = V (155 + 7 * t m + 2) := (hC.e (by omega)).2.2.1
          have d2 : sR M 24 R (45 + i) 2 = V (155 + 7 * i + 2) := (hC.e (by omega)).2.2.1
          have s1 : nI (m + 1) - (1 : Int32) = nI m := nI_pred m
          rw [Nat.add_sub_cancel] at z
          rw [if_neg (nI_nle (n := m + 1) (by omega) (by omega)), s1, sR_s, nI_clamp (by omega), e1, nI_clamp (by omega), nI_clamp (by omega), gd_n (by omega) (by decide), gd_n (by omega) (by decide), gd_n (by omega) (by decide), d1, d2]
          rw [if_pos (show V (155 + 7 * t m + 2) ≤ V (155 + 7 * i + 2) from by rw [i_le]; exact z)]
  · simp only [bl_X1_fillTurn_2]
    rw [if_pos (show sR M 24 (fun q => if q < ne then nI (tN V ne q) else M 24 q) 17 5 ≤ nI ne from by rw [sR_n _ _ _ (by decide), h.2.2.1]; exact nI_le (Nat.le_refl ne) (by omega))]
