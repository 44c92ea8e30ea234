/-! all lines; fault, rules -/
def pC (r : (xM × Int32) ⊕ ((xM) ⊕ ((xM × Int32) ⊕ (xM × Int32)))) : Option (Int32 × xM) := sm r (fun v => some (v.2, v.1)) (fun r => sm r (fun v => some ((-1 : Int32), v)) (fun r => sm r (fun v => some (v.2, v.1)) (fun v => some (v.2, v.1))))
def pM (v : xM) : Option (Int32 × xM) := if (v 0 5) = (-1 : Int32) then if (v 0 6) = 0 then b_X11_readsRules_127 v else bd (f_X11_bad v) (fun M_5 => b_X11_readsRules_127 M_5) else b_X11_readsRules_127 v
theorem loopN_l {σ ρ : Type} {body : σ → Option (σ ⊕ ρ)} {n : Nat} {s s' : σ} (h : body s = some (.inl s')) : loopN body (n + 1) s = loopN body n s' := by rw [loopN, h]
theorem loopN_r {σ ρ : Type} {body : σ → Option (σ ⊕ ρ)} {n : Nat} {s : σ} {r : ρ} (h : body s = some (.inr r)) : loopN body (n + 1) s = some r := by rw [loopN, h]
theorem nI_m1 {k : Nat} (h : k < 2 ^ 31) : ¬ nI k = -1 := fun z => by
  have := congrArg Int32.toInt z
  rw [nI_toInt h, show (-1 : Int32).toInt = -1 by decide] at this
  omega
section
variable {M N : xM} {T : Nat → Int32} {n : Nat}
def FIN (M N W X : xM) (r : Int32) : Prop := K345 M W ∧ ∃ R a fr wr pt nm ln, MS N X R a fr wr pt nm ln ∧ (r = -1 → (∀ k, k < 7 → W 4 k = R k ∧ (fLo k).toInt ≤ (R k).toInt ∧ (R k).toInt ≤ (fHi k).toInt) ∧ W 3 2 = ln)
theorem c_lines (t : TpC M T n) (h : TpM N T n) : ∀ f i m s W X R nm fC fM, i + f = 8 → cn m = i → m < 128 → s ≤ n → K345 M W → WR W R m i → MS N X R (nI (enF T n s)) (nI s) (-1) (nI (ptF T n s)) nm (nI i) → f < fC → 2 * f < fM →
    ∃ Z X' r W' X'', loopN (fun s : xM × Int32 × Int32 => bl_X6_firstFault_22 s.1 s.2.1 s.2.2) fC (W, nI s, nI i) = some Z ∧ pC Z = some (r, W') ∧ loopN (fun s : xM × Int32 × Int32 => bl_X11_readsRules_41 s.1 s.2.1 s.2.2) fM (X, nI m, 1) = some X' ∧ pM X' = some (r, X'') ∧ FIN M N W' X'' r := by
  have h0 := t.1
  intro f
  induction f with
  | zero =>
    intro i m s W X R nm fC fM e1 e2 e3
    have := cn_le m e3
    omega
  | succ f ih =>
    intro i m s W X R nm fC fM e1 e2 e3 hs hK hW hX hC hM
    obtain ⟨fc, rfl⟩ : ∃ fc, fC = fc + 1 := ⟨fC - 1, by omega⟩
    obtain ⟨fm, rfl⟩ : ∃ fm, fM = fm + 2 := ⟨fM - 2, by omega⟩
    obtain ⟨d1, d2, d3, d4, d5⟩ := ln_bd (T := T) hs
    have tW := hK.tp t
    obtain ⟨W', kk, A1, A2, A3⟩ := c_readLine tW e3 hs hW
    obtain ⟨X', B1, B2, B3⟩ := m_readsLine h e3 hs hX
    have K' := hK.tr kk
    have tW' := K'.tp t
    -- a loop of the reference's that is over
    have over : ∀ Y u, loopN (fun s : xM × Int32 × Int32 => bl_X11_readsRules_41 s.1 s.2.1 s.2.2) (fm + 1) (Y, u, 0) = some Y := fun Y u => by
      have : (fun s : xM × Int32 × Int32 => bl_X11_readsRules_41 s.1 s.2.1 s.2.2) (Y, u, 0) = some (.inr Y) := by
        show bl_X11_readsRules_41 Y u 0 = _
        unfold bl_X11_readsRules_41
        rw [if_pos rfl]
      exact loopN_r this
    have n7 : ¬ (7 : Int32) < nI i := nI_nlt (a := 7) (by omega) (by omega)
    -- a fault at q
    have flt : ∀ q : Nat, q ≤ n → f_X6_readLine W (nI s) = some (nI q, W') → (∃ a pt nm, f_X11_readsLine X (nI m) = some (nI m, X') ∧ MS N X' R a (nI q) (nI q) pt nm (nI i)) → ∃ Z X' r W' X'', loopN (fun s : xM × Int32 × Int32 => bl_X6_firstFault_22 s.1 s.2.1 s.2.2) (fc + 1) (W, nI s, nI i) = some Z ∧ pC Z = some (r, W') ∧ loopN (fun s : xM × Int32 × Int32 => bl_X11_readsRules_41 s.1 s.2.1 s.2.2) (fm + 2) (X, nI m, 1) = some X' ∧ pM X' = some (r, X'') ∧ FIN M N W' X'' r := fun q hq C1 D1 => by
      obtain ⟨a, pt, nm, D1, D2⟩ := D1
      have hc : (fun s : xM × Int32 × Int32 => bl_X6_firstFault_22 s.1 s.2.1 s.2.2) (W, nI s, nI i) = some (.inr (.inl (W', nI q))) := by
        show bl_X6_firstFault_22 W (nI s) (nI i) = _
        unfold bl_X6_firstFault_22
        rw [if_neg n7, C1, bd2_s, if_neg (nI_m1 (by omega))]
      have D3 := D2.s10 (nI (i + 1))
      have hm : (fun s : xM × Int32 × Int32 => bl_X11_readsRules_41 s.1 s.2.1 s.2.2) (X, nI m, 1) = some (.inl (uM X' 0 10 (nI (i + 1)), nI m, 0)) := by
        show bl_X11_readsRules_41 X (nI m) 1 = _
        unfold bl_X11_readsRules_41 b_X11_readsRules_95 b_X11_readsRules_96
        rw [if_neg (by decide), D1, bd2_s, D2.2.2.2.2.2.2.2.2, nI_1, lt_d, D3.2.2.2.2.2.1, if_neg (nI_m1 (by omega)), if_pos rfl]
      refine ⟨_, _, nI q, W', uM X' 0 10 (nI (i + 1)), loopN_r hc, rfl, (loopN_l hm).trans (over _ _), ?_, K', _, _, _, _, _, _, _, D3, fun z => absurd z (nI_m1 (by omega))⟩
      unfold pM b_X11_readsRules_127
      rw [D3.2.2.2.2.2.1, if_neg (nI_m1 (by omega))]
    by_cases b1 : badW T n s m
    · exact flt s hs (A1 b1) (B1 b1)
    by_cases b2 : badN T n s
    · exact flt (lnQ T n s) (by omega) (A2 b1 b2) (B2 b1 b2)
    obtain ⟨C1, C2⟩ := A3 b1 b2
    obtain ⟨D1, D2⟩ := B3 b1 b2
    have k1 : kW T n s < 7 ∧ m.testBit (kW T n s) = false := by
      by_cases e : kW T n s < 7 ∧ m.testBit (kW T n s) = false
      · exact e
      · exact absurd e b1
    obtain ⟨-, o2, -, o4⟩ := bit_or m e3 _ k1.1
    have e5 := o4 k1.2
    have D3 := D2.s10 (nI (i + 1))
    have cl := c_lineEnd tW' hs
    have cl' : f_X6_lineEnd W' (nI s) = some (nI (bl T n (lnD T n s))) := cl
    have hQ : bl T n (lnD T n s) ≤ n := d5
    generalize bl T n (lnD T n s) = e at *
    generalize m ||| 2 ^ kW T n s = m' at *
    generalize upd R (kW T n s) (lnX T n s) = R' at *
    by_cases c0 : e = n
    · subst e
      have hc : (fun s : xM × Int32 × Int32 => bl_X6_firstFault_22 s.1 s.2.1 s.2.2) (W, nI s, nI i) = some (.inr (.inr (.inl W'))) := by
        show bl_X6_firstFault_22 W (nI s) (nI i) = _
        unfold bl_X6_firstFault_22
        rw [if_neg n7, C1, bd2_s, if_pos rfl, cl', bd_s, tW'.2.1, if_pos rfl]
      have p0 : ptF T n n = 0 := if_neg (Nat.lt_irrefl n)
      have hm : (fun s : xM × Int32 × Int32 => bl_X11_readsRules_41 s.1 s.2.1 s.2.2) (X, nI m, 1) = some (.inl (uM X' 0 10 (nI (i + 1)), nI m', 0)) := by
        show bl_X11_readsRules_41 X (nI m) 1 = _
        unfold bl_X11_readsRules_41 b_X11_readsRules_95 b_X11_readsRules_96
        rw [if_neg (by decide), D1, bd2_s, D2.2.2.2.2.2.2.2.2, nI_1, lt_d, D3.2.2.2.2.2.1, if_pos rfl, D3.2.2.2.2.2.2.1, p0, if_neg (by decide), if_pos rfl]
      refine ⟨_, _, -1, W', uM X' 0 10 (nI (i + 1)), loopN_r hc, rfl, (loopN_l hm).trans (over _ _), ?_, K', _, _, _, _, _, _, _, D3, fun _ => ⟨C2.1, C2.2.2⟩⟩
      unfold pM b_X11_readsRules_127
      rw [D3.2.2.2.2.2.1, if_pos rfl, D3.2.2.2.2.2.2.1, p0, if_pos (by decide)]
    have he : e < n := by omega
    by_cases c1 : T e = 59
    · have p3 : ptF T n e = 3 := by
        have e59 : (59 : Int32).toInt = 59 := by decide
        show (if e < n then _ else _) = 3
        rw [if_pos he, if_neg (fun z => by have z1 := z.1; rw [c1, e59] at z1; omega), if_neg (fun z => by have z1 := z.2; rw [c1, e59] at z1; omega)]
      have q3 : enF T n e = e + 1 := by
        have e59 : (59 : Int32).toInt = 59 := by decide
        show (if e < n then _ else _) = e + 1
        rw [if_pos he, if_neg (fun z => by have z1 := z.1; rw [c1, e59] at z1; omega), if_neg (fun z => by have z1 := z.2; rw [c1, e59] at z1; omega)]
      rw [q3] at D3
      obtain ⟨Y, y1, y2⟩ := m_next h (show e + 1 ≤ n by omega) D3
      have hb := bl_bd T (show e + 1 ≤ n by omega)
      have hc : (fun s : xM × Int32 × Int32 => bl_X6_firstFault_22 s.1 s.2.1 s.2.2) (W, nI s, nI i) = some (.inl (W', nI (bl T n (e + 1)), nI (i + 1))) := by
        show bl_X6_firstFault_22 W (nI s) (nI i) = _
        unfold bl_X6_firstFault_22
        rw [if_neg n7, C1, bd2_s, if_pos rfl, cl', bd_s, tW'.2.1, if_neg (nI_ne' c0 (by omega) (by omega)), c_byteAt tW' he, bd_s, if_pos c1, nI_1, c_pastBlanks tW' (by omega), bd_s, lt_d, nI_1]
      have hm : (fun s : xM × Int32 × Int32 => bl_X11_readsRules_41 s.1 s.2.1 s.2.2) (X, nI m, 1) = some (.inl (Y, nI m', 1)) := by
        show bl_X11_readsRules_41 X (nI m) 1 = _
        unfold bl_X11_readsRules_41 b_X11_readsRules_95 b_X11_readsRules_96
        rw [if_neg (by decide), D1, bd2_s, D2.2.2.2.2.2.2.2.2, nI_1, lt_d, D3.2.2.2.2.2.1, if_pos rfl, D3.2.2.2.2.2.2.1, p3, if_pos (by decide), D3.2.2.2.2.1, gd_n (by omega) (by decide), clN (by omega), D3.1 1 (by decide) (by decide), (h.2.2 e he).1, if_pos c1, if_neg (by decide), y1, bd_s]
      obtain ⟨Z, X9, r, W9, X10, g1, g2, g3, g4, g5⟩ := ih (i + 1) m' (bl T n (e + 1)) W' Y R' _ fc (fm + 1) (by omega) (by omega) o2 hb.2 K' C2 y2 (by omega) (by omega)
      exact ⟨Z, X9, r, W9, X10, (loopN_l hc).trans g1, g2, (loopN_l hm).trans g3, g4, g5⟩
    · have hc : (fun s : xM × Int32 × Int32 => bl_X6_firstFault_22 s.1 s.2.1 s.2.2) (W, nI s, nI i) = some (.inr (.inr (.inr (.inl (W', nI e))))) := by
        show bl_X6_firstFault_22 W (nI s) (nI i) = _
        unfold bl_X6_firstFault_22
        rw [if_neg n7, C1, bd2_s, if_pos rfl, cl', bd_s, tW'.2.1, if_neg (nI_ne' c0 (by omega) (by omega)), c_byteAt tW' he, bd_s, if_neg c1]
      have hm : (fun s : xM × Int32 × Int32 => bl_X11_readsRules_41 s.1 s.2.1 s.2.2) (X, nI m, 1) = some (.inl (uM X' 0 10 (nI (i + 1)), nI m', 0)) := by
        show bl_X11_readsRules_41 X (nI m) 1 = _
        unfold bl_X11_readsRules_41 b_X11_readsRules_95 b_X11_readsRules_96
        rw [if_neg (by decide), D1, bd2_s, D2.2.2.2.2.2.2.2.2, nI_1, lt_d, D3.2.2.2.2.2.1, if_pos rfl, D3.2.2.2.2.2.2.1, D3.2.2.2.2.1, gd_n (by omega) (by decide), clN (by omega), D3.1 1 (by decide) (by decide), (h.2.2 e he).1, if_neg c1, if_pos rfl]
        exact ite_self _
      have pn : ¬ nI (ptF T n e) = 0 := by
        have : ptF T n e = 1 ∨ ptF T n e = 2 ∨ ptF T n e = 3 := by
          show (if e < n then _ else _) = 1 ∨ (if e < n then _ else _) = 2 ∨ (if e < n then _ else _) = 3
          rw [if_pos he]
          by_cases c2 : smP T e
          · rw [if_pos c2]; exact Or.inl rfl
          · rw [if_neg c2]
            by_cases c3 : dgP T e
            · rw [if_pos c3]; exact Or.inr (Or.inl rfl)
            · rw [if_neg c3]; exact Or.inr (Or.inr rfl)
        rcases this with z | z | z <;> rw [z] <;> decide
      obtain ⟨Y, y1, y2⟩ := m_bad D3
      refine ⟨_, _, nI e, W', Y, loopN_r hc, rfl, (loopN_l hm).trans (over _ _), ?_, K', _, _, _, _, _, _, _, y2, fun z => absurd z (nI_m1 (by omega))⟩
      unfold pM b_X11_readsRules_127
      rw [D3.2.2.2.2.2.1, if_pos rfl, D3.2.2.2.2.2.2.1, if_neg pn, y1, bd_s, y2.2.2.2.2.2.1]
end
