/-! operations over lists: holder, again, dispute, needed -/
theorem BB.e0 {M N : xM} {V A : Nat → Int32} {ng nw ne no i : Nat} (h : BB M N V A ng nw ne no) (hi : i < ne) : f_X11_entryOf N (nI i) 0 = some (V (155 + 7 * i)) := h.eOf 0 hi 0 (by decide) rfl
theorem BB.its0 {M N : xM} {V A : Nat → Int32} {ng nw ne no w : Nat} (h : BB M N V A ng nw ne no) (hw : w < nw) : f_X11_its N (nI w) 0 = some (V (7 + 37 * w)) := h.its 0 hw 0 (by decide) rfl
def fF (P : Nat → Prop) [DecidablePred P] : Nat → Nat → Int32 ⊕ Unit
  | _, 0 => .inr ()
  | i, k + 1 => if P i then .inl (nI i) else fF P (i + 1) k
theorem fF_none (P : Nat → Prop) [DecidablePred P] : ∀ k i, fF P i k = .inr () ↔ ∀ j, i ≤ j → j < i + k → ¬ P j
  | 0, i => ⟨fun _ j h1 h2 => by omega, fun _ => rfl⟩
  | k + 1, i => by
    unfold fF
    by_cases c : P i
    · rw [if_pos c]
      exact ⟨fun z => (by cases z), fun z => absurd c (z i (Nat.le_refl i) (by omega))⟩
    · rw [if_neg c, fF_none P k (i + 1)]
      constructor
      · intro z j h1 h2
        by_cases e : j = i
        · subst e; exact c
        · exact z j (by omega) (by omega)
      · intro z j h1 h2
        exact z j (by omega) (by omega)
theorem fF_some (P : Nat → Prop) [DecidablePred P] : ∀ k i v, fF P i k = .inl v → ∃ j, i ≤ j ∧ j < i + k ∧ v = nI j ∧ P j
  | 0, i, v, h => by cases h
  | k + 1, i, v, h => by
    unfold fF at h
    by_cases c : P i
    · rw [if_pos c] at h
      cases h
      exact ⟨i, Nat.le_refl i, by omega, rfl, c⟩
    · rw [if_neg c] at h
      obtain ⟨j, h1, h2, h3, h4⟩ := fF_some P k (i + 1) v h
      exact ⟨j, by omega, by omega, h3, h4⟩
theorem findN {body : Int32 → Option (Int32 ⊕ (Int32 ⊕ Unit))} (P : Nat → Prop) [DecidablePred P] (n : Nat) (hn : n < 1000) (hs : ∀ i, i < n → body (nI i) = if P i then some (.inr (.inl (nI i))) else some (.inl (nI (i + 1)))) (he : body (nI n) = some (.inr (.inr ()))) : loopN body BG 0 = some (fF P 0 n) := by
  have key : ∀ k i fuel, i + k = n → k < fuel → loopN body fuel (nI i) = some (fF P i k) := by
    intro k
    induction k with
    | zero =>
      intro i fuel e hf
      obtain ⟨f, rfl⟩ : ∃ f, fuel = f + 1 := ⟨fuel - 1, by omega⟩
      have e2 : i = n := by omega
      subst e2
      rw [loopN, he]; rfl
    | succ k ih =>
      intro i fuel e hf
      obtain ⟨f, rfl⟩ : ∃ f, fuel = f + 1 := ⟨fuel - 1, by omega⟩
      rw [loopN, hs i (by omega)]
      unfold fF
      by_cases c : P i
      · rw [if_pos c, if_pos c]
      · rw [if_neg c, if_neg c]; exact ih (i + 1) f (by omega) (by omega)
  exact key n 0 BG (by omega) (BG_lt (by omega))
abbrev hP (V : Nat → Int32) (v : Int32) (i : Nat) : Prop := V (155 + 7 * i) = 1 ∧ V (155 + 7 * i + 5) = v
def kHold (V : Nat → Int32) (ne : Nat) (v : Int32) : Int32 := match fF (hP V v) 0 ne with
  | .inl x => x
  | .inr _ => -1
theorem kHold_none {V : Nat → Int32} {ne : Nat} (hn : ne ≤ 40) (v : Int32) : kHold V ne v = -1 ↔ ∀ i, i < ne → ¬ hP V v i := by
  unfold kHold
  cases h : fF (hP V v) 0 ne with
  | inl x =>
    obtain ⟨j, h1, h2, h3, h4⟩ := fF_some _ _ _ _ h
    constructor
    · intro z
      dsimp only at z
      rw [h3, i_eq, nI_toInt (by omega)] at z
      have : (-1 : Int32).toInt = -1 := by decide
      omega
    · intro z
      exact absurd h4 (z j (by omega))
  | inr u =>
    have := (fF_none _ _ _).mp h
    exact ⟨fun _ i hi => this i (by omega) (by omega), fun _ => rfl⟩
theorem m_holder {N : xM} {V : Nat → Int32} {ng nw ne no : Nat} (hV : N 4 = V) (h : WF V ng nw ne no) (v : Int32) : f_X11_holder N v = some (if v ≤ 0 then -1 else kHold V ne v, uM N 0 0 0) := by
  have hb := h.bd
  subst hV
  simp only [f_X11_holder, b_X11_holder_0, b_X11_holder_7, b_X11_holder_49, lt_d]
  generalize hN1 : uM N 0 0 0 = N1
  have e4 : N1 4 = N 4 := by rw [← hN1]; exact uM_row _ _ _ _ (by decide)
  have hc : N1 4 2 = nI ne := by rw [e4]; exact h.c.2.2.1
  by_cases hv : v ≤ 0
  · have hl : loopN (fun s : Int32 => bl_X11_holder_7 N1 v s) BG 0 = some (.inr ()) := by
      have hb0 : bl_X11_holder_7 N1 v 0 = some (.inr (.inr ())) := by
        simp only [bl_X11_holder_7]
        rw [gd_d (by decide) (by decide), if_pos hv]
        split <;> rfl
      show loopN _ (99999 + 1) 0 = _
      rw [loopN, hb0]
    rw [hl, bd_s, if_pos hv]
    rfl
  · rw [findN (hP (N 4) v) ne (by omega) ?_ ?_, bd_s, if_neg hv]
    · unfold kHold
      cases fF (hP (N 4) v) 0 ne <;> rfl
    · intro i hi
      simp only [bl_X11_holder_7, b_X11_holder_43, lt_d, nI_1]
      rw [gd_d (by decide) (by decide), cl2, hc, if_neg (nI_ge hi (by omega)), if_neg hv, m_e0 N1 (by omega), bd_s, m_e5 N1 (by omega), bd_s, e4]
      by_cases c1 : N 4 (155 + 7 * i) = 1
      · rw [if_pos c1]
        by_cases c2 : N 4 (155 + 7 * i + 5) = v
        · rw [if_pos c2, if_pos ⟨c1, c2⟩]
        · rw [if_neg c2, if_neg (fun z => c2 z.2)]
      · rw [if_neg c1, if_neg (fun z => c1 z.1)]
    · simp only [bl_X11_holder_7]
      rw [gd_d (by decide) (by decide), cl2, hc, if_pos (nI_le (Nat.le_refl ne) (by omega))]
theorem c_holderOf {M : xM} {V A : Nat → Int32} {ng nw ne no : Nat} (h : Bk M V A ng nw ne no) (v : Int32) : f_X1_holderOf M v = some (kHold V ne v) := by
  obtain ⟨hc, hne⟩ := h.ne
  simp only [f_X1_holderOf, b_X1_holderOf_0, b_X1_holderOf_2]
  rw [findN (hP V v) ne (by omega) ?_ ?_, bd_s]
  · unfold kHold
    cases fF (hP V v) 0 ne <;> rfl
  · intro i hi
    obtain ⟨e0, -, -, -, -, e5, -⟩ := h.2.1.e hi
    simp only [bl_X1_holderOf_2, b_X1_holderOf_38, lt_d, nI_1]
    rw [hc, if_neg (nI_ge hi (by omega)), gd_n (by omega) (by decide), gd_n (by omega) (by decide), clN (by omega), e0, e5]
    by_cases c1 : V (155 + 7 * i) = 1
    · rw [if_pos c1]
      by_cases c2 : V (155 + 7 * i + 5) = v
      · rw [if_pos c2, if_pos ⟨c1, c2⟩]
      · rw [if_neg c2, if_neg (fun z => c2 z.2)]
    · rw [if_neg c1, if_neg (fun z => c1 z.1)]
  · simp only [bl_X1_holderOf_2]
    rw [hc, if_pos (nI_le (Nat.le_refl ne) (by omega))]
theorem c_holder {M N : xM} (h : Rel M N) (v : Int32) : ∃ r N1, f_X10_holder M v = some r ∧ f_X11_holder N v = some (r, N1) ∧ SameN N N1 := by
  obtain ⟨V, A, ng, nw, ne, no, B⟩ := h.bb
  have hb := B.bd
  have e1 : (1 : Int32).toInt = 1 := by decide
  have e9 : (999 : Int32).toInt = 999 := by decide
  simp only [f_X10_holder, b_X10_holder_0, b_X10_holder_12, b_X10_holder_24]
  rw [m_holder B.1 B.wf, c_holderOf B.k, bd_s]
  have S := SameN.th N 0
  by_cases c : v ≤ 0
  · rw [if_pos c, if_pos (by rw [i_lt, e1]; rw [i_le, i0] at c; omega)]
    exact ⟨_, _, rfl, rfl, S⟩
  rw [if_neg c, if_neg (by rw [i_lt, e1]; rw [i_le, i0] at c; omega)]
  by_cases c2 : v ≤ 999
  · rw [if_pos c2]; exact ⟨_, _, rfl, rfl, S⟩
  · rw [if_neg c2, (kHold_none hb.2.2.1 v).mpr (fun i hi z => by
      obtain ⟨-, k, hk, hk2⟩ := (B.wf.e hi).2.2.2.2.2.1 z.1
      rw [i_le, e9, ← z.2, hk2, nI_toInt (by omega)] at c2
      omega)]
    exact ⟨_, _, rfl, rfl, S⟩
/-! spoilt vouchers -/
abbrev sP (V : Nat → Int32) (i : Nat) : Prop := V (155 + 7 * i) = 1 ∧ ¬ V (155 + 7 * i + 5) = 0 ∧ ¬ kGood V i
abbrev aEnd : (Nat → Nat) → Nat → Nat → Nat := fun _ n _ => n
theorem aEnd_row {W : xM} {r n x : Nat} {R : Nat → Nat} (h : ∀ q, q < n → W r q = nI (R q)) : ∀ q, q < n + 1 → uM W r n (nI x) r q = nI (insR R n x q) := ins_row h (fun q a b => by omega)
theorem c_fillSpoilt {M N : xM} {V A : Nat → Int32} {ng nw ne no : Nat} (B : BB M N V A ng nw ne no) : ∃ M1, f_X1_fillSpoilt M = some (nI (bR (sP V) aEnd id ne).1, M1) ∧ Bt M M1 16 ∧ ∀ q, q < (bR (sP V) aEnd id ne).1 → M1 16 q = nI ((bR (sP V) aEnd id ne).2 q) := by
  have hb := B.bd
  simp only [f_X1_fillSpoilt, b_X1_fillSpoilt_0, b_X1_fillSpoilt_4]
  have hlo := loopN_inv (body := fun s : xM × Int32 × Int32 => bl_X1_fillSpoilt_4 s.1 s.2.1 s.2.2)
    (I := fun p s => s.2.2 = nI p ∧ s.2.1 = nI (bR (sP V) aEnd id p).1 ∧ Bt M s.1 16 ∧ ∀ q, q < (bR (sP V) aEnd id p).1 → s.1 16 q = nI ((bR (sP V) aEnd id p).2 q))
    (P := fun s => s.2 = nI (bR (sP V) aEnd id ne).1 ∧ Bt M s.1 16 ∧ ∀ q, q < (bR (sP V) aEnd id ne).1 → s.1 16 q = nI ((bR (sP V) aEnd id ne).2 q)) ne ?_ ?_ (M, 0, 0) BG ⟨rfl, rfl, Bt.rf M 16, fun q hq => absurd hq (Nat.not_lt_zero q)⟩ (BG_lt (by omega))
  · obtain ⟨⟨M1, x⟩, hl, h1, h2, h3⟩ := hlo
    dsimp only at h1
    subst h1
    exact ⟨M1, by rw [hl, bd_s], h2, h3⟩
  · rintro p ⟨W, x, y⟩ hp ⟨h1, h2, h3, h4⟩
    dsimp only at h1 h2 h3 h4
    subst h1 h2
    have BW := B.sm ((SameM.rf M).bt h3 (by omega))
    obtain ⟨e0, -, -, -, -, e5, -, e6⟩ := BW.k.2.1.e hp
    have hle := bR_le (sP V) aEnd id p
    dsimp only
    simp only [bl_X1_fillSpoilt_4, b_X1_fillSpoilt_31, lt_d, nI_1, f_X2_isSpoilt, b_X2_isSpoilt_0, b_X2_isSpoilt_26, b_X2_isSpoilt_27, gz0, gz1]
    rw [BW.k.ne.1, if_neg (nI_ge hp (by omega)), gd_n (by omega) (by decide), gd_n (by omega) (by decide), clN (by omega), clN (by omega), e0, e5]
    have no' : ¬ sP V p → ∃ s', some (Sum.inl (W, nI (bR (sP V) aEnd id p).1, nI (p + 1))) = some (Sum.inl s' : (xM × Int32 × Int32) ⊕ (xM × Int32)) ∧ s'.2.2 = nI (p + 1) ∧ s'.2.1 = nI (bR (sP V) aEnd id (p + 1)).1 ∧ Bt M s'.1 16 ∧ ∀ q, q < (bR (sP V) aEnd id (p + 1)).1 → s'.1 16 q = nI ((bR (sP V) aEnd id (p + 1)).2 q) := by
      intro hn
      have e : bR (sP V) aEnd id (p + 1) = bR (sP V) aEnd id p := by rw [bR, if_neg hn]
      rw [e]
      exact ⟨_, rfl, rfl, rfl, h3, h4⟩
    by_cases c1 : V (155 + 7 * p) = 1
    rotate_left
    · rw [if_neg c1, bd_s, if_pos rfl]; exact no' (fun z => c1 z.1)
    rw [if_pos c1]
    obtain ⟨-, v, hv1, hv2⟩ := (B.wf.e hp).2.2.2.2.2.1 c1
    by_cases c2 : V (155 + 7 * p + 5) ≤ 0
    · rw [if_pos c2, bd_s, if_pos rfl]
      refine no' (fun z => z.2.1 ?_)
      rw [hv2] at c2 ⊢
      rw [i_le, nI_toInt (by omega), i0] at c2
      rw [show v = 0 by omega]; rfl
    rw [if_neg c2]
    rcases e6 with ⟨e6, g⟩ | ⟨e6, g⟩
    · rw [e6, if_neg (by decide), bd_s, if_pos rfl]; exact no' (fun z => z.2.2 g)
    · rw [e6, if_pos rfl, bd_s, if_neg (by decide)]
      have hs : sP V p := ⟨c1, fun z => c2 (by rw [z]; exact Int32.le_refl 0), g⟩
      have e : bR (sP V) aEnd id (p + 1) = ((bR (sP V) aEnd id p).1 + 1, insR (bR (sP V) aEnd id p).2 (bR (sP V) aEnd id p).1 p) := by rw [bR, if_pos hs]; rfl
      rw [e]
      exact ⟨_, rfl, rfl, rfl, h3.u _ _, aEnd_row h4⟩
  · rintro ⟨W, x, y⟩ ⟨h1, h2, h3, h4⟩
    dsimp only at h1 h2 h3 h4
    subst h1 h2
    have BW := B.sm ((SameM.rf M).bt h3 (by omega))
    dsimp only
    simp only [bl_X1_fillSpoilt_4]
    rw [BW.k.ne.1, if_pos (nI_le (Nat.le_refl ne) (by omega))]
    exact ⟨_, rfl, rfl, h3, h4⟩
/-- the reference's list: what else is the same -/
def Ls (L W : xM) : Prop := (∀ k, k ≠ 13 → k ≠ 0 → W k = L k) ∧ ∀ j, j ≠ 25 → W 0 j = L 0 j
theorem Ls.rf (L : xM) : Ls L L := ⟨fun _ _ _ => rfl, fun _ _ => rfl⟩
theorem Ls.u13 {L W : xM} (h : Ls L W) (j : Nat) (v : Int32) : Ls L (uM W 13 j v) := ⟨fun k a b => by rw [uM_row _ _ _ _ a]; exact h.1 k a b, fun j hj => by rw [uM_row _ _ _ _ (by decide)]; exact h.2 j hj⟩
theorem Ls.u0 {L W : xM} (h : Ls L W) (v : Int32) : Ls L (uM W 0 25 v) := ⟨fun k a b => by rw [uM_row _ _ _ _ b]; exact h.1 k a b, fun j hj => by rw [uM_j _ _ _ _ hj]; exact h.2 j hj⟩
theorem Ls.bt {L W W1 : xM} (h : Ls L W) (g : Bt W W1 13) : Ls L W1 := ⟨fun k a b => by rw [g k a]; exact h.1 k a b, fun j hj => by rw [g 0 (by decide)]; exact h.2 j hj⟩
theorem SameN.ls {N L W : xM} (S : SameN N L) (h : Ls L W) : SameN N W := by
  obtain ⟨a1, a2, a3, a4, a5, a6, a7, a8, a9⟩ := S
  obtain ⟨g1, g2⟩ := h
  refine ⟨?_, ?_, ?_, ?_, ?_, ?_, ?_, ?_, ?_⟩
  · rw [g2 _ (by decide)]; exact a1
  · rw [g2 _ (by decide)]; exact a2
  · rw [g2 _ (by decide)]; exact a3
  · rw [g1 _ (by decide) (by decide)]; exact a4
  · rw [g1 _ (by decide) (by decide)]; exact a5
  · rw [g1 _ (by decide) (by decide)]; exact a6
  · rw [g1 _ (by decide) (by decide)]; exact a7
  · rw [g1 _ (by decide) (by decide)]; exact a8
  · rw [g1 _ (by decide) (by decide)]; exact a9
theorem c_again {M N : xM} (h : Rel M N) (k : Int32) : ∃ r M1 N1, f_X10_again M k = some (r, M1) ∧ f_X11_again N k = some (r, N1) ∧ SameM M M1 ∧ SameN N N1 := by
  obtain ⟨N1, e1, S, V, A, ng, nw, ne, no, B⟩ := h.th
  have hb := B.bd
  simp only [f_X10_again, b_X10_again_0, f_X11_again, b_X11_again_0, b_X11_again_12, lt_d, e1]
  obtain ⟨M1, g1, g2, g3⟩ := c_fillSpoilt B
  have hle := bR_le (sP V) aEnd id ne
  rw [g1, bd2_s, c_fromRow (by omega) g3, bd_s]
  have hlo := loopN_inv (body := fun s : xM × Int32 => bl_X11_again_12 s.1 k s.2)
    (I := fun p s => s.2 = nI p ∧ s.1 0 25 = nI (bR (sP V) aEnd id p).1 ∧ Ls N1 s.1 ∧ ∀ q, q < (bR (sP V) aEnd id p).1 → s.1 13 q = nI ((bR (sP V) aEnd id p).2 q))
    (P := fun W => W 0 25 = nI (bR (sP V) aEnd id ne).1 ∧ Ls N1 W ∧ ∀ q, q < (bR (sP V) aEnd id ne).1 → W 13 q = nI ((bR (sP V) aEnd id ne).2 q)) ne ?_ ?_ (uM N1 0 25 0, 0) BG ⟨rfl, (show uM N1 0 25 0 0 25 = 0 from uM_s _ _ _ _), (Ls.rf N1).u0 0, fun q hq => absurd hq (Nat.not_lt_zero q)⟩ (BG_lt (by omega))
  · obtain ⟨W, hl, h1, h2, h3⟩ := hlo
    rw [hl, bd_s, m_told (by omega) h1 h3]
    exact ⟨_, _, _, rfl, rfl, (SameM.rf M).bt g2 (by omega), S.ls h2⟩
  · rintro p ⟨W, y⟩ hp ⟨h1, h2, h3, h4⟩
    dsimp only at h1 h2 h3 h4
    subst h1
    have BW := B.sn ((SameN.rf N1).ls h3)
    have hle := bR_le (sP V) aEnd id p
    dsimp only
    simp only [bl_X11_again_12, b_X11_again_69, lt_d, nI_1]
    rw [gd_d (by decide) (by decide), cl2, BW.1, B.wf.c.2.2.1, if_neg (nI_ge hp (by omega)), BW.e0 hp, bd_s, BW.eOf 5 hp 5 (by decide) rfl, bd_s]
    have no' : ¬ sP V p → ∃ s', some (Sum.inl (W, nI (p + 1))) = some (Sum.inl s' : (xM × Int32) ⊕ xM) ∧ s'.2 = nI (p + 1) ∧ s'.1 0 25 = nI (bR (sP V) aEnd id (p + 1)).1 ∧ Ls N1 s'.1 ∧ ∀ q, q < (bR (sP V) aEnd id (p + 1)).1 → s'.1 13 q = nI ((bR (sP V) aEnd id (p + 1)).2 q) := by
      intro hn
      have e : bR (sP V) aEnd id (p + 1) = bR (sP V) aEnd id p := by rw [bR, if_neg hn]
      rw [e]
      exact ⟨_, rfl, rfl, h2, h3, h4⟩
    by_cases c1 : V (155 + 7 * p) = 1
    rotate_left
    · rw [if_neg c1]; exact no' (fun z => c1 z.1)
    rw [if_pos c1]
    by_cases c2 : V (155 + 7 * p + 5) = 0
    · rw [if_pos c2]; exact no' (fun z => z.2.1 c2)
    rw [if_neg c2, m_isGood W (by omega) (by rw [BW.1]; exact c1), BW.1, bd_s]
    by_cases g : kGood V p
    · rw [fp_t g]; exact no' (fun z => z.2.2 g)
    · rw [fp_f g, h2, gd_n (by omega) (by decide), clN (by omega), uM_row _ _ _ _ (by decide), h2, nI_1]
      have hs : sP V p := ⟨c1, c2, g⟩
      have e : bR (sP V) aEnd id (p + 1) = ((bR (sP V) aEnd id p).1 + 1, insR (bR (sP V) aEnd id p).2 (bR (sP V) aEnd id p).1 p) := by rw [bR, if_pos hs]; rfl
      rw [e]
      refine ⟨_, rfl, rfl, (by dsimp only; exact uM_s _ _ _ _), (h3.u13 _ _).u0 _, fun q hq => ?_⟩
      dsimp only at hq ⊢
      rw [uM_row _ _ _ _ (by decide)]
      exact aEnd_row h4 q hq
  · rintro ⟨W, y⟩ ⟨h1, h2, h3, h4⟩
    dsimp only at h1 h2 h3 h4
    subst h1
    have BW := B.sn ((SameN.rf N1).ls h3)
    dsimp only
    simp only [bl_X11_again_12]
    rw [gd_d (by decide) (by decide), cl2, BW.1, B.wf.c.2.2.1, if_pos (nI_le (Nat.le_refl ne) (by omega))]
    exact ⟨_, rfl, h2, h3, h4⟩
