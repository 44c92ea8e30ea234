/-! the reference's tokens -/
/-- a reference's memory while it reads: rows 0 and 2 alone differ -/
def MS (N X : xM) (R : Nat → Int32) (a fr wr pt nm ln : Int32) : Prop := (∀ k, k ≠ 0 → k ≠ 2 → X k = N k) ∧ (∀ j, j ≠ 3 → j ≠ 4 → j ≠ 5 → j ≠ 6 → j ≠ 7 → j ≠ 10 → X 0 j = N 0 j) ∧ X 2 = R ∧ X 0 3 = a ∧ X 0 4 = fr ∧ X 0 5 = wr ∧ X 0 6 = pt ∧ X 0 7 = nm ∧ X 0 10 = ln
section
variable {N X : xM} {R : Nat → Int32} {a fr wr pt nm ln : Int32}
theorem MS.s3 (h : MS N X R a fr wr pt nm ln) (v : Int32) : MS N (uM X 0 3 v) R v fr wr pt nm ln := by
  obtain ⟨h1, h2, h3, h4, h5, h6, h7, h8, h9⟩ := h
  exact ⟨fun k a b => by rw [uM_row _ _ _ _ a]; exact h1 k a b, fun j a b c d e f => by rw [uM_j _ _ _ _ a]; exact h2 j a b c d e f, by rw [uM_row _ _ _ _ (by decide)]; exact h3, uM_s _ _ _ _, by rw [uM_j _ _ _ _ (by decide)]; exact h5, by rw [uM_j _ _ _ _ (by decide)]; exact h6, by rw [uM_j _ _ _ _ (by decide)]; exact h7, by rw [uM_j _ _ _ _ (by decide)]; exact h8, by rw [uM_j _ _ _ _ (by decide)]; exact h9⟩
theorem MS.s4 (h : MS N X R a fr wr pt nm ln) (v : Int32) : MS N (uM X 0 4 v) R a v wr pt nm ln := by
  obtain ⟨h1, h2, h3, h4, h5, h6, h7, h8, h9⟩ := h
  exact ⟨fun k a b => by rw [uM_row _ _ _ _ a]; exact h1 k a b, fun j a b c d e f => by rw [uM_j _ _ _ _ b]; exact h2 j a b c d e f, by rw [uM_row _ _ _ _ (by decide)]; exact h3, by rw [uM_j _ _ _ _ (by decide)]; exact h4, uM_s _ _ _ _, by rw [uM_j _ _ _ _ (by decide)]; exact h6, by rw [uM_j _ _ _ _ (by decide)]; exact h7, by rw [uM_j _ _ _ _ (by decide)]; exact h8, by rw [uM_j _ _ _ _ (by decide)]; exact h9⟩
theorem MS.s5 (h : MS N X R a fr wr pt nm ln) (v : Int32) : MS N (uM X 0 5 v) R a fr v pt nm ln := by
  obtain ⟨h1, h2, h3, h4, h5, h6, h7, h8, h9⟩ := h
  exact ⟨fun k a b => by rw [uM_row _ _ _ _ a]; exact h1 k a b, fun j a b c d e f => by rw [uM_j _ _ _ _ c]; exact h2 j a b c d e f, by rw [uM_row _ _ _ _ (by decide)]; exact h3, by rw [uM_j _ _ _ _ (by decide)]; exact h4, by rw [uM_j _ _ _ _ (by decide)]; exact h5, uM_s _ _ _ _, by rw [uM_j _ _ _ _ (by decide)]; exact h7, by rw [uM_j _ _ _ _ (by decide)]; exact h8, by rw [uM_j _ _ _ _ (by decide)]; exact h9⟩
theorem MS.s6 (h : MS N X R a fr wr pt nm ln) (v : Int32) : MS N (uM X 0 6 v) R a fr wr v nm ln := by
  obtain ⟨h1, h2, h3, h4, h5, h6, h7, h8, h9⟩ := h
  exact ⟨fun k a b => by rw [uM_row _ _ _ _ a]; exact h1 k a b, fun j a b c d e f => by rw [uM_j _ _ _ _ d]; exact h2 j a b c d e f, by rw [uM_row _ _ _ _ (by decide)]; exact h3, by rw [uM_j _ _ _ _ (by decide)]; exact h4, by rw [uM_j _ _ _ _ (by decide)]; exact h5, by rw [uM_j _ _ _ _ (by decide)]; exact h6, uM_s _ _ _ _, by rw [uM_j _ _ _ _ (by decide)]; exact h8, by rw [uM_j _ _ _ _ (by decide)]; exact h9⟩
theorem MS.s7 (h : MS N X R a fr wr pt nm ln) (v : Int32) : MS N (uM X 0 7 v) R a fr wr pt v ln := by
  obtain ⟨h1, h2, h3, h4, h5, h6, h7, h8, h9⟩ := h
  exact ⟨fun k a b => by rw [uM_row _ _ _ _ a]; exact h1 k a b, fun j a b c d e f => by rw [uM_j _ _ _ _ e]; exact h2 j a b c d e f, by rw [uM_row _ _ _ _ (by decide)]; exact h3, by rw [uM_j _ _ _ _ (by decide)]; exact h4, by rw [uM_j _ _ _ _ (by decide)]; exact h5, by rw [uM_j _ _ _ _ (by decide)]; exact h6, by rw [uM_j _ _ _ _ (by decide)]; exact h7, uM_s _ _ _ _, by rw [uM_j _ _ _ _ (by decide)]; exact h9⟩
theorem MS.s10 (h : MS N X R a fr wr pt nm ln) (v : Int32) : MS N (uM X 0 10 v) R a fr wr pt nm v := by
  obtain ⟨h1, h2, h3, h4, h5, h6, h7, h8, h9⟩ := h
  exact ⟨fun k a b => by rw [uM_row _ _ _ _ a]; exact h1 k a b, fun j a b c d e f => by rw [uM_j _ _ _ _ f]; exact h2 j a b c d e f, by rw [uM_row _ _ _ _ (by decide)]; exact h3, by rw [uM_j _ _ _ _ (by decide)]; exact h4, by rw [uM_j _ _ _ _ (by decide)]; exact h5, by rw [uM_j _ _ _ _ (by decide)]; exact h6, by rw [uM_j _ _ _ _ (by decide)]; exact h7, by rw [uM_j _ _ _ _ (by decide)]; exact h8, uM_s _ _ _ _⟩
theorem MS.r2 (h : MS N X R a fr wr pt nm ln) (k : Nat) (v : Int32) : MS N (uM X 2 k v) (upd R k v) a fr wr pt nm ln := by
  obtain ⟨h1, h2, h3, h4, h5, h6, h7, h8, h9⟩ := h
  exact ⟨fun k a b => by rw [uM_row _ _ _ _ b]; exact h1 k a b, fun j a b c d e f => by rw [uM_row _ _ _ _ (by decide)]; exact h2 j a b c d e f, by rw [uM4, h3], by rw [uM_row _ _ _ _ (by decide)]; exact h4, by rw [uM_row _ _ _ _ (by decide)]; exact h5, by rw [uM_row _ _ _ _ (by decide)]; exact h6, by rw [uM_row _ _ _ _ (by decide)]; exact h7, by rw [uM_row _ _ _ _ (by decide)]; exact h8, by rw [uM_row _ _ _ _ (by decide)]; exact h9⟩
abbrev TpM (N : xM) (T : Nat → Int32) (n : Nat) : Prop := n ≤ 200 ∧ N 0 2 = nI n ∧ ∀ i, i < n → N 1 i = T i ∧ 0 < (T i).toInt ∧ (T i).toInt < 256
variable {T : Nat → Int32} {n : Nat}
theorem m_see (h : TpM N T n) (m : MS N X R a fr wr pt nm ln) {q : Nat} (hq : q ≤ n) : f_X11_see X (nI q) = some (if q < n then T q else -1) := by
  have h0 := h.1
  unfold f_X11_see b_X11_see_0 b_X11_see_18
  rw [m.2.1 2 (by decide) (by decide) (by decide) (by decide) (by decide) (by decide), h.2.1, m.1 1 (by decide) (by decide)]
  by_cases c : q < n
  · rw [if_neg (nI_ge c (by omega)), gd_n (by omega) (by decide), clN (by omega), (h.2.2 q c).1, if_pos c]
  · rw [if_pos (nI_le (by omega) (by omega)), if_neg c]
theorem m_isSmall (M : xM) (x : Int32) : f_X11_isSmall M x = some (pI (97 ≤ x.toInt ∧ x.toInt ≤ 122)) := by
  simp only [f_X11_isSmall, b_X11_isSmall_0, b_X11_isSmall_16, b_X11_isSmall_17, gz0, gz1, i_lt]
  have e0 : (97 : Int32).toInt = 97 := by decide
  have e1 : (122 : Int32).toInt = 122 := by decide
  rw [e0, e1]
  unfold pI
  split <;> (try split) <;> (try split) <;> (first | rfl | omega)
theorem m_isDigit (M : xM) (x : Int32) : f_X11_isDigit M x = some (pI (48 ≤ x.toInt ∧ x.toInt ≤ 57)) := by
  simp only [f_X11_isDigit, b_X11_isDigit_0, b_X11_isDigit_16, b_X11_isDigit_17, gz0, gz1, i_lt]
  have e0 : (48 : Int32).toInt = 48 := by decide
  have e1 : (57 : Int32).toInt = 57 := by decide
  rw [e0, e1]
  unfold pI
  split <;> (try split) <;> (try split) <;> (first | rfl | omega)
/-- the reference's number -/
def nMf (T : Nat → Int32) (s : Nat) : Nat → Int32
  | 0 => 0
  | k + 1 => imin (1000000 : Int32) ((10 : Int32) * nMf T s k + T (s + k) - 48)
/-- what stands at a token's begin: 0 end, 1 word, 2 digits, 3 sign -/
abbrev ptF (T : Nat → Int32) (n s : Nat) : Nat := if s < n then (if smP T s then 1 else if dgP T s then 2 else 3) else 0
abbrev enF (T : Nat → Int32) (n s : Nat) : Nat := if s < n then (if smP T s then sm' T n s else if dgP T s then dg T n s else s + 1) else s
abbrev nmF (T : Nat → Int32) (n s : Nat) : Int32 := if s < n ∧ ¬ smP T s ∧ dgP T s then nMf T s (dg T n s - s) else 0
theorem enF_bd (T : Nat → Int32) {n s : Nat} (h : s ≤ n) : s ≤ enF T n s ∧ enF T n s ≤ n := by
  show s ≤ (if s < n then _ else _) ∧ (if s < n then _ else _) ≤ n
  have h1 := sm_bd T h
  have h2 := dg_bd T h
  by_cases c : s < n
  · rw [if_pos c]
    by_cases c2 : smP T s
    · rw [if_pos c2]; exact h1
    · rw [if_neg c2]
      by_cases c3 : dgP T s
      · rw [if_pos c3]; exact h2
      · rw [if_neg c3]; omega
  · rw [if_neg c]; omega
theorem m_next (h : TpM N T n) {p : Nat} (hp : p ≤ n) (m : MS N X R (nI p) fr wr pt nm ln) : ∃ X', f_X11_next X = some X' ∧ MS N X' R (nI (enF T n (bl T n p))) (nI (bl T n p)) wr (nI (ptF T n (bl T n p))) (nmF T n (bl T n p)) ln := by
  have h0 := h.1
  have hb := bl_bd T hp
  have n32 : ¬ ((-1 : Int32) = 32) := by decide
  unfold f_X11_next b_X11_next_0
  obtain ⟨W, w1, w2⟩ := pstL (body := fun s : xM => bl_X11_next_0 s) (blP T) n (fun q s => MS N s R (nI q) fr wr pt nm ln) (fun q s => MS N s R (nI q) fr wr pt nm ln) (fun q s hq hs => by
      try dsimp only
      unfold bl_X11_next_0
      rw [hs.2.2.2.1, m_see h hs (by omega), bd_s, if_pos hq]
      by_cases c : T q = 32
      · rw [if_pos c, if_pos c, lt_d, nI_1]; exact ⟨_, rfl, hs.s3 _⟩
      · rw [if_neg c, if_neg c]; exact ⟨_, rfl, hs⟩) (fun s hs => by
      try dsimp only
      unfold bl_X11_next_0
      rw [hs.2.2.2.1, m_see h hs (Nat.le_refl _), bd_s, if_neg (Nat.lt_irrefl n), if_neg n32]; exact ⟨_, rfl, hs⟩) (n - p) p BG X (by omega) (BG_lt (by omega)) m
  have w2' : MS N W R (nI (bl T n p)) fr wr pt nm ln := w2
  rw [w1, bd_s, w2'.2.2.2.1]
  clear w1
  generalize bl T n p = s at *
  rw [lt_d]
  have w3 := w2'.s4 (nI s)
  generalize uM W 0 4 (nI s) = W1 at *
  rw [w3.2.2.2.1, m_see h w3 hb.2, bd_s]
  -- behind the part: at, number
  have tail : ∀ k : Nat, k < 4 → k = ptF T n s → ∃ X', b_X11_next_76 W1 (nI k) = some X' ∧ MS N X' R (nI (enF T n s)) (nI s) wr (nI (ptF T n s)) (nmF T n s) ln := fun k hk hke => by
    unfold b_X11_next_76 b_X11_next_102 b_X11_next_137 b_X11_next_200
    rw [lt_d (uM W1 0 6 (nI k)), lt_d (uM (uM W1 0 6 (nI k)) 0 7 0)]
    have w4 := (w3.s6 (nI k)).s7 0
    generalize uM (uM W1 0 6 (nI k)) 0 7 0 = W2 at *
    rw [w4.2.2.2.2.2.2.1]
    by_cases c0 : s < n
    rotate_left
    · have e : ptF T n s = 0 := if_neg c0
      have e2 : enF T n s = s := if_neg c0
      have e3 : nmF T n s = 0 := if_neg (fun z => c0 z.1)
      rw [e] at hke ⊢
      rw [e2, e3]
      subst hke
      rw [if_neg (by decide)]
      have l1 : loopN (fun s => bl_X11_next_102 s) BG W2 = some W2 := by
        show loopN (fun s => bl_X11_next_102 s) (99999 + 1) W2 = _
        rw [loopN]
        unfold bl_X11_next_102
        rw [w4.2.2.2.2.2.2.1, if_neg (by decide)]
      have l2 : loopN (fun s => bl_X11_next_137 s) BG W2 = some W2 := by
        show loopN (fun s => bl_X11_next_137 s) (99999 + 1) W2 = _
        rw [loopN]
        unfold bl_X11_next_137
        rw [w4.2.2.2.2.2.2.1, if_neg (by decide)]
      rw [l1, bd_s, l2, bd_s]
      exact ⟨_, rfl, w4⟩
    by_cases c1 : smP T s
    · have e : ptF T n s = 1 := by show (if s < n then _ else _) = 1; rw [if_pos c0, if_pos c1]
      have e2 : enF T n s = sm' T n s := by show (if s < n then _ else _) = _; rw [if_pos c0, if_pos c1]
      have e3 : nmF T n s = 0 := if_neg (fun z => z.2.1 c1)
      rw [e] at hke ⊢
      rw [e2, e3]
      subst hke
      rw [if_neg (by decide)]
      obtain ⟨Y, y1, y2⟩ := pstL (body := fun s : xM => bl_X11_next_102 s) (smP T) n (fun q x => MS N x R (nI q) (nI s) wr (nI 1) 0 ln) (fun q x => MS N x R (nI q) (nI s) wr (nI 1) 0 ln) (fun q x hq hx => by
          try dsimp only
          unfold bl_X11_next_102
          rw [hx.2.2.2.2.2.2.1, if_pos (show nI 1 = (1 : Int32) from rfl), hx.2.2.2.1, m_see h hx (by omega), bd_s, if_pos hq, m_isSmall, bd_s]
          by_cases c : smP T q
          · rw [if_pos c, fp_t c, lt_d, nI_1]; exact ⟨_, rfl, hx.s3 _⟩
          · rw [if_neg c, fp_f c]; exact ⟨_, rfl, hx⟩) (fun x hx => by
          try dsimp only
          unfold bl_X11_next_102
          rw [hx.2.2.2.2.2.2.1, if_pos (show nI 1 = (1 : Int32) from rfl), hx.2.2.2.1, m_see h hx (Nat.le_refl _), bd_s, if_neg (Nat.lt_irrefl n), m_isSmall, bd_s, fp_f (by decide)]
          exact ⟨_, rfl, hx⟩) (n - s) s BG W2 (by omega) (BG_lt (by omega)) w4
      have l2 : loopN (fun s => bl_X11_next_137 s) BG Y = some Y := by
        show loopN (fun s => bl_X11_next_137 s) (99999 + 1) Y = _
        rw [loopN]
        unfold bl_X11_next_137
        rw [y2.2.2.2.2.2.2.1, if_neg (by decide)]
      rw [y1, bd_s, l2, bd_s]
      exact ⟨_, rfl, y2⟩
    by_cases c2 : dgP T s
    · have e : ptF T n s = 2 := by show (if s < n then _ else _) = 2; rw [if_pos c0, if_neg c1, if_pos c2]
      have e2 : enF T n s = dg T n s := by show (if s < n then _ else _) = _; rw [if_pos c0, if_neg c1, if_pos c2]
      have e3 : nmF T n s = nMf T s (dg T n s - s) := if_pos ⟨c0, c1, c2⟩
      rw [e] at hke ⊢
      rw [e2, e3]
      subst hke
      rw [if_neg (by decide)]
      have l1 : loopN (fun s => bl_X11_next_102 s) BG W2 = some W2 := by
        show loopN (fun s => bl_X11_next_102 s) (99999 + 1) W2 = _
        rw [loopN]
        unfold bl_X11_next_102
        rw [w4.2.2.2.2.2.2.1, if_neg (by decide)]
      obtain ⟨Y, y1, y2⟩ := pstL (body := fun s : xM => bl_X11_next_137 s) (dgP T) n (fun q x => s ≤ q ∧ MS N x R (nI q) (nI s) wr (nI 2) (nMf T s (q - s)) ln) (fun q x => MS N x R (nI q) (nI s) wr (nI 2) (nMf T s (q - s)) ln) (fun q x hq hx => by
          obtain ⟨hsq, hx⟩ := hx
          try dsimp only
          unfold bl_X11_next_137
          rw [hx.2.2.2.2.2.2.1, if_pos (show nI 2 = (2 : Int32) from rfl), hx.2.2.2.1, m_see h hx (by omega), bd_s, if_pos hq, m_isDigit, bd_s, bd_s]
          by_cases c : dgP T q
          · have hx7 := hx.2.2.2.2.2.2.2.1
            rw [if_pos c, fp_t c, hx7, lt_d, uM_j _ _ _ _ (by decide), hx.2.2.2.1, lt_d, nI_1]
            refine ⟨_, rfl, by omega, ?_⟩
            have := (hx.s7 (imin (1000000 : Int32) ((10 : Int32) * nMf T s (q - s) + T q - 48))).s3 (nI (q + 1))
            have e9 : nMf T s (q + 1 - s) = imin (1000000 : Int32) ((10 : Int32) * nMf T s (q - s) + T q - 48) := by
              rw [show q + 1 - s = q - s + 1 by omega]
              show imin (1000000 : Int32) ((10 : Int32) * nMf T s (q - s) + T (s + (q - s)) - 48) = _
              rw [show s + (q - s) = q by omega]
            rw [e9]
            exact this
          · rw [if_neg c, fp_f c]; exact ⟨_, rfl, hx⟩) (fun x hx => by
          obtain ⟨hsq, hx⟩ := hx
          try dsimp only
          unfold bl_X11_next_137
          rw [hx.2.2.2.2.2.2.1, if_pos (show nI 2 = (2 : Int32) from rfl), hx.2.2.2.1, m_see h hx (Nat.le_refl _), bd_s, if_neg (Nat.lt_irrefl n), m_isDigit, bd_s, fp_f (by decide)]
          exact ⟨_, rfl, hx⟩) (n - s) s BG W2 (by omega) (BG_lt (by omega)) ⟨Nat.le_refl s, by rw [Nat.sub_self]; exact w4⟩
      rw [l1, bd_s, y1, bd_s]
      exact ⟨_, rfl, y2⟩
    · have e : ptF T n s = 3 := by show (if s < n then _ else _) = 3; rw [if_pos c0, if_neg c1, if_neg c2]
      have e2 : enF T n s = s + 1 := by show (if s < n then _ else _) = _; rw [if_pos c0, if_neg c1, if_neg c2]
      have e3 : nmF T n s = 0 := if_neg (fun z => c2 z.2.2)
      rw [e] at hke ⊢
      rw [e2, e3]
      subst hke
      rw [if_pos (by decide), w4.2.2.2.1, nI_1, lt_d]
      have w5 := w4.s3 (nI (s + 1))
      generalize uM W2 0 3 (nI (s + 1)) = W3 at *
      have l1 : loopN (fun s => bl_X11_next_102 s) BG W3 = some W3 := by
        show loopN (fun s => bl_X11_next_102 s) (99999 + 1) W3 = _
        rw [loopN]
        unfold bl_X11_next_102
        rw [w5.2.2.2.2.2.2.1, if_neg (by decide)]
      have l2 : loopN (fun s => bl_X11_next_137 s) BG W3 = some W3 := by
        show loopN (fun s => bl_X11_next_137 s) (99999 + 1) W3 = _
        rw [loopN]
        unfold bl_X11_next_137
        rw [w5.2.2.2.2.2.2.1, if_neg (by decide)]
      rw [l1, bd_s, l2, bd_s]
      exact ⟨_, rfl, w5⟩
  by_cases c0 : s < n
  rotate_left
  · rw [if_neg c0, if_pos rfl]
    exact tail 0 (by omega) (if_neg c0).symm
  have hT := (h.2.2 s c0).2
  rw [if_pos c0, if_neg (fun z => by rw [z] at hT; exact absurd hT.1 (by decide)), m_isSmall, bd_s]
  by_cases c1 : smP T s
  · rw [fp_t c1]
    exact tail 1 (by omega) (by show 1 = (if s < n then _ else _); rw [if_pos c0, if_pos c1])
  rw [fp_f c1, m_isDigit, bd_s]
  by_cases c2 : dgP T s
  · rw [fp_t c2]
    exact tail 2 (by omega) (by show 2 = (if s < n then _ else _); rw [if_pos c0, if_neg c1, if_pos c2])
  · rw [fp_f c2]
    exact tail 3 (by omega) (by show 3 = (if s < n then _ else _); rw [if_pos c0, if_neg c1, if_neg c2])
end
