/-! a line, on both sides -/
def cn (m : Nat) : Nat := ((List.range 7).filter (fun k => m.testBit k)).length
theorem bit_get : ∀ m, m < 128 → ∀ k, k < 7 → (((nI m >>> (nI k &&& 31)) &&& (1 : Int32) = 1) ↔ m.testBit k = true) := by decide +kernel
theorem bit_or : ∀ m, m < 128 → ∀ k, k < 7 → (nI m ||| ((1 : Int32) <<< (nI k &&& 31))) = nI (m ||| 2 ^ k) ∧ (m ||| 2 ^ k) < 128 ∧ (∀ j, j < 7 → (m ||| 2 ^ k).testBit j = (m.testBit j || j == k)) ∧ (m.testBit k = false → cn (m ||| 2 ^ k) = cn m + 1) := by decide +kernel
theorem cn_7 : ∀ m, m < 128 → cn m = 7 → ∀ k, k < 7 → m.testBit k = true := by decide +kernel
theorem cn_le : ∀ m, m < 128 → cn m ≤ 7 := by decide +kernel
section
variable {N X : xM} {R : Nat → Int32} {a fr wr pt nm ln : Int32} {T : Nat → Int32} {n : Nat}
theorem nC_eq {s : Nat} : ∀ k, k ≤ 4 → (∀ j, j < k → dgP T (s + j)) → nMf T s k = nC T s k ∧ 0 ≤ (nC T s k).toInt ∧ (nC T s k).toInt < 10 ^ k
  | 0, _, _ => ⟨rfl, by show 0 ≤ (0 : Int32).toInt; decide, by show (0 : Int32).toInt < 1; decide⟩
  | k + 1, hk, h => by
    obtain ⟨h1, h2, h3⟩ := nC_eq (s := s) k (by omega) (fun j hj => h j (by omega))
    have hd := h k (by omega)
    have hd1 : 48 ≤ (T (s + k)).toInt := hd.1
    have hd2 : (T (s + k)).toInt ≤ 57 := hd.2
    have p : (10 : Int) ^ k ≤ 1000 ∧ (10 : Int) ^ (k + 1) = 10 * 10 ^ k := by
      have : k = 0 ∨ k = 1 ∨ k = 2 ∨ k = 3 := by omega
      rcases this with rfl | rfl | rfl | rfl <;> exact ⟨by decide, by decide⟩
    have e10 : (10 : Int32).toInt = 10 := by decide
    have e48 : (48 : Int32).toInt = 48 := by decide
    have c1 : (nC T s k * 10).toInt = (nC T s k).toInt * 10 := by rw [i_mul (by rw [e10]; omega) (by rw [e10]; omega), e10]
    have c2 : (nC T s k * 10 + T (s + k)).toInt = (nC T s k).toInt * 10 + (T (s + k)).toInt := by rw [i_add (by rw [c1]; omega) (by rw [c1]; omega), c1]
    have c3 : (nC T s k * 10 + T (s + k) - 48).toInt = (nC T s k).toInt * 10 + (T (s + k)).toInt - 48 := by rw [i_sub (by rw [c2, e48]; omega) (by rw [c2, e48]; omega), c2, e48]
    have en : nC T s (k + 1) = nC T s k * 10 + T (s + k) - 48 := rfl
    have em : nMf T s (k + 1) = imin (1000000 : Int32) ((10 : Int32) * nMf T s k + T (s + k) - 48) := rfl
    refine ⟨?_, by rw [en, c3]; omega, by rw [en, c3, p.2]; omega⟩
    rw [em, en, h1, Int32.mul_comm]
    apply Int32.toInt_inj.mp
    rw [imin_i, c3, show (1000000 : Int32).toInt = 1000000 by decide]
    omega
theorem m_wordOf (M : xM) : ∀ k, k < 7 → f_X11_wordOf M (nI k) = some (7 + k) := fun k hk => by
  have : k = 0 ∨ k = 1 ∨ k = 2 ∨ k = 3 ∨ k = 4 ∨ k = 5 ∨ k = 6 := by omega
  unfold f_X11_wordOf b_X11_wordOf_0 b_X11_wordOf_61
  rcases this with rfl | rfl | rfl | rfl | rfl | rfl | rfl
  · rw [if_pos (by decide)]
  · rw [if_neg (by decide), if_pos (by decide)]
  · rw [if_neg (by decide), if_neg (by decide), if_pos (by decide)]
  · rw [if_neg (by decide), if_neg (by decide), if_neg (by decide), if_pos (by decide)]
  · rw [if_neg (by decide), if_neg (by decide), if_neg (by decide), if_neg (by decide), if_pos (by decide)]
  · rw [if_neg (by decide), if_neg (by decide), if_neg (by decide), if_neg (by decide), if_neg (by decide), if_pos (by decide)]
  · rw [if_neg (by decide), if_neg (by decide), if_neg (by decide), if_neg (by decide), if_neg (by decide), if_neg (by decide)]
theorem m_isWordL (h : TpM N T n) {s e k : Nat} (hse : s ≤ e) (he : e ≤ n) (hk : k < 7) (hl : e - s = sLen k) (m : MS N X R a (nI s) wr pt nm ln) : ∀ f j fuel, j + f = sLen k → f + 1 < fuel → loopN (fun x : Int32 × Int32 => bl_X11_isWord_40 X (7 + k) x.1 x.2) fuel (1, nI j) = some (pI (∀ i, i < sLen k → j ≤ i → T (s + i) = sByt k i)) := by
  have h0 := h.1
  obtain ⟨z1, l3, l5, z4⟩ := sLen_7 k hk
  intro f
  induction f with
  | zero =>
    intro j fuel e1 hf
    obtain ⟨fu, rfl⟩ : ∃ fu, fuel = fu + 1 := ⟨fuel - 1, by omega⟩
    rw [loopN]
    try dsimp only
    unfold bl_X11_isWord_40
    rw [if_neg (by decide), if_pos (show Int32.ofNat (sLen (7 + k)) ≤ nI j by rw [z1]; exact nI_le (by omega) (by omega)), pI_t (fun i hi hji => by omega)]
  | succ f ih =>
    intro j fuel e1 hf
    obtain ⟨fu, rfl⟩ : ∃ fu, fuel = fu + 1 := ⟨fuel - 1, by omega⟩
    have ej : j < sLen k := by omega
    have st : bl_X11_isWord_40 X (7 + k) 1 (nI j) = if T (s + j) = sByt k j then some (.inl (1, nI (j + 1))) else some (.inl (0, nI (j + 1))) := by
      unfold bl_X11_isWord_40 b_X11_isWord_76
      rw [if_neg (by decide), if_neg (show ¬ Int32.ofNat (sLen (7 + k)) ≤ nI j by rw [z1]; exact nI_ge ej (by omega)), m.2.2.2.2.1, nI_add, gd_n (by omega) (by decide), gd_n (by rw [z1]; exact ej) (by rw [z1]; omega), clN (by omega), clN (by omega), m.1 1 (by decide) (by decide), (h.2.2 (s + j) (by omega)).1, z4 j (by omega), lt_d, lt_d, nI_1]
    rw [loopN]
    try dsimp only
    rw [st]
    by_cases c : T (s + j) = sByt k j
    · rw [if_pos c]
      show loopN _ fu (1, nI (j + 1)) = _
      rw [ih (j + 1) fu (by omega) (by omega)]
      congr 1
      exact b01 _ _ ⟨fun z i hi hji => by
        by_cases ei : i = j
        · subst ei; exact c
        · exact z i hi (by omega), fun z i hi hji => z i hi (by omega)⟩
    · rw [if_neg c]
      show loopN _ fu (0, nI (j + 1)) = _
      obtain ⟨fv, rfl⟩ : ∃ fv, fu = fv + 1 := ⟨fu - 1, by omega⟩
      rw [loopN]
      try dsimp only
      unfold bl_X11_isWord_40
      rw [if_pos rfl, pI_f (fun z => c (z j ej (Nat.le_refl j)))]
theorem m_isWord (h : TpM N T n) {s e k : Nat} (hse : s ≤ e) (he : e ≤ n) (hk : k < 7) (m : MS N X R (nI e) (nI s) (-1) pt nm ln) (hp : pt = 1 ∨ ¬ pt = 1 ∧ ¬ wdP T s e k) : f_X11_isWord X (7 + k) = some (pI (wdP T s e k)) := by
  have h0 := h.1
  obtain ⟨z1, l3, l5, z4⟩ := sLen_7 k hk
  have l0 : loopN (fun x : Int32 × Int32 => bl_X11_isWord_40 X (7 + k) x.1 x.2) BG (0, 0) = some 0 := by
    show loopN _ (99999 + 1) (0, 0) = _
    rw [loopN]
    try dsimp only
    unfold bl_X11_isWord_40
    rw [if_pos rfl]
  unfold f_X11_isWord b_X11_isWord_0 b_X11_isWord_36 b_X11_isWord_37 b_X11_isWord_40 b_X11_isWord_83
  rw [m.2.2.2.2.2.1, if_pos rfl, m.2.2.2.2.2.2.1, m.2.2.2.1, m.2.2.2.2.1, pk_sub hse, l0, bd_s, gz0]
  rcases hp with hp | ⟨hp, hw⟩
  · rw [if_pos hp]
    by_cases c : e - s = sLen k
    · have l1 : loopN (fun x : Int32 × Int32 => bl_X11_isWord_40 X (7 + k) x.1 x.2) BG (1, 0) = some (pI (∀ i, i < sLen k → 0 ≤ i → T (s + i) = sByt k i)) := m_isWordL h hse he hk c m (sLen k) 0 BG (by omega) (BG_lt (by omega))
      rw [if_pos (show nI (e - s) = Int32.ofNat (sLen (7 + k)) by rw [z1, c]; rfl), l1, bd_s, gz_p]
      congr 1
      exact b01 _ _ ⟨fun z => ⟨c, fun j hj => z j hj (Nat.zero_le j)⟩, fun z i hi _ => z.2 i hi⟩
    · rw [if_neg (show ¬ nI (e - s) = Int32.ofNat (sLen (7 + k)) by rw [z1]; exact nI_ne' c (by omega) (by omega)), pI_f (fun z => c z.1)]
  · rw [if_neg hp, pI_f hw]
/-- a word's number, 7 if there is none -/
abbrev kW (T : Nat → Int32) (n s : Nat) : Nat := wd T s (sm' T n s)
theorem wd_none {s : Nat} : wd T s s = 7 := by
  show pst (fun k => ¬ wdP T s s k) 7 0 = 7
  have hb := pst_bd (fun k => ¬ wdP T s s k) 7 0
  rcases pst_stop (fun k => ¬ wdP T s s k) 7 0 with e | e
  · exact e
  · by_cases c : pst (fun k => ¬ wdP T s s k) 7 0 < 7
    · exfalso
      apply e
      intro z
      have := (sLen_7 _ c).2.1
      have := z.1
      omega
    · omega
theorem m_which (h : TpM N T n) {s : Nat} (hs : s ≤ n) (m : MS N X R (nI (enF T n s)) (nI s) (-1) (nI (ptF T n s)) nm ln) (t : Int32) : loopN (fun x : Int32 => bl_X11_readsLine_2 X t x) BG 0 = some (nI (kW T n s)) := by
  have hb := sm_bd T hs
  have hen := enF_bd T hs
  -- where the token is no word, no word stands there
  have hp : ∀ k, k < 7 → ∃ p : Prop, (p ↔ wdP T s (sm' T n s) k) ∧ (f_X11_isWord X (7 + k) = some 1 ∧ p ∨ f_X11_isWord X (7 + k) = some 0 ∧ ¬ p) := fun k hk => by
    refine ⟨wdP T s (sm' T n s) k, Iff.rfl, ?_⟩
    by_cases c0 : s < n ∧ smP T s
    · have e1 : enF T n s = sm' T n s := by show (if s < n then _ else _) = _; rw [if_pos c0.1, if_pos c0.2]
      have e2 : ptF T n s = 1 := by show (if s < n then _ else _) = 1; rw [if_pos c0.1, if_pos c0.2]
      rw [e1, e2] at m
      have := m_isWord h hb.1 hb.2 hk m (Or.inl rfl)
      by_cases c : wdP T s (sm' T n s) k
      · rw [pI_t c] at this; exact Or.inl ⟨this, c⟩
      · rw [pI_f c] at this; exact Or.inr ⟨this, c⟩
    · have e1 : sm' T n s = s := by
        by_cases c1 : s < n
        · exact pst_no _ _ _ (fun z => c0 ⟨c1, z⟩)
        · show pst (smP T) (n - s) s = s
          rw [show n - s = 0 by omega]; rfl
      have e2 : ¬ nI (ptF T n s) = 1 := by
        have : ptF T n s = 0 ∨ ptF T n s = 2 ∨ ptF T n s = 3 := by
          show (if s < n then _ else _) = 0 ∨ (if s < n then _ else _) = 2 ∨ (if s < n then _ else _) = 3
          by_cases c1 : s < n
          · rw [if_pos c1, if_neg (fun z => c0 ⟨c1, z⟩)]
            by_cases c2 : dgP T s
            · rw [if_pos c2]; exact Or.inr (Or.inl rfl)
            · rw [if_neg c2]; exact Or.inr (Or.inr rfl)
          · rw [if_neg c1]; exact Or.inl rfl
        rcases this with z | z | z <;> rw [z] <;> decide
      have hw : ¬ wdP T s (sm' T n s) k := fun z => by
        have := z.1
        have := (sLen_7 k hk).2.1
        omega
      refine Or.inr ⟨?_, hw⟩
      unfold f_X11_isWord b_X11_isWord_0 b_X11_isWord_36 b_X11_isWord_37 b_X11_isWord_40 b_X11_isWord_83
      have l0 : loopN (fun x : Int32 × Int32 => bl_X11_isWord_40 X (7 + k) x.1 x.2) BG (0, 0) = some 0 := by
        show loopN _ (99999 + 1) (0, 0) = _
        rw [loopN]
        try dsimp only
        unfold bl_X11_isWord_40
        rw [if_pos rfl]
      rw [m.2.2.2.2.2.1, if_pos rfl, m.2.2.2.2.2.2.1, if_neg e2, l0, bd_s, gz0]
  obtain ⟨r, h1, h2⟩ := pstL (body := fun x : Int32 => bl_X11_readsLine_2 X t x) (fun k => ¬ wdP T s (sm' T n s) k) 7 (fun q x => x = nI q) (fun q r => r = nI q) (fun q x hq hx => by
      subst hx
      try dsimp only
      unfold bl_X11_readsLine_2
      obtain ⟨p, hp1, hp2⟩ := hp q hq
      rw [if_neg (gE 7 7 rfl hq (by decide)), m_wordOf X q hq, bd_s]
      rcases hp2 with ⟨w1, w2⟩ | ⟨w1, w2⟩
      · rw [w1, bd_s, if_neg (fun z => z (hp1.mp w2)), if_neg (by decide)]; exact ⟨_, rfl, rfl⟩
      · rw [w1, bd_s, if_pos (fun z => w2 (hp1.mpr z)), if_pos rfl, lt_d, nI_1]; exact ⟨_, rfl, rfl⟩) (fun x hx => by
      subst hx
      try dsimp only
      unfold bl_X11_readsLine_2
      rw [if_pos (by decide)]
      exact ⟨_, rfl, rfl⟩) 7 0 BG (nI 0) (by omega) (BG_lt (by omega)) rfl
  rw [h2] at h1
  exact h1
theorem m_bad (m : MS N X R a fr (-1) pt nm ln) : ∃ X', f_X11_bad X = some X' ∧ MS N X' R a fr fr pt nm ln := by
  unfold f_X11_bad b_X11_bad_0 b_X11_bad_20
  rw [m.2.2.2.2.2.1, if_pos rfl, m.2.2.2.2.1, lt_d]
  exact ⟨_, rfl, m.s5 fr⟩
end
