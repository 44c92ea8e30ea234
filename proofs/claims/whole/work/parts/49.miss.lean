/-! missing -/
theorem pIns_ok (ah : Nat → Prop) [DecidablePred ah] (R : Nat → Nat) : ∀ n, (∀ q, pIns ah R n ≤ q → q < n → ah (R q)) ∧ (pIns ah R n = 0 ∨ ¬ ah (R (pIns ah R n - 1)))
  | 0 => ⟨fun q _ h => absurd h (Nat.not_lt_zero q), Or.inl rfl⟩
  | k + 1 => by
    obtain ⟨h1, h2⟩ := pIns_ok ah R k
    unfold pIns
    by_cases c : ah (R k)
    · rw [if_pos c]
      refine ⟨fun q a b => ?_, h2⟩
      by_cases e : q = k
      · rw [e]; exact c
      · exact h1 q a (by omega)
    · rw [if_neg c]
      exact ⟨fun q a b => by omega, Or.inr c⟩
theorem srt_ins {R : Nat → Nat} {n x : Nat} (hs : ∀ p q, p < q → q < n → R p < R q) (hx : ∀ q, q < n → R q ≠ x) : ∀ p q, p < q → q < n + 1 → insR R (pIns (fun v => x < v) R n) x p < insR R (pIns (fun v => x < v) R n) x q := by
  obtain ⟨h1, h2⟩ := pIns_ok (fun v => x < v) R n
  have h3 := pIns_le (fun v => x < v) R n
  generalize pIns (fun v => x < v) R n = m at *
  have lo : ∀ q, q < m → R q < x := by
    intro q hq
    have h4 : ¬ x < R (m - 1) := h2.resolve_left (by omega)
    have h5 := hx (m - 1) (by omega)
    by_cases e : q = m - 1
    · subst e; omega
    · have := hs q (m - 1) (by omega) (by omega); omega
  intro a b hab hb
  unfold insR
  by_cases a1 : a < m
  · rw [if_pos a1]
    by_cases b1 : b < m
    · rw [if_pos b1]; exact hs a b hab (by omega)
    · rw [if_neg b1]
      by_cases b2 : b = m
      · rw [if_pos b2]; exact lo a a1
      · rw [if_neg b2]
        have := lo a a1
        have := h1 (b - 1) (by omega) (by omega)
        omega
  · rw [if_neg a1]
    by_cases a2 : a = m
    · rw [if_pos a2, if_neg (by omega), if_neg (by omega)]
      exact h1 (b - 1) (by omega) (by omega)
    · rw [if_neg a2, if_neg (by omega), if_neg (by omega)]
      exact hs (a - 1) (b - 1) (by omega) (by omega)
theorem bR_has (P : Nat → Prop) [DecidablePred P] (pos : (Nat → Nat) → Nat → Nat → Nat) (f : Nat → Nat) (hp : ∀ R n x, pos R n x ≤ n) : ∀ e i, i < e → P i → ∃ q, q < (bR P pos f e).1 ∧ (bR P pos f e).2 q = f i
  | 0, i, h, _ => absurd h (Nat.not_lt_zero i)
  | e + 1, i, h, hi => by
    unfold bR
    by_cases c : P e
    · rw [if_pos c]
      have hpp := hp (bR P pos f e).2 (bR P pos f e).1 e
      generalize pos (bR P pos f e).2 (bR P pos f e).1 e = p at hpp
      show ∃ q, q < (bR P pos f e).1 + 1 ∧ (if q < p then (bR P pos f e).2 q else if q = p then f e else (bR P pos f e).2 (q - 1)) = f i
      by_cases ei : i = e
      · exact ⟨p, by omega, by rw [if_neg (by omega), if_pos rfl, ei]⟩
      · obtain ⟨q, a, b⟩ := bR_has P pos f hp e i (by omega) hi
        by_cases cq : q < p
        · exact ⟨q, by omega, by rw [if_pos cq]; exact b⟩
        · exact ⟨q + 1, by omega, by rw [if_neg (by omega), if_neg (by omega)]; exact b⟩
    · rw [if_neg c]
      have : i ≠ e := fun z => c (z ▸ hi)
      exact bR_has P pos f hp e i (by omega) hi
abbrev vF (V : Nat → Int32) (i : Nat) : Nat := (V (155 + 7 * i + 5)).toInt.toNat
abbrev vPos (V : Nat → Int32) : (Nat → Nat) → Nat → Nat → Nat := fun R n e => pIns (fun v => vF V e < v) R n
abbrev vR (V : Nat → Int32) : Nat → Nat × (Nat → Nat) := bR (kGood V) (vPos V) (vF V)
theorem vPos_le (V : Nat → Int32) : ∀ R n x, vPos V R n x ≤ n := fun R n x => pIns_le _ R n
theorem vR_yes {V : Nat → Int32} {p : Nat} (h : kGood V p) : vR V (p + 1) = ((vR V p).1 + 1, insR (vR V p).2 (vPos V (vR V p).2 (vR V p).1 p) (vF V p)) := by
  show bR _ _ _ (p + 1) = _
  rw [bR, if_pos h]
theorem vR_no {V : Nat → Int32} {p : Nat} (h : ¬ kGood V p) : vR V (p + 1) = vR V p := by
  show bR _ _ _ (p + 1) = _
  rw [bR, if_neg h]
theorem vR_mem {V : Nat → Int32} {e q : Nat} (h : q < (vR V e).1) : ∃ i, i < e ∧ kGood V i ∧ (vR V e).2 q = vF V i := bR_mem _ _ _ (vPos_le V) e q h
section
variable {M N : xM} {V A : Nat → Int32} {ng nw ne no : Nat}
theorem WF.vch (h : WF V ng nw ne no) {i : Nat} (hi : i < ne) (hp : V (155 + 7 * i) = 1) : V (155 + 7 * i + 5) = nI (vF V i) ∧ vF V i ≤ 999 := by
  obtain ⟨-, c, hc, hc2⟩ := (h.e hi).2.2.2.2.2.1 hp
  have : vF V i = c := by
    unfold vF
    rw [hc2, nI_toInt (by omega), Int.toNat_natCast]
  rw [this]
  exact ⟨hc2, hc⟩
theorem WF.vR_srt (h : WF V ng nw ne no) : ∀ e, e ≤ ne → ∀ p q, p < q → q < (vR V e).1 → (vR V e).2 p < (vR V e).2 q
  | 0, _ => fun p q _ hq => absurd hq (Nat.not_lt_zero q)
  | e + 1, he => by
    by_cases c : kGood V e
    · rw [vR_yes c]
      dsimp only
      refine srt_ins (h.vR_srt e (by omega)) (fun q hq => ?_)
      obtain ⟨i, i1, i2, i3⟩ := vR_mem hq
      rw [i3]
      intro z
      refine c.2.2 i i1 ⟨i2.1, ?_⟩
      rw [(h.vch (by omega) i2.1).1, (h.vch (by omega) c.1).1, z]
    · rw [vR_no c]; exact h.vR_srt e (by omega)
theorem WF.vR_pos (h : WF V ng nw ne no) {q : Nat} (hq : q < (vR V ne).1) : 1 ≤ (vR V ne).2 q ∧ (vR V ne).2 q ≤ 999 ∧ ¬ kHold V ne (nI ((vR V ne).2 q)) = -1 := by
  obtain ⟨i, i1, i2, i3⟩ := vR_mem hq
  obtain ⟨v1, v2⟩ := h.vch i1 i2.1
  have hb := h.bd
  rw [i3]
  refine ⟨?_, v2, fun z => (kHold_none hb.2.2.1 _).mp z i i1 ⟨i2.1, v1⟩⟩
  by_cases c : vF V i = 0
  · exact absurd (show V (155 + 7 * i + 5) = 0 by rw [v1, c]; rfl) i2.2.1
  · omega
theorem WF.vR_all (h : WF V ng nw ne no) {i : Nat} (hi : i < ne) (hp : V (155 + 7 * i) = 1) (h0 : 1 ≤ vF V i) : ∃ q, q < (vR V ne).1 ∧ (vR V ne).2 q = vF V i := by
  obtain ⟨v1, v2⟩ := h.vch hi hp
  obtain ⟨m, m1, m2, m3⟩ := first_ex (hP V (nI (vF V i))) i ⟨hp, v1⟩
  obtain ⟨u1, u2⟩ := h.vch (show m < ne by omega) m2.1
  have e : vF V m = vF V i := by
    have := m2.2
    rw [u1, nI_eq (by omega) (by omega)] at this
    exact this
  have g : kGood V m := ⟨m2.1, fun z => by rw [m2.2, i_eq, nI_toInt (by omega), i0] at z; omega, fun k hk z => m3 k hk ⟨z.1, by rw [z.2, m2.2]⟩⟩
  obtain ⟨q, q1, q2⟩ := bR_has (kGood V) (vPos V) (vF V) (vPos_le V) ne m (by omega) g
  exact ⟨q, q1, by rw [← e]; exact q2⟩
theorem WF.vR_none (h : WF V ng nw ne no) {u : Nat} (h0 : 1 ≤ u) (hu : u < 2 ^ 31) (hn : ∀ q, q < (vR V ne).1 → (vR V ne).2 q ≠ u) : kHold V ne (nI u) = -1 := by
  have hb := h.bd
  rw [kHold_none hb.2.2.1]
  rintro i hi ⟨z1, z2⟩
  obtain ⟨v1, v2⟩ := h.vch hi z1
  have e : vF V i = u := by rw [v1, nI_eq (by omega) (by omega)] at z2; exact z2
  obtain ⟨q, q1, q2⟩ := h.vR_all hi z1 (by omega)
  exact hn q q1 (by rw [q2, e])
/-- how many are missing below -/
def zM (V : Nat → Int32) (ne : Nat) : Nat → Nat
  | 0 => 0
  | u + 1 => zM V ne u + (if 1 ≤ u ∧ kHold V ne (nI u) = -1 then 1 else 0)
theorem WF.zM_ok (h : WF V ng nw ne no) : ∀ v, 1 ≤ v → v < 2 ^ 31 → ∀ i, i ≤ (vR V ne).1 → (∀ j, j < i → (vR V ne).2 j < v) → (∀ j, i ≤ j → j < (vR V ne).1 → v ≤ (vR V ne).2 j) → zM V ne v + i + 1 = v
  | 0, h0, _, _, _, _, _ => by omega
  | v + 1, _, hv, i, hi, h1, h2 => by
    by_cases c0 : v = 0
    · subst c0
      have i0 : i = 0 := by
        by_cases c : i = 0
        · exact c
        · have := h1 0 (by omega)
          have := (h.vR_pos (q := 0) (by omega)).1
          omega
      subst i0
      rfl
    · by_cases c : 0 < i ∧ (vR V ne).2 (i - 1) = v
      · have hh := (h.vR_pos (q := i - 1) (by omega)).2.2
        rw [c.2] at hh
        have ih := h.zM_ok v (by omega) (by omega) (i - 1) (by omega) (fun j hj => by
          have := h.vR_srt ne (Nat.le_refl ne) j (i - 1) (by omega) (by omega)
          omega) (fun j hj1 hj2 => by
          by_cases e : j = i - 1
          · rw [e]; omega
          · have := h2 j (by omega) hj2; omega)
        show zM V ne v + (if 1 ≤ v ∧ kHold V ne (nI v) = -1 then 1 else 0) + i + 1 = v + 1
        rw [if_neg (fun z => hh z.2)]
        omega
      · have low : ∀ j, j < i → (vR V ne).2 j < v := by
          intro j hj
          have q1 := h1 (i - 1) (by omega)
          have q2 : (vR V ne).2 (i - 1) ≠ v := fun z => c ⟨by omega, z⟩
          by_cases e : j = i - 1
          · rw [e]; omega
          · have := h.vR_srt ne (Nat.le_refl ne) j (i - 1) (by omega) (by omega)
            omega
        have hn := h.vR_none (u := v) (by omega) (by omega) (fun q hq z => by
          by_cases cq : q < i
          · have := low q cq; omega
          · have := h2 q (by omega) hq; omega)
        have ih := h.zM_ok v (by omega) (by omega) i hi low (fun j a b => by have := h2 j a b; omega)
        show zM V ne v + (if 1 ≤ v ∧ kHold V ne (nI v) = -1 then 1 else 0) + i + 1 = v + 1
        rw [if_pos ⟨by omega, hn⟩]
        omega
theorem c_fillVouchers (B : BB M N V A ng nw ne no) : ∃ M1, f_X1_fillVouchers M = some (nI (vR V ne).1, M1) ∧ Bt M M1 16 ∧ ∀ q, q < (vR V ne).1 → M1 16 q = nI ((vR V ne).2 q) := by
  have hb := B.bd
  simp only [f_X1_fillVouchers, b_X1_fillVouchers_0, b_X1_fillVouchers_4]
  have hlo := loopN_inv (body := fun s : xM × Int32 × Int32 => bl_X1_fillVouchers_4 s.1 s.2.1 s.2.2)
    (I := fun p s => s.2.2 = nI p ∧ s.2.1 = nI (vR V p).1 ∧ Bt M s.1 16 ∧ ∀ q, q < (vR V p).1 → s.1 16 q = nI ((vR V p).2 q))
    (P := fun s => s.2 = nI (vR V ne).1 ∧ Bt M s.1 16 ∧ ∀ q, q < (vR V ne).1 → s.1 16 q = nI ((vR V ne).2 q)) ne ?_ ?_ (M, 0, 0) BG ⟨rfl, rfl, Bt.rf M 16, fun q hq => absurd hq (Nat.not_lt_zero q)⟩ (BG_lt (by omega))
  · obtain ⟨⟨M1, y⟩, hl, h1, h2, h3⟩ := hlo
    dsimp only at h1
    subst h1
    exact ⟨M1, by rw [hl, bd_s], h2, h3⟩
  · rintro p ⟨W, y, z⟩ hp ⟨h1, h2, h3, h4⟩
    dsimp only at h1 h2 h3 h4
    subst h1 h2
    have BW := B.sm ((SameM.rf M).bt h3 (by omega))
    obtain ⟨w0, -, -, -, -, w5, -, w6⟩ := BW.k.2.1.e hp
    have hle : (vR V p).1 ≤ p := bR_le (kGood V) (vPos V) (vF V) p
    dsimp only
    simp only [bl_X1_fillVouchers_4, b_X1_fillVouchers_82, b_X1_fillVouchers_27, b_X1_fillVouchers_66, lt_d, nI_1]
    rw [BW.k.ne.1, if_neg (nI_ge hp (by omega)), gd_n (by omega) (by decide), clN (by omega)]
    rcases w6 with ⟨w6, g⟩ | ⟨w6, g⟩
    rotate_left
    · rw [w6, if_pos rfl, vR_no g]
      exact ⟨_, rfl, rfl, rfl, h3, h4⟩
    rw [w6, if_neg (by decide), vR_yes g]
    obtain ⟨v1, v2⟩ := B.wf.vch hp g.1
    obtain ⟨W1, l1, l2, l3, l4⟩ := insL (body := fun s : xM × Int32 => bl_X1_fillVouchers_27 s.1 (nI (vR V p).1) (nI p) s.2) W 16 (vR V p).1 (vR V p).2 (fun v => vF V p < v) (by omega) (fun W1 k hb1 hk hg => by
      obtain ⟨i, m1, m2, m3⟩ := vR_mem hk
      obtain ⟨-, m5⟩ := B.wf.vch (show i < ne by omega) m2.1
      dsimp only
      simp only [bl_X1_fillVouchers_27, lt_d]
      have e1 : nI (k + 1) - 1 = nI k := pk_sub (a := k + 1) (b := 1) (by omega)
      have e2 : nI (k + 1) + (-1 : Int32) = nI k := by rw [show nI (k + 1) + (-1 : Int32) = nI (k + 1) - 1 from (Int32.sub_eq_add_neg _ _).symm, e1]
      rw [if_neg (show ¬ nI (k + 1) ≤ 0 from nI_ge (a := 0) (by omega) (by omega)), e1, e2, gd_n (by omega) (by decide), gd_n (by omega) (by decide), clN (by omega), clN (by omega), hg, hb1 (45 + p) (by omega), w5, v1, gd_n (by omega) (by decide), gd_n (by omega) (by decide), clN (by omega)]
      by_cases c : vF V p < (vR V p).2 k
      · rw [if_pos c, if_neg (nI_ge c (by rw [m3]; omega))]
      · rw [if_neg c, if_pos (nI_le (by omega) (by omega))]) (fun W1 => by
      simp only [bl_X1_fillVouchers_27]
      rw [if_pos (show nI 0 ≤ 0 from Int32.le_refl 0)]) h4
    have hpp : pIns (fun v => vF V p < v) (vR V p).2 (vR V p).1 ≤ (vR V p).1 := pIns_le _ _ _
    rw [l1, bd_s]
    dsimp only
    rw [gd_n (by omega) (by decide), gd_n (by omega) (by decide), clN (by omega), l2 (45 + p) (by omega), w5, v1]
    exact ⟨_, rfl, rfl, rfl, (h3.tr l2).u _ _, ins_row l3 l4⟩
  · rintro ⟨W, y, z⟩ ⟨h1, h2, h3, h4⟩
    dsimp only at h1 h2 h3 h4
    subst h1 h2
    have BW := B.sm ((SameM.rf M).bt h3 (by omega))
    dsimp only
    simp only [bl_X1_fillVouchers_4]
    rw [BW.k.ne.1, if_pos (nI_le (Nat.le_refl ne) (by omega))]
    exact ⟨_, rfl, rfl, h3, h4⟩
end
theorem nI_zero : (0 : Int32) = nI 0 := rfl
theorem nI_one : (1 : Int32) = nI 1 := rfl
theorem imax_n {a b : Nat} (ha : a < 2 ^ 31) (hb : b < 2 ^ 31) : imax (nI a) (nI b) = nI (max a b) := by
  rw [i_eq, imax_i, nI_toInt ha, nI_toInt hb, nI_toInt (by omega)]; omega
theorem c_missing {M N : xM} (h : Rel M N) (k : Int32) : ∃ r M1 N1, f_X10_missing M k = some (r, M1) ∧ f_X11_missing N k = some (r, N1) ∧ SameM M M1 ∧ SameN N N1 := by
  obtain ⟨N1, e1, S, V, A, ng, nw, ne, no, B⟩ := h.th
  have hb := B.bd
  have R0 := SameM.rf M
  simp only [f_X10_missing, b_X10_missing_0, b_X10_missing_30, b_X10_missing_47, b_X10_missing_57, b_X10_missing_84, f_X11_missing, b_X11_missing_0, b_X11_missing_9, b_X11_missing_57, lt_d, e1]
  obtain ⟨M1, g1, g2, g3⟩ := c_fillVouchers B
  have hle : (vR V ne).1 ≤ ne := bR_le (kGood V) (vPos V) (vF V) ne
  -- the reference: the greatest
  obtain ⟨mo, hmo, mx, rfl, x1, x2, x3⟩ := loopN_inv (body := fun s : Int32 × Int32 => bl_X11_missing_9 N1 k s.1 s.2)
    (I := fun p s => s.2 = nI p ∧ ∃ mx, s.1 = nI mx ∧ mx ≤ 999 ∧ (∀ i, i < p → V (155 + 7 * i) = 1 → vF V i ≤ mx) ∧ (mx = 0 ∨ ∃ i, i < p ∧ V (155 + 7 * i) = 1 ∧ vF V i = mx))
    (P := fun s => ∃ mx, s = nI mx ∧ mx ≤ 999 ∧ (∀ i, i < ne → V (155 + 7 * i) = 1 → vF V i ≤ mx) ∧ (mx = 0 ∨ ∃ i, i < ne ∧ V (155 + 7 * i) = 1 ∧ vF V i = mx)) ne (by
      rintro p ⟨y, z⟩ hp ⟨h1, mx, h2, h3, h4, h5⟩
      dsimp only at h1 h2
      subst h1 h2
      dsimp only
      simp only [bl_X11_missing_9, b_X11_missing_43, lt_d, nI_1]
      rw [gd_d (by decide) (by decide), cl2, B.1, B.wf.c.2.2.1, if_neg (nI_ge hp (by omega)), B.e0 hp, bd_s, B.eOf 5 hp 5 (by decide) rfl, bd_s]
      by_cases c : V (155 + 7 * p) = 1
      · obtain ⟨v1, v2⟩ := B.wf.vch hp c
        rw [if_pos c, v1, imax_n (by omega) (by omega)]
        refine ⟨_, rfl, rfl, max mx (vF V p), rfl, by omega, fun i hi hv => ?_, ?_⟩
        · by_cases e : i = p
          · subst e; omega
          · have := h4 i (by omega) hv; omega
        · by_cases cc : vF V p ≤ mx
          · rw [show max mx (vF V p) = mx by omega]
            rcases h5 with h5 | ⟨i, a, b⟩
            · exact Or.inl h5
            · exact Or.inr ⟨i, by omega, b⟩
          · exact Or.inr ⟨p, by omega, c, by omega⟩
      · rw [if_neg c]
        refine ⟨_, rfl, rfl, mx, rfl, h3, fun i hi hv => ?_, ?_⟩
        · by_cases e : i = p
          · subst e; exact absurd hv c
          · exact h4 i (by omega) hv
        · rcases h5 with h5 | ⟨i, a, b⟩
          · exact Or.inl h5
          · exact Or.inr ⟨i, by omega, b⟩) (by
      rintro ⟨y, z⟩ ⟨h1, h2⟩
      dsimp only at h1
      subst h1
      dsimp only
      simp only [bl_X11_missing_9]
      rw [gd_d (by decide) (by decide), cl2, B.1, B.wf.c.2.2.1, if_pos (nI_le (Nat.le_refl ne) (by omega))]
      exact ⟨_, rfl, h2⟩) (0, 0) BG ⟨rfl, 0, rfl, by omega, fun i hi => absurd hi (Nat.not_lt_zero i), Or.inl rfl⟩ (BG_lt (by omega))
  rw [hmo, bd_s]
  -- the reference: the list
  have hz1 : zM V ne 1 = 0 := rfl
  have zle : ∀ v, zM V ne v ≤ v := by
    intro v
    induction v with
    | zero => exact Nat.le_refl 0
    | succ v ih =>
      show zM V ne v + (if 1 ≤ v ∧ kHold V ne (nI v) = -1 then 1 else 0) ≤ v + 1
      split <;> omega
  obtain ⟨W, hW, y1, y2, y3⟩ := loopN_inv (body := fun s : xM × Int32 => bl_X11_missing_57 s.1 k (nI mx) s.2)
    (I := fun p s => s.2 = nI (p + 1) ∧ s.1 0 25 = nI (zM V ne (p + 1)) ∧ SameN N1 s.1 ∧ ∀ u, 1 ≤ u → u < p + 1 → kHold V ne (nI u) = -1 → s.1 13 (zM V ne u) = nI u)
    (P := fun W => W 0 25 = nI (zM V ne (mx - 1 + 1)) ∧ SameN N1 W ∧ ∀ u, 1 ≤ u → u < mx - 1 + 1 → kHold V ne (nI u) = -1 → W 13 (zM V ne u) = nI u) (mx - 1) (by
      rintro p ⟨W, y⟩ hp ⟨h1, h2, h3, h4⟩
      dsimp only at h1 h2 h3 h4
      subst h1
      have BW := B.sn h3
      have hzl := zle (p + 1)
      dsimp only
      simp only [bl_X11_missing_57, b_X11_missing_91, lt_d, nI_1]
      rw [if_neg (nI_ge (show p + 1 < mx by omega) (by omega)), m_holder BW.1 B.wf, bd2_s, if_neg (show ¬ nI (p + 1) ≤ 0 from nI_ge (a := 0) (by omega) (by omega))]
      have S0 : SameN N1 (uM W 0 0 0) := h3.tr (SameN.th W 0)
      have t25 : uM W 0 0 0 0 25 = nI (zM V ne (p + 1)) := by rw [uM_j _ _ _ _ (by decide)]; exact h2
      have t13 : ∀ q, uM W 0 0 0 13 q = W 13 q := fun q => by rw [uM_row _ _ _ _ (by decide)]
      generalize uM W 0 0 0 = W0 at S0 t25 t13
      by_cases c : kHold V ne (nI (p + 1)) = -1
      · have ez : zM V ne (p + 1 + 1) = zM V ne (p + 1) + 1 := by
          show zM V ne (p + 1) + (if 1 ≤ p + 1 ∧ kHold V ne (nI (p + 1)) = -1 then 1 else 0) = _
          rw [if_pos ⟨by omega, c⟩]
        rw [if_pos c, t25, gd_n (by omega) (by decide), clN (by omega), uM_row _ _ _ _ (by decide), t25, nI_1]
        refine ⟨_, rfl, rfl, ?_, (S0.sc 13 _ _ (by omega)).sf 25 _ (by omega), fun u u1 u2 u3 => ?_⟩
        · dsimp only
          rw [uM_s, ez]
        · dsimp only
          rw [uM_row _ _ _ _ (by decide)]
          by_cases e : u = p + 1
          · rw [e, uM_s]
          · have hlt : zM V ne u < zM V ne (p + 1) := by
              have mono : ∀ d, zM V ne (u + 1) ≤ zM V ne (u + 1 + d) := by
                intro d
                induction d with
                | zero => exact Nat.le_refl _
                | succ d ih =>
                  show _ ≤ zM V ne (u + 1 + d) + _
                  omega
              have m1 := mono (p + 1 - (u + 1))
              rw [show u + 1 + (p + 1 - (u + 1)) = p + 1 by omega] at m1
              have m2 : zM V ne (u + 1) = zM V ne u + 1 := by
                show zM V ne u + (if 1 ≤ u ∧ kHold V ne (nI u) = -1 then 1 else 0) = _
                rw [if_pos ⟨u1, u3⟩]
              omega
            rw [uM_j _ _ _ _ (by omega), t13]
            exact h4 u u1 (by omega) u3
      · have ez : zM V ne (p + 1 + 1) = zM V ne (p + 1) := by
          show zM V ne (p + 1) + (if 1 ≤ p + 1 ∧ kHold V ne (nI (p + 1)) = -1 then 1 else 0) = _
          rw [if_neg (fun z => c z.2)]; rfl
        rw [if_neg c, ez]
        refine ⟨_, rfl, rfl, t25, S0, fun u u1 u2 u3 => ?_⟩
        dsimp only
        rw [t13]
        by_cases e : u = p + 1
        · rw [e] at u3; exact absurd u3 c
        · exact h4 u u1 (by omega) u3) (by
      rintro ⟨W, y⟩ ⟨h1, h2, h3, h4⟩
      dsimp only at h1 h2 h3 h4
      subst h1
      dsimp only
      simp only [bl_X11_missing_57]
      rw [if_pos (nI_le (show mx ≤ mx - 1 + 1 by omega) (by omega))]
      exact ⟨_, rfl, h2, h3, h4⟩) (uM N1 0 25 0, nI (0 + 1)) BG ⟨rfl, (by dsimp only; rw [uM_s]; rfl), (SameN.rf N1).sf 25 _ (by omega), fun u u1 u2 => by omega⟩ (BG_lt (by omega))
  rw [show loopN (fun s : xM × Int32 => bl_X11_missing_57 s.1 k (nI mx) s.2) BG (uM N1 0 25 0, (1 : Int32)) = some W from hW, bd_s, g1, bd2_s]
  have hpos := fun q => B.wf.vR_pos (q := q)
  have hsrt := B.wf.vR_srt ne (Nat.le_refl ne)
  have hall := fun i (hi : i < ne) => B.wf.vR_all hi
  have hmem := fun q (hq : q < (vR V ne).1) => vR_mem hq
  have hzok := B.wf.zM_ok
  have hnone := fun u => B.wf.vR_none (u := u)
  generalize (vR V ne).1 = n at *
  generalize (vR V ne).2 = R at *
  have hzm : n + zM V ne (mx - 1 + 1) = mx ∧ (0 < n → R (n - 1) = mx ∧ 1 ≤ mx) ∧ (n = 0 → mx = 0) := by
    by_cases c0 : n = 0
    · have m0 : mx = 0 := by
        rcases x3 with x3 | ⟨i, a, b, d⟩
        · exact x3
        · by_cases c1 : mx = 0
          · exact c1
          · obtain ⟨q, q1, -⟩ := hall i a b (by omega)
            omega
      exact ⟨by rw [c0, m0]; rfl, fun z => by omega, fun _ => m0⟩
    · obtain ⟨i, i1, i2, i3⟩ := hmem (n - 1) (by omega)
      have a1 := x2 i i1 i2.1
      have a2 := (hpos (n - 1) (by omega)).1
      have a3 : mx ≤ R (n - 1) := by
        rcases x3 with x3 | ⟨i, a, b, d⟩
        · omega
        · obtain ⟨q, q1, q2⟩ := hall i a b (by omega)
          by_cases e : q = n - 1
          · rw [e] at q2; omega
          · have := hsrt q (n - 1) (by omega) (by omega); omega
      have a4 : R (n - 1) = mx := by omega
      have a5 := hzok mx (by omega) (by omega) (n - 1) (by omega) (fun j hj => by have := hsrt j (n - 1) (by omega) (by omega); omega) (fun j j1 j2 => by rw [show j = n - 1 by omega]; omega)
      rw [show mx - 1 + 1 = mx by omega]
      exact ⟨by omega, fun _ => ⟨a4, by omega⟩, fun z => absurd z c0⟩
  obtain ⟨zm1, zm2, zm3⟩ := hzm
  have key : ∀ j, j < zM V ne (mx - 1 + 1) → ∃ m, m ≤ n ∧ (∀ i, i < m → R i ≤ j + 1 + i) ∧ (m = n ∨ j + 1 + m < R m) ∧ W 13 j = nI (j + 1 + m) ∧ j + 1 + m ≤ mx := by
    intro j hj
    obtain ⟨m, m1, m2, m3⟩ := first_ex (fun i => i = n ∨ j + 1 + i < R i) n (Or.inl rfl)
    have m3' : ∀ i, i < m → R i ≤ j + 1 + i := fun i hi => by
      have h9 : ¬ (i = n ∨ j + 1 + i < R i) := m3 i hi
      by_cases c : j + 1 + i < R i
      · exact absurd (Or.inr c) h9
      · omega
    have hmx : m < n := by
      by_cases c : m < n
      · exact c
      · exfalso
        by_cases c0 : n = 0
        · rw [zm3 c0] at hj
          exact absurd hj (Nat.not_lt_zero j)
        · have q1 := m3' (n - 1) (by omega)
          have q2 := (zm2 (by omega)).1
          omega
    have m2' : j + 1 + m < R m := m2.resolve_left (by omega)
    have up : ∀ i, m ≤ i → i < n → R m ≤ R i := fun i a b => by
      by_cases e : i = m
      · rw [e]; exact Nat.le_refl _
      · have := hsrt m i (by omega) b; omega
    have hu1 : R m ≤ mx := by
      rw [← (zm2 (by omega)).1]
      exact up (n - 1) (by omega) (by omega)
    have hzu := hzok (j + 1 + m) (by omega) (by omega) m m1 (fun i hi => by have := m3' i hi; omega) (fun i a b => by have := up i a b; omega)
    have hnu := hnone (j + 1 + m) (by omega) (by omega) (fun q hq z => by
      by_cases cq : q < m
      · have := m3' q cq; omega
      · have := up q (by omega) hq; omega)
    refine ⟨m, m1, m3', m2, ?_, by omega⟩
    have h8 := y3 (j + 1 + m) (by omega) (by omega) hnu
    rw [show zM V ne (j + 1 + m) = j by omega] at h8
    exact h8
  generalize zM V ne (mx - 1 + 1) = c at *
  have hR : ∀ q, q < c → W 13 q = nI ((W 13 q).toInt.toNat) := fun q hq => by
    obtain ⟨m, -, -, -, h9, h10⟩ := key q hq
    rw [h9, nI_toInt (by omega), Int.toNat_natCast]
  rw [m_told (by omega) y1 hR, bd_s]
  -- the class
  have hcount : ∀ (Z : Int32 → Option (Int32 × xM)), (if nI n = 0 then Z 0 else gd (nI n - 1) 40 (Z (M1 16 (nI n - 1).toNatClampNeg - nI n))) = Z (nI c) := by
    intro Z
    by_cases c0 : n = 0
    · rw [if_pos (by rw [c0]; rfl), show c = 0 by have := zm3 c0; omega]; rfl
    · obtain ⟨q1, q2⟩ := zm2 (by omega)
      rw [if_neg (nI_n0 (by omega) (by omega)), show nI n - 1 = nI (n - 1) from pk_sub (a := n) (b := 1) (by omega), gd_n (by omega) (by decide), clN (by omega), g3 (n - 1) (by omega), q1, pk_sub (by omega), show mx - n = c by omega]
  rw [hcount (fun s0 => if k = (-1 : Int32) then some (s0, M1) else if k < 0 then some ((-1 : Int32), M1) else if k < s0 then bd (loopN (fun s : Int32 × Int32 => bl_X10_missing_57 M1 (nI n) s.1 s.2) BG (k + 1, 0)) (fun v => some (v, M1)) else some ((-1 : Int32), M1))]
  have SM := R0.bt g2 (show (3 ≤ 16 ∧ 16 ≤ 5) ∨ (11 ≤ 16 ∧ 16 ≤ 16) ∨ 16 = 23 ∨ 16 = 24 by omega)
  have SN := S.tr y2
  unfold kTold
  by_cases k1 : k = -1
  · rw [if_pos k1, if_pos k1]; exact ⟨_, _, _, rfl, rfl, SM, SN⟩
  rw [if_neg k1, if_neg k1]
  by_cases k2 : k < 0
  · rw [if_pos k2, if_neg (fun z => by rw [i_lt, i0] at k2; omega)]; exact ⟨_, _, _, rfl, rfl, SM, SN⟩
  rw [if_neg k2]
  rw [i_lt, i0] at k2
  obtain ⟨j, j1, rfl, j3⟩ := nI_of0 (a := k) (by omega)
  by_cases k3 : j < c
  rotate_left
  · rw [if_neg (nI_nl k3 (by omega)), if_neg (fun z => by omega)]; exact ⟨_, _, _, rfl, rfl, SM, SN⟩
  rw [if_pos (nI_lt' k3 (by omega)), if_pos (by omega), ← j3, Int.toNat_natCast, ← hR j k3]
  obtain ⟨m, q1, q2, q3, q4, q5⟩ := key j k3
  have hl := loopN_up (body := fun s : Int32 × Int32 => bl_X10_missing_57 M1 (nI n) s.1 s.2) (r := nI (j + 1 + m)) (fun i => (nI (j + 1 + i), nI i)) m (fun i hi => by
      have := q2 i hi
      dsimp only
      simp only [bl_X10_missing_57, lt_d, nI_1]
      rw [if_neg (nI_ge (show i < n by omega) (by omega)), gd_n (by omega) (by decide), clN (by omega), g3 i (by omega), if_neg (nI_nl (by omega) (by omega))]
      rfl) (by
      dsimp only
      simp only [bl_X10_missing_57]
      by_cases e : m = n
      · rw [if_pos (nI_le (by omega) (by omega))]
      · have := q3.resolve_left e
        have h99 := (hpos m (by omega)).2.1
        rw [if_neg (nI_ge (show m < n by omega) (by omega)), gd_n (by omega) (by decide), clN (by omega), g3 m (by omega), if_pos (nI_lt' (by omega) (by omega))]) BG (BG_lt (by omega))
  rw [show (nI j + 1, (0 : Int32)) = (nI (j + 1 + 0), nI 0) by rw [nI_1]; rfl, hl, q4]
  exact ⟨_, _, _, rfl, rfl, SM, SN⟩
