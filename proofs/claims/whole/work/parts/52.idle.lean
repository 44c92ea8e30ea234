/-! what lies idle: the least of a window, by a row in which the lowest wait -/
def mW (f : Nat → Int32) (lo : Nat) : Nat → Int32
  | 0 => f lo
  | n + 1 => imin (mW f lo n) (f (lo + n + 1))
def kIdle (f : Nat → Int32) (g : Nat) (fl : Int32) (k : Nat) : Int32 := imax 0 (mW f (k - g) g - fl)
theorem mW_ok (f : Nat → Int32) (lo : Nat) : ∀ n, (∀ j, lo ≤ j → j ≤ lo + n → (mW f lo n).toInt ≤ (f j).toInt) ∧ ∃ j, lo ≤ j ∧ j ≤ lo + n ∧ mW f lo n = f j
  | 0 => ⟨fun j h1 h2 => by rw [show j = lo by omega]; exact Int.le_refl _, lo, Nat.le_refl _, by omega, rfl⟩
  | n + 1 => by
    obtain ⟨h1, j0, h2, h3, h4⟩ := mW_ok f lo n
    have hm : (mW f lo (n + 1)).toInt = min (mW f lo n).toInt (f (lo + n + 1)).toInt := imin_i _ _
    constructor
    · intro j a b
      by_cases e : j = lo + n + 1
      · rw [e, hm]; omega
      · have := h1 j a (by omega); omega
    · by_cases c : (f (lo + n + 1)).toInt < (mW f lo n).toInt
      · exact ⟨lo + n + 1, by omega, by omega, by rw [i_eq, hm]; omega⟩
      · exact ⟨j0, h2, by omega, by rw [i_eq, hm, ← h4]; omega⟩
theorem mW_of {f : Nat → Int32} {lo n : Nat} {v : Int32} (h : ∀ j, lo ≤ j → j ≤ lo + n → v.toInt ≤ (f j).toInt) (hv : ∃ j, lo ≤ j ∧ j ≤ lo + n ∧ v = f j) : mW f lo n = v := by
  obtain ⟨h1, j0, h2, h3, h4⟩ := mW_ok f lo n
  obtain ⟨j1, a, b, c⟩ := hv
  have p := h1 j1 a b
  have q := h j0 h2 h3
  rw [i_eq]
  rw [h4] at p ⊢
  rw [c] at q ⊢
  omega
theorem mW_congr {f f' : Nat → Int32} {lo lo' : Nat} : ∀ {n : Nat}, (∀ j, j ≤ n → f (lo + j) = f' (lo' + j)) → mW f lo n = mW f' lo' n
  | 0, h => h 0 (Nat.le_refl 0)
  | n + 1, h => by
    rw [mW, mW, mW_congr (n := n) (fun j hj => h j (by omega))]
    have := h (n + 1) (Nat.le_refl _)
    rw [show lo + n + 1 = lo + (n + 1) by omega, show lo' + n + 1 = lo' + (n + 1) by omega, this]
def DQ (f : Nat → Int32) (g lo k : Nat) (Q : Nat → Nat) (h t : Nat) : Prop :=
  h ≤ t ∧ t + lo ≤ k ∧ (∀ a b, h ≤ a → a < b → b < t → Q a < Q b ∧ (f (Q a)).toInt < (f (Q b)).toInt) ∧ (∀ a, h ≤ a → a < t → lo ≤ Q a ∧ Q a < k ∧ k ≤ Q a + g + 1) ∧
  ∀ j, lo ≤ j → j < k → k ≤ j + g + 1 → ∃ a, h ≤ a ∧ a < t ∧ j ≤ Q a ∧ (f (Q a)).toInt ≤ (f j).toInt
def pop (f : Nat → Int32) (Q : Nat → Nat) (k h : Nat) : Nat → Nat
  | 0 => 0
  | t + 1 => if t + 1 ≤ h then t + 1 else if (f (Q t)).toInt < (f k).toInt then t + 1 else pop f Q k h t
theorem pop_ok (f : Nat → Int32) (Q : Nat → Nat) (k h : Nat) : ∀ t, h ≤ t → h ≤ pop f Q k h t ∧ pop f Q k h t ≤ t ∧ (∀ a, pop f Q k h t ≤ a → a < t → (f k).toInt ≤ (f (Q a)).toInt) ∧ (pop f Q k h t = h ∨ (f (Q (pop f Q k h t - 1))).toInt < (f k).toInt)
  | 0, hh => ⟨hh, Nat.le_refl 0, fun a _ z => absurd z (Nat.not_lt_zero a), Or.inl (show 0 = h by omega)⟩
  | t + 1, hh => by
    unfold pop
    by_cases c : t + 1 ≤ h
    · rw [if_pos c]
      exact ⟨by omega, Nat.le_refl _, fun a p q => by omega, Or.inl (by omega)⟩
    rw [if_neg c]
    by_cases c2 : (f (Q t)).toInt < (f k).toInt
    · rw [if_pos c2]
      exact ⟨by omega, Nat.le_refl _, fun a p q => by omega, Or.inr c2⟩
    rw [if_neg c2]
    obtain ⟨h1, h2, h3, h4⟩ := pop_ok f Q k h t (by omega)
    refine ⟨h1, by omega, fun a p q => ?_, h4⟩
    by_cases e : a = t
    · rw [e]; omega
    · exact h3 a p (by omega)
theorem DQ.step {f : Nat → Int32} {g lo k : Nat} {Q Q' : Nat → Nat} {h t p h' : Nat} (D : DQ f g lo k Q h t) (hlo : lo ≤ k) (hp : pop f Q k h t = p) (q1 : ∀ a, h ≤ a → a < p → Q' a = Q a) (q2 : Q' p = k) (hh : h' = if Q' h + g < k then h + 1 else h) :
    DQ f g lo (k + 1) Q' h' (p + 1) ∧ h' < p + 1 ∧ h ≤ h' ∧ (lo + g ≤ k → f (Q' h') = mW f (k - g) g) ∧ k ≤ Q' h' + g := by
  obtain ⟨d1, d2, d3, d4, d5⟩ := D
  obtain ⟨p1, p2, p3, p4⟩ := pop_ok f Q k h t d1
  rw [hp] at p1 p2 p3 p4
  have lowf : ∀ a, h ≤ a → a < p → (f (Q a)).toInt < (f k).toInt := by
    intro a a1 a2
    have h1 := p4.resolve_left (by omega)
    by_cases e : a = p - 1
    · rw [e]; exact h1
    · have := (d3 a (p - 1) a1 (by omega) (by omega)).2; omega
  have hq : h' = h ∧ (k ≤ Q' h + g) ∨ h' = h + 1 ∧ Q' h + g < k ∧ h < p := by
    by_cases c : Q' h + g < k
    · rw [if_pos c] at hh
      refine Or.inr ⟨hh, c, ?_⟩
      by_cases e : h = p
      · rw [e, q2] at c; omega
      · omega
    · rw [if_neg c] at hh
      exact Or.inl ⟨hh, by omega⟩
  have win : ∀ a, h' ≤ a → a < p + 1 → lo ≤ Q' a ∧ Q' a < k + 1 ∧ k + 1 ≤ Q' a + g + 1 := by
    intro a a1 a2
    by_cases e : a = p
    · rw [e, q2]; omega
    · have ha : h ≤ a := by rcases hq with ⟨z, -⟩ | ⟨z, -⟩ <;> omega
      obtain ⟨w1, w2, w3⟩ := d4 a ha (by omega)
      rw [q1 a ha (by omega)]
      refine ⟨w1, by omega, ?_⟩
      rcases hq with ⟨z1, z2⟩ | ⟨z1, z2, z3⟩
      · by_cases e2 : a = h
        · rw [e2] at w3 ⊢; rw [q1 h (Nat.le_refl h) (by omega)] at z2; omega
        · have := (d3 h a (Nat.le_refl h) (by omega) (by omega)).1
          rw [q1 h (Nat.le_refl h) (by omega)] at z2; omega
      · have := (d3 h a (Nat.le_refl h) (by omega) (by omega)).1
        have := (d4 h (Nat.le_refl h) (by omega)).2.2
        omega
  have srt : ∀ a b, h' ≤ a → a < b → b < p + 1 → Q' a < Q' b ∧ (f (Q' a)).toInt < (f (Q' b)).toInt := by
    intro a b a1 a2 a3
    have ha : h ≤ a := by rcases hq with ⟨z, -⟩ | ⟨z, -⟩ <;> omega
    by_cases e : b = p
    · rw [e, q2, q1 a ha (by omega)]
      exact ⟨(d4 a ha (by omega)).2.1, lowf a ha (by omega)⟩
    · rw [q1 a ha (by omega), q1 b (by omega) (by omega)]
      exact d3 a b ha a2 (by omega)
  have hp' : h' < p + 1 := by rcases hq with ⟨z, -⟩ | ⟨z, -, z3⟩ <;> omega
  have cov : ∀ j, lo ≤ j → j < k + 1 → k + 1 ≤ j + g + 1 → ∃ a, h' ≤ a ∧ a < p + 1 ∧ j ≤ Q' a ∧ (f (Q' a)).toInt ≤ (f j).toInt := by
    intro j j1 j2 j3
    by_cases e : j = k
    · exact ⟨p, by omega, by omega, by rw [q2]; omega, by rw [q2, e]; exact Int.le_refl _⟩
    · obtain ⟨a, a1, a2, a3, a4⟩ := d5 j j1 (by omega) (by omega)
      by_cases c : a < p
      · refine ⟨a, ?_, by omega, by rw [q1 a a1 c]; exact a3, by rw [q1 a a1 c]; exact a4⟩
        rcases hq with ⟨z1, z2⟩ | ⟨z1, z2, z3⟩
        · omega
        · by_cases e2 : a = h
          · rw [e2] at a3
            rw [q1 h (Nat.le_refl h) (by omega)] at z2
            omega
          · omega
      · have := p3 a (by omega) a2
        exact ⟨p, by omega, by omega, by rw [q2]; omega, by rw [q2]; omega⟩
  refine ⟨⟨by omega, by omega, srt, win, cov⟩, hp', by rcases hq with ⟨z, -⟩ | ⟨z, -⟩ <;> omega, fun hw => ?_, by have := (win h' (Nat.le_refl h') hp').2.2; omega⟩
  symm
  obtain ⟨w1, w2, w3⟩ := win h' (Nat.le_refl h') hp'
  refine mW_of (fun j j1 j2 => ?_) ⟨Q' h', by omega, by omega, rfl⟩
  obtain ⟨a, a1, a2, a3, a4⟩ := cov j (by omega) (by omega) (by omega)
  by_cases e : a = h'
  · rw [e] at a4; exact a4
  · have := (srt h' a (Nat.le_refl h') (by omega) a2).2; omega
theorem popL {body : Int32 → Option (Int32 ⊕ Int32)} (f : Nat → Int32) (Q : Nat → Nat) (k h t : Nat) (ht : t < 5000) (hs : ∀ u, u < t → body (nI (u + 1)) = if u + 1 ≤ h then some (.inr (nI (u + 1))) else if (f (Q u)).toInt < (f k).toInt then some (.inr (nI (u + 1))) else some (.inl (nI u))) (h0 : body (nI 0) = some (.inr (nI 0))) : loopN body BG (nI t) = some (nI (pop f Q k h t)) := by
  have key : ∀ u fuel, u ≤ t → u < fuel → loopN body fuel (nI u) = some (nI (pop f Q k h u)) := by
    intro u
    induction u with
    | zero =>
      intro fuel _ hf
      obtain ⟨n, rfl⟩ : ∃ n, fuel = n + 1 := ⟨fuel - 1, by omega⟩
      rw [loopN, h0]; rfl
    | succ u ih =>
      intro fuel hu hf
      obtain ⟨n, rfl⟩ : ∃ n, fuel = n + 1 := ⟨fuel - 1, by omega⟩
      rw [loopN, hs u (by omega)]
      unfold pop
      by_cases c : u + 1 ≤ h
      · rw [if_pos c, if_pos c]
      rw [if_neg c, if_neg c]
      by_cases c2 : (f (Q u)).toInt < (f k).toInt
      · rw [if_pos c2, if_pos c2]
      · rw [if_neg c2, if_neg c2]; exact ih n (by omega) (by omega)
  exact key t BG (Nat.le_refl t) (BG_lt (by omega))
theorem nI_sub (a b : Nat) (h : b ≤ a) : nI a - nI b = nI (a - b) := pk_sub h
def IdC (W0 : xM) (f : Nat → Int32) (g : Nat) (fl : Int32) (p : Nat) (s : xM × Int32 × Int32 × Int32) : Prop :=
  ∃ Q h t, s.2.1 = nI h ∧ s.2.2.1 = nI t ∧ s.2.2.2 = nI (360 - g + p) ∧ (∀ k, k ≠ 13 → k ≠ 14 → s.1 k = W0 k) ∧ (∀ a, h ≤ a → a < t → s.1 14 a = nI (Q a)) ∧ DQ f g (360 - g) (360 - g + p) Q h t ∧ ∀ j, 360 + j < 360 - g + p → s.1 13 j = kIdle f g fl (360 + j)
theorem c_findIdle {W0 : xM} {f : Nat → Int32} {g : Nat} (hg : g < 360) (hf : ∀ i, i < 720 → W0 12 i = f i) (fl : Int32) : ∃ W, f_X9_findIdle W0 (nI g) fl = some W ∧ (∀ k, k ≠ 13 → k ≠ 14 → W k = W0 k) ∧ ∀ j, j < 360 → W 13 j = kIdle f g fl (360 + j) := by
  simp only [f_X9_findIdle, b_X9_findIdle_0, lt_d, b_X9_findIdle_12]
  rw [show (360 : Int32) - nI g = nI (360 - g) from nI_sub 360 g (by omega)]
  obtain ⟨W, hl, w1, w2⟩ := loopN_inv (body := fun s : xM × Int32 × Int32 × Int32 => bl_X9_findIdle_12 s.1 (nI g) fl s.2.1 s.2.2.1 s.2.2.2)
    (I := IdC W0 f g fl)
    (P := fun W => (∀ k, k ≠ 13 → k ≠ 14 → W k = W0 k) ∧ ∀ j, j < 360 → W 13 j = kIdle f g fl (360 + j)) (360 + g) (by
      rintro p ⟨W, x, y, z⟩ hp ⟨Q, h, t, i1, i2, i3, i4, i5, i6, i7⟩
      dsimp only at i1 i2 i3 i4 i5 i7
      subst i1 i2 i3
      generalize hk : 360 - g + p = k at *
      have hk7 : k < 720 := by omega
      obtain ⟨d1, d2, d3, d4, d5⟩ := id i6
      obtain ⟨p1, p2, p3, p4⟩ := pop_ok f Q k h t d1
      dsimp only
      simp only [bl_X9_findIdle_12, b_X9_findIdle_22]
      rw [if_neg (show ¬ (720 : Int32) ≤ nI k from nI_ge (b := 720) hk7 (by omega))]
      rw [popL (body := fun s : Int32 => bl_X9_findIdle_22 W (nI g) fl (nI h) s (nI k)) f Q k h t (by omega) (fun u hu => by
        simp only [bl_X9_findIdle_22, lt_d]
        by_cases c : u + 1 ≤ h
        · rw [if_pos (nI_le c (by omega)), if_pos c]
        · rw [if_neg (nI_ge (show h < u + 1 by omega) (by omega)), if_neg c]
          obtain ⟨e1, e2, e3⟩ := d4 u (by omega) hu
          have e4 : nI (u + 1) - 1 = nI u := pk_sub (a := u + 1) (b := 1) (by omega)
          have e5 : nI (u + 1) + (-1 : Int32) = nI u := by rw [show nI (u + 1) + (-1 : Int32) = nI (u + 1) - 1 from (Int32.sub_eq_add_neg _ _).symm, e4]
          rw [e4, e5, gd_n (by omega) (by decide), clN (by omega), i5 u (by omega) hu, gd_n (by omega) (by decide), gd_n (by omega) (by decide), clN (by omega), clN (by omega), i4 12 (by decide) (by decide), hf _ (by omega), hf _ hk7]
          by_cases c2 : (f (Q u)).toInt < (f k).toInt
          · rw [if_pos ((i_lt _ _).mpr c2), if_pos c2]
          · rw [if_neg (fun z => c2 ((i_lt _ _).mp z)), if_neg c2]) (by
        simp only [bl_X9_findIdle_22]
        rw [if_pos (nI_le (Nat.zero_le h) (by omega))]), bd_s]
      generalize hpp : pop f Q k h t = pp at *
      simp only [b_X9_findIdle_58, lt_d, nI_1]
      rw [gd_n (by omega) (by decide), clN (by omega), gd_n (by omega) (by decide), clN (by omega)]
      generalize hW2 : uM W 14 pp (nI k) = W2
      have hQ : ∀ a, h ≤ a → a < pp + 1 → W2 14 a = nI (if a = pp then k else Q a) := by
        intro a a1 a2
        rw [← hW2]
        by_cases e : a = pp
        · rw [e, uM_s, if_pos rfl]
        · rw [uM_j _ _ _ _ e, if_neg e, i5 a a1 (by omega)]
      have h12 : ∀ k, k ≠ 13 → k ≠ 14 → W2 k = W0 k := fun k a b => by rw [← hW2, uM_row _ _ _ _ b]; exact i4 k a b
      have h13 : W2 13 = W 13 := by rw [← hW2]; exact uM_row _ _ _ _ (by decide)
      generalize hQ' : (fun a => if a = pp then k else Q a) = Q'
      have hQ2 : ∀ a, h ≤ a → a < pp + 1 → W2 14 a = nI (Q' a) := fun a a1 a2 => by rw [hQ a a1 a2, ← hQ']
      have S := i6.step (p := pp) (Q' := Q') (h' := if Q' h + g < k then h + 1 else h) (by omega) hpp (fun a a1 a2 => by rw [← hQ']; exact if_neg (by omega)) (by rw [← hQ']; exact if_pos rfl) rfl
      have hQh : Q' h < 1000 := by
        rw [← hQ']
        dsimp only
        split
        · omega
        · have := (d4 h (Nat.le_refl h) (by omega)).2.1; omega
      have sel : (nI k - nI g ≤ W2 14 h) ↔ ¬ (Q' h + g < k) := by
        rw [hQ2 h (Nat.le_refl h) (by omega), i_le, i_sub (by rw [nI_toInt (by omega), nI_toInt (by omega)]; omega) (by rw [nI_toInt (by omega), nI_toInt (by omega)]; omega), nI_toInt (by omega), nI_toInt (by omega), nI_toInt (by omega)]
        omega
      have fin : ∀ h', h' = (if Q' h + g < k then h + 1 else h) → ∃ s', b_X9_findIdle_86 W2 (nI g) fl (nI h') (nI (pp + 1)) (nI k) = some (Sum.inl s' : (xM × Int32 × Int32 × Int32) ⊕ xM) ∧ IdC W0 f g fl (p + 1) s' := by
        intro h' e
        rw [← e] at S
        obtain ⟨s1, s2, s3, s4, s5⟩ := S
        obtain ⟨-, -, -, t4, -⟩ := id s1
        simp only [b_X9_findIdle_86, b_X9_findIdle_122, lt_d, nI_1]
        by_cases c : k < 360
        · rw [if_pos (show nI k < (360 : Int32) from nI_lt' (b := 360) c (by omega))]
          refine ⟨_, rfl, Q', h', pp + 1, rfl, rfl, (by dsimp only; rw [← hk]; rfl), h12, fun a a1 a2 => hQ2 a (by omega) a2, (by rw [show 360 - g + (p + 1) = k + 1 by omega]; exact s1), fun j hj => by omega⟩
        · rw [if_neg (show ¬ nI k < (360 : Int32) from nI_nl (b := 360) c (by omega))]
          obtain ⟨u1, u2, u3⟩ := t4 h' (Nat.le_refl h') s2
          rw [gd_n (by omega) (by decide), clN (by omega), hQ2 h' s3 s2, gd_n (by omega) (by decide), show nI k - (360 : Int32) = nI (k - 360) from nI_sub k 360 (by omega), gd_n (by omega) (by decide), clN (by omega), clN (by omega), h12 12 (by decide) (by decide), hf _ (by omega), s4 (by omega)]
          refine ⟨_, rfl, Q', h', pp + 1, rfl, rfl, (by dsimp only; rw [← hk]; rfl), fun q a b => ?_, fun a a1 a2 => ?_, (by rw [show 360 - g + (p + 1) = k + 1 by omega]; exact s1), fun j hj => ?_⟩
          · dsimp only
            rw [uM_row _ _ _ _ a]; exact h12 q a b
          · dsimp only
            rw [uM_row _ _ _ _ (by decide)]; exact hQ2 a (by omega) a2
          · dsimp only
            by_cases e2 : j = k - 360
            · rw [e2, uM_s]
              unfold kIdle
              rw [show 360 + (k - 360) = k by omega]
            · rw [uM_j _ _ _ _ e2, h13]
              exact i7 j (by omega)
      by_cases c : Q' h + g < k
      · rw [if_neg (fun z => (sel.mp z) c)]
        exact fin (h + 1) (if_pos c).symm
      · rw [if_pos (sel.mpr c)]
        exact fin h (if_neg c).symm) (by
      rintro ⟨W, x, y, z⟩ ⟨Q, h, t, i1, i2, i3, i4, i5, i6, i7⟩
      dsimp only at i1 i2 i3 i4 i5 i7
      subst i1 i2 i3
      dsimp only
      simp only [bl_X9_findIdle_12]
      rw [if_pos (show (720 : Int32) ≤ nI (360 - g + (360 + g)) from nI_le (a := 720) (by omega) (by omega))]
      exact ⟨_, rfl, i4, fun j hj => i7 j (by omega)⟩) (W0, 0, 0, nI (360 - g)) BG
    ⟨fun _ => 0, 0, 0, rfl, rfl, rfl, fun _ _ _ => rfl, fun a _ z => absurd z (Nat.not_lt_zero a), ⟨Nat.le_refl 0, by omega, fun a b _ _ z => absurd z (Nat.not_lt_zero b), fun a _ z => absurd z (Nat.not_lt_zero a), fun j a b => by omega⟩, fun j hj => by omega⟩ (BG_lt (by omega))
  rw [hl, bd_s]
  exact ⟨W, rfl, w1, w2⟩
