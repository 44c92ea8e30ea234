/-! the reference's idle -/
def IdM (W0 : xM) (f : Nat → Int32) (g a0 : Nat) (fl : Int32) (p : Nat) (s : xM × Int32 × Int32 × Int32) : Prop :=
  ∃ Q h t, s.2.1 = nI h ∧ s.2.2.1 = nI t ∧ s.2.2.2 = nI (360 + a0 - g + p) ∧ (∀ k, k ≠ 10 → k ≠ 11 → s.1 k = W0 k) ∧ (∀ a, h ≤ a → a < t → s.1 11 a = nI (Q a)) ∧ DQ f g (360 + a0 - g) (360 + a0 - g + p) Q h t ∧ ∀ j, a0 ≤ j → 360 + j < 360 + a0 - g + p → s.1 10 j = kIdle f g fl (360 + j)
theorem m_laysIdle {W0 : xM} {f : Nat → Int32} {g a0 b0 : Nat} (hg : g < 360) (hgv : W0 3 2 = nI g) (hab : a0 ≤ b0) (hb : b0 < 3600) (hf : ∀ i, i < 3960 → W0 9 i = f i) : ∃ W, f_X11_laysIdle W0 (nI a0) (nI b0) = some W ∧ (∀ k, k ≠ 10 → k ≠ 11 → W k = W0 k) ∧ ∀ j, a0 ≤ j → j ≤ b0 → W 10 j = kIdle f g (W0 3 3) (360 + j) := by
  simp only [f_X11_laysIdle, b_X11_laysIdle_0, lt_d, b_X11_laysIdle_19]
  generalize hfl : W0 3 3 = fl
  have ea : (360 : Int32) + nI a0 = nI (360 + a0) := nI_add 360 a0
  have eb : (360 : Int32) + nI b0 = nI (360 + b0) := nI_add 360 b0
  rw [gd_d (by decide) (by decide), cl2, hgv, ea, nI_sub (360 + a0) g (by omega)]
  obtain ⟨W, hl, w1, w2⟩ := loopN_inv (body := fun s : xM × Int32 × Int32 × Int32 => bl_X11_laysIdle_19 s.1 (nI a0) (nI b0) s.2.1 s.2.2.1 s.2.2.2)
    (I := IdM W0 f g a0 fl)
    (P := fun W => (∀ k, k ≠ 10 → k ≠ 11 → W k = W0 k) ∧ ∀ j, a0 ≤ j → j ≤ b0 → W 10 j = kIdle f g fl (360 + j)) (b0 + 1 - a0 + g) (by
      rintro p ⟨W, x, y, z⟩ hp ⟨Q, h, t, i1, i2, i3, i4, i5, i6, i7⟩
      dsimp only at i1 i2 i3 i4 i5 i7
      subst i1 i2 i3
      generalize hk : 360 + a0 - g + p = k at *
      have hk7 : k ≤ 360 + b0 := by omega
      obtain ⟨d1, d2, d3, d4, d5⟩ := id i6
      obtain ⟨p1, p2, p3, p4⟩ := pop_ok f Q k h t d1
      dsimp only
      simp only [bl_X11_laysIdle_19, b_X11_laysIdle_29]
      rw [eb, if_neg (show ¬ nI (360 + b0) < nI k from nI_nl (by omega) (by omega))]
      rw [popL (body := fun s : Int32 => bl_X11_laysIdle_29 W (nI a0) (nI b0) (nI h) s (nI k)) f Q k h t (by omega) (fun u hu => by
        simp only [bl_X11_laysIdle_29, lt_d]
        by_cases c : u + 1 ≤ h
        · rw [if_pos (nI_le c (by omega)), if_pos c]
        · rw [if_neg (nI_ge (show h < u + 1 by omega) (by omega)), if_neg c]
          obtain ⟨e1, e2, e3⟩ := d4 u (by omega) hu
          have e4 : nI (u + 1) - 1 = nI u := pk_sub (a := u + 1) (b := 1) (by omega)
          have e5 : nI (u + 1) + (-1 : Int32) = nI u := by rw [show nI (u + 1) + (-1 : Int32) = nI (u + 1) - 1 from (Int32.sub_eq_add_neg _ _).symm, e4]
          rw [e4, e5, gd_n (by omega) (by decide), clN (by omega), i5 u (by omega) hu, gd_n (by omega) (by decide), gd_n (by omega) (by decide), clN (by omega), clN (by omega), i4 9 (by decide) (by decide), hf _ (by omega), hf _ (by omega)]
          by_cases c2 : (f (Q u)).toInt < (f k).toInt
          · rw [if_pos ((i_lt _ _).mpr c2), if_pos c2]
          · rw [if_neg (fun z => c2 ((i_lt _ _).mp z)), if_neg c2]) (by
        simp only [bl_X11_laysIdle_29]
        rw [if_pos (nI_le (Nat.zero_le h) (by omega))]), bd_s]
      generalize hpp : pop f Q k h t = pp at *
      simp only [b_X11_laysIdle_65, b_X11_laysIdle_77, lt_d, nI_1]
      rw [gd_n (by omega) (by decide), clN (by omega)]
      generalize hW2 : uM W 11 pp (nI k) = W2
      have hQ : ∀ a, h ≤ a → a < pp + 1 → W2 11 a = nI (if a = pp then k else Q a) := by
        intro a a1 a2
        rw [← hW2]
        by_cases e : a = pp
        · rw [e, uM_s, if_pos rfl]
        · rw [uM_j _ _ _ _ e, if_neg e, i5 a a1 (by omega)]
      have h12 : ∀ k, k ≠ 10 → k ≠ 11 → W2 k = W0 k := fun k a b => by rw [← hW2, uM_row _ _ _ _ b]; exact i4 k a b
      have h13 : W2 10 = W 10 := by rw [← hW2]; exact uM_row _ _ _ _ (by decide)
      generalize hQ' : (fun a => if a = pp then k else Q a) = Q'
      have hQ2 : ∀ a, h ≤ a → a < pp + 1 → W2 11 a = nI (Q' a) := fun a a1 a2 => by rw [hQ a a1 a2, ← hQ']
      have S := i6.step (p := pp) (Q' := Q') (h' := if Q' h + g < k then h + 1 else h) (by omega) hpp (fun a a1 a2 => by rw [← hQ']; exact if_neg (by omega)) (by rw [← hQ']; exact if_pos rfl) rfl
      generalize hh' : (if Q' h + g < k then h + 1 else h) = h' at S
      obtain ⟨s1, s2, s3, s4, s5⟩ := S
      obtain ⟨-, -, -, t4, -⟩ := id s1
      have ww : ∀ a, h ≤ a → a < pp + 1 → Q' a < 5000 := by
        intro a a1 a2
        rw [← hQ']
        dsimp only
        split
        · omega
        · have := (d4 a a1 (by omega)).2.1; omega
      have sel : ∀ a, h ≤ a → a < pp + 1 → ((nI k - W2 3 2 ≤ W2 11 a) ↔ ¬ (Q' a + g < k)) := by
        intro a a1 a2
        have := ww a a1 a2
        rw [hQ2 a a1 a2, h12 3 (by decide) (by decide), hgv, i_le, i_sub (by rw [nI_toInt (by omega), nI_toInt (by omega)]; omega) (by rw [nI_toInt (by omega), nI_toInt (by omega)]; omega), nI_toInt (by omega), nI_toInt (by omega), nI_toInt (by omega)]
        omega
      have stop : ∀ a, h ≤ a → a < pp + 1 → ¬ Q' a + g < k → bl_X11_laysIdle_77 W2 (nI a0) (nI b0) (nI a) (nI (pp + 1)) (nI k) = some (.inr (nI a)) := by
        intro a a1 a2 a3
        simp only [bl_X11_laysIdle_77]
        rw [gd_n (by omega) (by decide), gd_d (by decide) (by decide), cl2, clN (by omega), if_pos ((sel a a1 a2).mpr a3)]
      have hloop : loopN (fun s : Int32 => bl_X11_laysIdle_77 W2 (nI a0) (nI b0) s (nI (pp + 1)) (nI k)) BG (nI h) = some (nI h') := by
        by_cases c : Q' h + g < k
        · rw [if_pos c] at hh'
          have hb1 : bl_X11_laysIdle_77 W2 (nI a0) (nI b0) (nI h) (nI (pp + 1)) (nI k) = some (.inl (nI (h + 1))) := by
            simp only [bl_X11_laysIdle_77, lt_d, nI_1]
            rw [gd_n (by omega) (by decide), gd_d (by decide) (by decide), cl2, clN (by omega), if_neg (fun z => ((sel h (Nat.le_refl h) (by omega)).mp z) c)]
          have hb2 := stop h' s3 s2 (by omega)
          show loopN _ (99998 + 1 + 1) _ = _
          rw [loopN, hb1]
          show loopN _ (99998 + 1) _ = _
          rw [hh', loopN, hb2]
        · rw [if_neg c] at hh'
          have hb2 := stop h' s3 s2 (by omega)
          show loopN _ (99999 + 1) _ = _
          rw [hh', loopN, hb2]
      rw [hloop, bd_s]
      simp only [b_X11_laysIdle_144, lt_d, nI_1]
      obtain ⟨u1, u2, u3⟩ := t4 h' (Nat.le_refl h') s2
      by_cases c : k < 360 + a0
      · rw [ea, if_pos (nI_lt' c (by omega))]
        exact ⟨_, rfl, Q', h', pp + 1, rfl, rfl, (by dsimp only; rw [← hk]; rfl), h12, fun a a1 a2 => hQ2 a (by omega) a2, (by rw [show 360 + a0 - g + (p + 1) = k + 1 by omega]; exact s1), fun j hj => by omega⟩
      · rw [ea, if_neg (nI_nl c (by omega))]
        rw [gd_n (by omega) (by decide), clN (by omega), hQ2 h' s3 s2, gd_n (by omega) (by decide), gd_d (by decide) (by decide), show nI k - (360 : Int32) = nI (k - 360) from nI_sub k 360 (by omega), gd_n (by omega) (by decide), cl3, clN (by omega), clN (by omega), h12 9 (by decide) (by decide), h12 3 (by decide) (by decide), hf _ (by omega), s4 (by omega), hfl]
        refine ⟨_, rfl, Q', h', pp + 1, rfl, rfl, (by dsimp only; rw [← hk]; rfl), fun q a b => ?_, fun a a1 a2 => ?_, (by rw [show 360 + a0 - g + (p + 1) = k + 1 by omega]; exact s1), fun j hj0 hj => ?_⟩
        · dsimp only
          rw [uM_row _ _ _ _ a]; exact h12 q a b
        · dsimp only
          rw [uM_row _ _ _ _ (by decide)]; exact hQ2 a (by omega) a2
        · dsimp only
          by_cases e2 : j = k - 360
          · rw [e2, uM_s]
            unfold kIdle
            rw [show 360 + (k - 360) = k by omega]
          · rw [uM_j _ _ _ _ e2, h13]
            exact i7 j hj0 (by omega)) (by
      rintro ⟨W, x, y, z⟩ ⟨Q, h, t, i1, i2, i3, i4, i5, i6, i7⟩
      dsimp only at i1 i2 i3 i4 i5 i7
      subst i1 i2 i3
      dsimp only
      simp only [bl_X11_laysIdle_19]
      rw [eb, if_pos (nI_lt' (by omega) (by omega))]
      exact ⟨_, rfl, i4, fun j hj0 hj => i7 j hj0 (by omega)⟩) (W0, 0, 0, nI (360 + a0 - g)) BG
    ⟨fun _ => 0, 0, 0, rfl, rfl, rfl, fun _ _ _ => rfl, fun a _ z => absurd z (Nat.not_lt_zero a), ⟨Nat.le_refl 0, by omega, fun a b _ _ z => absurd z (Nat.not_lt_zero b), fun a _ z => absurd z (Nat.not_lt_zero a), fun j a b => by omega⟩, fun j hj0 hj => by omega⟩ (BG_lt (by omega))
  rw [hl, bd_s]
  exact ⟨W, rfl, w1, w2⟩
