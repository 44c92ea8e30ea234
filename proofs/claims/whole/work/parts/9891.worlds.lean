/-! from the cells in a row to the two worlds; the first memories stand in Rel -/
section PIECES
variable (c : Nat → ClassId) (b : Nat)
theorem tg_8 {i : Nat} (h : i < 175) : (esX10 c b)[i + 1]? = (tl_8 c b)[i]? := by
  show (tl_9 c b)[i]? = _
  rw [tl_9, List.getElem?_append_left (by rw [ln_8]; exact h)]
theorem tg_7 {i : Nat} (h : i < 174) : (esX10 c b)[i + 1]? = (tl_7 c b)[i]? := by
  rw [tg_8 c b (by omega), tl_8, List.getElem?_append_left (by rw [ln_7]; exact h)]
theorem tg_6 {i : Nat} (h : i < 170) : (esX10 c b)[i + 1]? = (tl_6 c b)[i]? := by
  rw [tg_7 c b (by omega), tl_7, List.getElem?_append_left (by rw [ln_6]; exact h)]
theorem tg_5 {i : Nat} (h : i < 169) : (esX10 c b)[i + 1]? = (tl_5 c b)[i]? := by
  rw [tg_6 c b (by omega), tl_6, List.getElem?_append_left (by rw [ln_5]; exact h)]
theorem tg_4 {i : Nat} (h : i < 165) : (esX10 c b)[i + 1]? = (tl_4 c b)[i]? := by
  rw [tg_5 c b (by omega), tl_5, List.getElem?_append_left (by rw [ln_4]; exact h)]
theorem tg_3 {i : Nat} (h : i < 85) : (esX10 c b)[i + 1]? = (tl_3 c b)[i]? := by
  rw [tg_4 c b (by omega), tl_4, List.getElem?_append_left (by rw [ln_3]; exact h)]
theorem tg_2 {i : Nat} (h : i < 5) : (esX10 c b)[i + 1]? = (tl_2 c b)[i]? := by
  rw [tg_3 c b (by omega), tl_3, List.getElem?_append_left (by rw [ln_2]; exact h)]
theorem pc_book {o : Nat} (h : o < 80) : (esX10 c b)[6 + o]? = (esX1 c (b + 6))[o]? := by
  rw [show 6 + o = (5 + o) + 1 by omega, tg_3 c b (by omega), tl_3, List.getElem?_append_right (by rw [ln_2]; omega), ln_2, show 5 + o - 5 = o by omega]
theorem pc_kept {o : Nat} (h : o < 80) : (esX10 c b)[86 + o]? = (esX1 c (b + 86))[o]? := by
  rw [show 86 + o = (85 + o) + 1 by omega, tg_4 c b (by omega), tl_4, List.getElem?_append_right (by rw [ln_3]; omega), ln_3, show 85 + o - 85 = o by omega]
theorem pc_acts {j : Nat} (h : j < 4) : (esX10 c b)[166 + j]? = (esX0 c (b + 166))[j]? := by
  rw [show 166 + j = (165 + j) + 1 by omega, tg_5 c b (by omega), tl_5, List.getElem?_append_right (by rw [ln_4]; omega), ln_4, show 165 + j - 165 = j by omega]
theorem pc_refu : (esX10 c b)[170]? = some (.inl (c 100, 5, .inl (fun _ => 0))) := by
  rw [show 170 = 169 + 1 from rfl, tg_6 c b (by omega), tl_6, List.getElem?_append_right (by rw [ln_5]; omega), ln_5]
  rfl
theorem pc_view {j : Nat} (h : j < 4) : (esX10 c b)[171 + j]? = (esX9 c (b + 171))[j]? := by
  rw [show 171 + j = (170 + j) + 1 by omega, tg_7 c b (by omega), tl_7, List.getElem?_append_right (by rw [ln_6]; omega), ln_6, show 170 + j - 170 = j by omega]
theorem pc_peak : (esX10 c b)[175]? = some (.inr (5, [.int (-1), .int 0])) := by
  rw [show 175 = 174 + 1 from rfl, tg_8 c b (by omega), tl_8, List.getElem?_append_right (by rw [ln_7]; omega), ln_7]
  rfl
theorem pc_row : (esX10 c b)[176]? = some (.inl (c 100, 40, .inl (fun _ => 0))) := by
  show (tl_9 c b)[175]? = _
  rw [tl_9, List.getElem?_append_right (by rw [ln_8]; omega), ln_8]
  rfl
end PIECES
theorem w1_at {D : va_G} {b : Nat} {ad : Nat → Nat} {H : Heap} (h : va_P D vwCl (xl b (esX10 D.1 b)) H) : ∀ k, k < 177 → W1P D b ad H k := by
  have g : ∀ (p : Nat) {e : va_E}, (esX10 D.1 b)[p]? = some e → va_at D vwCl (b + p, e) H := fun p {e} he => h p _ (xl_at he)
  have s0 : W1P D b ad H 0 := g 0 rfl
  have s1 : W1P D b ad H 1 := g 1 ((tg_2 D.1 b (i := 0) (by omega)).trans rfl)
  have s2 : W1P D b ad H 2 := g 2 ((tg_2 D.1 b (i := 1) (by omega)).trans rfl)
  have s3 : W1P D b ad H 3 := g 3 ((tg_2 D.1 b (i := 2) (by omega)).trans rfl)
  have s4 : W1P D b ad H 4 := g 4 ((tg_2 D.1 b (i := 3) (by omega)).trans rfl)
  have s5 : W1P D b ad H 5 := g 5 ((tg_2 D.1 b (i := 4) (by omega)).trans rfl)
  have s6 : W1P D b ad H 6 := g 166 ((pc_acts D.1 b (j := 0) (by omega)).trans rfl)
  have s7 : W1P D b ad H 7 := g 167 ((pc_acts D.1 b (j := 1) (by omega)).trans rfl)
  have s8 : W1P D b ad H 8 := g 168 ((pc_acts D.1 b (j := 2) (by omega)).trans rfl)
  have s9 : W1P D b ad H 9 := g 169 ((pc_acts D.1 b (j := 3) (by omega)).trans rfl)
  have s10 : W1P D b ad H 10 := g 170 (pc_refu D.1 b)
  have s11 : W1P D b ad H 11 := g 171 ((pc_view D.1 b (j := 0) (by omega)).trans rfl)
  have s12 : W1P D b ad H 12 := g 172 ((pc_view D.1 b (j := 1) (by omega)).trans rfl)
  have s13 : W1P D b ad H 13 := g 173 ((pc_view D.1 b (j := 2) (by omega)).trans rfl)
  have s14 : W1P D b ad H 14 := g 174 ((pc_view D.1 b (j := 3) (by omega)).trans rfl)
  have s15 : W1P D b ad H 15 := g 175 (pc_peak D.1 b)
  have s16 : W1P D b ad H 16 := g 176 (pc_row D.1 b)
  intro k hk
  by_cases h1 : k < 17
  · have : k = 0 ∨ k = 1 ∨ k = 2 ∨ k = 3 ∨ k = 4 ∨ k = 5 ∨ k = 6 ∨ k = 7 ∨ k = 8 ∨ k = 9 ∨ k = 10 ∨ k = 11 ∨ k = 12 ∨ k = 13 ∨ k = 14 ∨ k = 15 ∨ k = 16 := by omega
    rcases this with rfl | rfl | rfl | rfl | rfl | rfl | rfl | rfl | rfl | rfl | rfl | rfl | rfl | rfl | rfl | rfl | rfl <;> assumption
  · by_cases h2 : k < 97
    · have h3 := bk_at (D := D) (b := b) (β := b + 6) (ad := ad) (H := H) (B := 17) (Or.inl rfl) rfl (fun {o e} he => by
        have ho : o < 80 := by
          have := (List.getElem?_eq_some_iff.mp he).1
          rw [lnX1] at this; exact this
        have := g (6 + o) ((pc_book D.1 b ho).trans he)
        rw [← Nat.add_assoc] at this; exact this) (k - 17) (by omega)
      rw [show 17 + (k - 17) = k by omega] at h3
      exact h3
    · have h3 := bk_at (D := D) (b := b) (β := b + 86) (ad := ad) (H := H) (B := 97) (Or.inr rfl) rfl (fun {o e} he => by
        have ho : o < 80 := by
          have := (List.getElem?_eq_some_iff.mp he).1
          rw [lnX1] at this; exact this
        have := g (86 + o) ((pc_kept D.1 b ho).trans he)
        rw [← Nat.add_assoc] at this; exact this) (k - 97) (by omega)
      rw [show 97 + (k - 97) = k by omega] at h3
      exact h3
theorem w2_at {D : va_G} {b : Nat} {ad : Nat → Nat} {H : Heap} (h : va_P D vwCl (xl b (esX11 D.1 b)) H) : ∀ k, k < 15 → W2P D b ad H k := by
  have g : ∀ (p : Nat) {e : va_E}, (esX11 D.1 b)[p]? = some e → va_at D vwCl (b + p, e) H := fun p {e} he => h p _ (xl_at he)
  have s0 : W2P D b ad H 0 := g 0 rfl
  have s1 : W2P D b ad H 1 := g 1 rfl
  have s2 : W2P D b ad H 2 := g 2 rfl
  have s3 : W2P D b ad H 3 := g 3 rfl
  have s4 : W2P D b ad H 4 := g 4 rfl
  have s5 : W2P D b ad H 5 := g 5 rfl
  have s6 : W2P D b ad H 6 := g 6 rfl
  have s7 : W2P D b ad H 7 := g 7 rfl
  have s8 : W2P D b ad H 8 := g 8 rfl
  have s9 : W2P D b ad H 9 := g 9 rfl
  have s10 : W2P D b ad H 10 := g 10 rfl
  have s11 : W2P D b ad H 11 := g 11 rfl
  have s12 : W2P D b ad H 12 := g 12 rfl
  have s13 : W2P D b ad H 13 := g 13 rfl
  have s14 : W2P D b ad H 14 := g 14 rfl
  intro k hk
  have : k = 0 ∨ k = 1 ∨ k = 2 ∨ k = 3 ∨ k = 4 ∨ k = 5 ∨ k = 6 ∨ k = 7 ∨ k = 8 ∨ k = 9 ∨ k = 10 ∨ k = 11 ∨ k = 12 ∨ k = 13 ∨ k = 14 := by omega
  rcases this with rfl | rfl | rfl | rfl | rfl | rfl | rfl | rfl | rfl | rfl | rfl | rfl | rfl | rfl | rfl <;> assumption
theorem Rel_0 : Rel M00 N00 := by
  refine ⟨⟨0, by omega, rfl, rfl, fun i hi => absurd hi (Nat.not_lt_zero i)⟩, fun k hk => ?_, fun r _ => rfl, ⟨0, by omega, rfl, rfl, fun i hi => absurd hi (Nat.not_lt_zero i)⟩, ⟨0, 0, 0, 0, WF_0 (fun k _ => rfl), RB_0 ⟨rfl, rfl, rfl, rfl⟩, fun i hi => absurd hi (Nat.not_lt_zero i)⟩, rfl, Or.inl rfl⟩
  have e : N00 3 k = fWi k := by show fR 7 k = _; rw [fR, if_pos hk]
  refine ⟨rfl, ?_⟩
  rw [e]
  exact fWi_bd k hk
