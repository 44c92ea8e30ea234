/-! the first memories: where each cell of the two worlds was made -/
def peP (k : Nat) : Nat := if k < 6 then k else if k < 17 then k + 160 else k - 11
def ad1 (b : Nat) (ad : Nat → Nat) : Nat → Nat := fun k => if k < 1000 then b + peP k else ad k
def ad2 (b : Nat) (ad : Nat → Nat) : Nat → Nat := fun k => if k < 1000 then b + k else ad k
def M00 : xM := fun k => if k = 15 then (fun j => if j = 0 then -1 else 0) else if k = 18 then fR 7 else if k = 98 then fR 7 else fun _ => 0
def N00 : xM := fun k => if k = 3 then fR 7 else fun _ => 0
theorem M00_z {k : Nat} (h : k ≠ 15 ∧ k ≠ 18 ∧ k ≠ 98) : M00 k = fun _ => 0 := by
  unfold M00
  rw [if_neg h.1, if_neg h.2.1, if_neg h.2.2]
theorem arr_eq {cA : ClassId} {n : Nat} {f g : Nat → Value} (h : ∀ i, i < n → f i = g i) : arrV cA n f = arrV cA n g := by
  unfold arrV
  rw [show (fun j : Fin n => f j.val) = fun j : Fin n => g j.val from funext fun j => h j.val j.isLt]
theorem at_q {D : va_G} {cA : ClassId} {n a : Nat} {f g : Nat → Option Nat} {H : Heap} (e : ∀ i, i < n → f i = g i) (h : va_at D vwCl (a, .inl (cA, n, .inr (.inr (.inr (.inr f))))) H) : va_at D vwCl (a, .inl (cA, n, .inr (.inr (.inr (.inr g))))) H := by
  have h : H[a]? = some (vp_cell cA (n, .inr (.inr (.inr (.inr f))))) := h
  show H[a]? = some (vp_cell cA (n, .inr (.inr (.inr (.inr g)))))
  rw [h, vp_cell_q, vp_cell_q, arr_eq (f := fun j => va_rf (f j)) (g := fun j => va_rf (g j)) (fun i hi => by show va_rf _ = va_rf _; rw [e i hi])]
theorem gN_e {n B s i : Nat} {x : Nat} (hi : i < n) (h : B + s * i = x) : gN n B s i = some x := by rw [gN, if_pos hi, h]
theorem ad1_17 {b k : Nat} {ad : Nat → Nat} (h : 17 ≤ k) (h2 : k < 1000) : ad1 b ad k = b + (k - 11) := by
  unfold ad1 peP
  rw [if_pos h2, if_neg (by omega), if_neg (by omega)]
theorem blk_g {f : Nat → List va_E} {s : Nat} (h : ∀ i, (f i).length = s) {i j : Nat} (hj : j < s) (n : Nat) (hi : i < n) : (blk f n)[s * i + j]? = (f i)[j]? := by
  induction n with
  | zero => exact absurd hi (Nat.not_lt_zero i)
  | succ n ih =>
    rw [blk_s]
    by_cases e : i < n
    · have h2 : s * (i + 1) ≤ s * n := Nat.mul_le_mul_left s e
      rw [Nat.mul_succ] at h2
      rw [List.getElem?_append_left (by rw [blk_l h]; omega)]
      exact ih e
    · obtain rfl : i = n := by omega
      rw [List.getElem?_append_right (by rw [blk_l h]; omega), blk_l h, show s * i + j - s * i = j by omega]
theorem bk_p (c : Nat → ClassId) (b : Nat) {o : Nat} (h : o < 8) : (esX1 c b)[o]? = (bkP c b (fR 7) (gN 4 (b + 8) 5) (gN 40 (b + 28) 1) (gN 12 (b + 68) 1))[o]? := by
  unfold esX1
  exact List.getElem?_append_left h
theorem bk_w (c : Nat → ClassId) (b : Nat) {w j : Nat} (hw : w < 4) (hj : j < 5) : (esX1 c b)[8 + 5 * w + j]? = (esX8 c (b + 8 + 5 * w))[j]? := by
  unfold esX1
  rw [List.getElem?_append_right (by show 8 ≤ _; omega), List.getElem?_append_left (by rw [blW]; show 8 + 5 * w + j - 8 < _; omega)]
  show (blk (bkW c b) 4)[8 + 5 * w + j - 8]? = _
  rw [show 8 + 5 * w + j - 8 = 5 * w + j by omega]
  exact blk_g (s := 5) (fun _ => rfl) hj 4 hw
theorem bk_e (c : Nat → ClassId) (b : Nat) {i : Nat} (hi : i < 40) : (esX1 c b)[28 + i]? = (esX2 c (b + 28 + 1 * i))[0]? := by
  unfold esX1
  rw [List.getElem?_append_right (by show 8 ≤ _; omega)]
  show (blk (bkW c b) 4 ++ (blk (bkE c b) 40 ++ blk (bkO c b) 12))[28 + i - 8]? = _
  rw [List.getElem?_append_right (by rw [blW]; omega), blW, List.getElem?_append_left (by rw [blE]; omega), show 28 + i - 8 - 5 * 4 = 1 * i + 0 by omega]
  exact blk_g (s := 1) (fun _ => rfl) (by omega) 40 hi
theorem bk_o (c : Nat → ClassId) (b : Nat) {i : Nat} (hi : i < 12) : (esX1 c b)[68 + i]? = (esX3 c (b + 68 + 1 * i))[0]? := by
  unfold esX1
  rw [List.getElem?_append_right (by show 8 ≤ _; omega)]
  show (blk (bkW c b) 4 ++ (blk (bkE c b) 40 ++ blk (bkO c b) 12))[68 + i - 8]? = _
  rw [List.getElem?_append_right (by rw [blW]; omega), blW, List.getElem?_append_right (by rw [blE]; omega), blE, show 68 + i - 8 - 5 * 4 - 40 = 1 * i + 0 by omega]
  exact blk_g (s := 1) (fun _ => rfl) (by omega) 12 hi
def W1P (D : va_G) (b : Nat) (ad : Nat → Nat) (H : Heap) (k : Nat) : Prop := va_at D vwCl (ad1 b ad k, shC (ad1 b ad) D.1 k (M00 k)) H
def W2P (D : va_G) (b : Nat) (ad : Nat → Nat) (H : Heap) (k : Nat) : Prop := va_at D vwCl (ad2 b ad k, shM (ad2 b ad) D.1 k (N00 k)) H
theorem fin8 {P : Nat → Prop} (h0 : P 0) (h1 : P 1) (h2 : P 2) (h3 : P 3) (h4 : P 4) (h5 : P 5) (h6 : P 6) (h7 : P 7) : ∀ o, o < 8 → P o := by
  intro o ho
  have : o = 0 ∨ o = 1 ∨ o = 2 ∨ o = 3 ∨ o = 4 ∨ o = 5 ∨ o = 6 ∨ o = 7 := by omega
  rcases this with rfl | rfl | rfl | rfl | rfl | rfl | rfl | rfl <;> assumption
theorem bk_at {D : va_G} {b β : Nat} {ad : Nat → Nat} {H : Heap} {B : Nat} (hB : KB B) (eβ : β = b + (B - 11)) (h : ∀ {o : Nat} {e : va_E}, (esX1 D.1 β)[o]? = some e → va_at D vwCl (β + o, e) H) : ∀ o, o < 80 → W1P D b ad H (B + o) := by
  have hb : 17 ≤ B ∧ B ≤ 97 := by rcases hB with rfl | rfl <;> omega
  have ha : ∀ j, j < 80 → ad1 b ad (B + j) = β + j := fun j hj => by rw [ad1_17 (by omega) (by omega)]; omega
  have hz : ∀ j, j < 80 → j ≠ 1 → M00 (B + j) = fun _ => 0 := fun j h1 h2 => M00_z (by rcases hB with rfl | rfl <;> omega)
  have hr : M00 (B + 1) = fR 7 := by rcases hB with rfl | rfl <;> rfl
  have gp : ∀ {o : Nat} {e : va_E}, o < 8 → (bkP D.1 β (fR 7) (gN 4 (β + 8) 5) (gN 40 (β + 28) 1) (gN 12 (β + 68) 1))[o]? = some e → va_at D vwCl (β + o, e) H := fun {o e} ho he => h ((bk_p _ _ ho).trans he)
  have t8 : ∀ o, o < 8 → W1P D b ad H (B + o) := by
    refine fin8 ?_ ?_ ?_ ?_ ?_ ?_ ?_ ?_
    · unfold W1P
      rw [sh_B0 hB, ha 0 (by omega), ha 1 (by omega), ha 2 (by omega), ha 3 (by omega), ha 4 (by omega), ha 5 (by omega), ha 6 (by omega), ha 7 (by omega), hz 0 (by omega) (by omega)]
      exact gp (o := 0) (by omega) rfl
    · unfold W1P
      rw [sh_B1 hB, ha 1 (by omega), hr]
      exact gp (o := 1) (by omega) rfl
    · unfold W1P
      rw [sh_B2 hB, ha 2 (by omega), hz 2 (by omega) (by omega)]
      exact gp (o := 2) (by omega) rfl
    · unfold W1P
      rw [sh_B3 hB, ha 3 (by omega)]
      refine at_q (fun i hi => ?_) (gp (o := 3) (by omega) rfl)
      exact gN_e hi (by rw [show B + 8 + 5 * i = B + (8 + 5 * i) by omega, ha (8 + 5 * i) (by omega)]; omega)
    · unfold W1P
      rw [sh_B4 hB, ha 4 (by omega)]
      refine at_q (fun i hi => ?_) (gp (o := 4) (by omega) rfl)
      exact gN_e hi (by rw [show B + 28 + i = B + (28 + i) by omega, ha (28 + i) (by omega)]; omega)
    · unfold W1P
      rw [sh_B5 hB, ha 5 (by omega)]
      refine at_q (fun i hi => ?_) (gp (o := 5) (by omega) rfl)
      exact gN_e hi (by rw [show B + 68 + i = B + (68 + i) by omega, ha (68 + i) (by omega)]; omega)
    · unfold W1P
      rw [sh_B6 hB, ha 6 (by omega), hz 6 (by omega) (by omega)]
      exact gp (o := 6) (by omega) rfl
    · unfold W1P
      rw [sh_B7 hB, ha 7 (by omega), hz 7 (by omega) (by omega)]
      exact gp (o := 7) (by omega) rfl
  intro o ho
  by_cases h1 : o < 8
  · exact t8 o h1
  · by_cases h2 : o < 28
    · obtain ⟨w, j, hw, hj, rfl⟩ : ∃ w j, w < 4 ∧ j < 5 ∧ o = 8 + 5 * w + j := ⟨(o - 8) / 5, (o - 8) % 5, by omega, by omega, by omega⟩
      have hK : KW (B + 8 + 5 * w) := ⟨B, w, hB, hw, rfl⟩
      have aw : ∀ j, j < 5 → ad1 b ad (B + 8 + 5 * w + j) = β + (8 + 5 * w + j) := fun j hj => by rw [show B + 8 + 5 * w + j = B + (8 + 5 * w + j) by omega, ha _ (by omega)]
      have zw : ∀ j, j < 5 → M00 (B + 8 + 5 * w + j) = fun _ => 0 := fun j hj => by rw [show B + 8 + 5 * w + j = B + (8 + 5 * w + j) by omega, hz _ (by omega) (by omega)]
      have gw : ∀ {j : Nat} {e : va_E}, j < 5 → (esX8 D.1 (β + 8 + 5 * w))[j]? = some e → va_at D vwCl (β + (8 + 5 * w + j), e) H := fun {j e} hj he => h ((bk_w _ _ hw hj).trans he)
      have fw : ∀ j, j < 5 → W1P D b ad H (B + 8 + 5 * w + j) := by
        intro j hj
        have : j = 0 ∨ j = 1 ∨ j = 2 ∨ j = 3 ∨ j = 4 := by omega
        rcases this with rfl | rfl | rfl | rfl | rfl
        · unfold W1P
          rw [sh_W0 hK, aw 0 (by omega), aw 1 (by omega), aw 2 (by omega), aw 3 (by omega), aw 4 (by omega), zw 0 (by omega)]
          refine gw (j := 0) (by omega) ?_
          show some _ = some _
          rw [show β + 8 + 5 * w + 1 = β + (8 + 5 * w + 1) by omega, show β + 8 + 5 * w + 2 = β + (8 + 5 * w + 2) by omega, show β + 8 + 5 * w + 3 = β + (8 + 5 * w + 3) by omega, show β + 8 + 5 * w + 4 = β + (8 + 5 * w + 4) by omega]
        · unfold W1P
          rw [sh_W1 hK, aw 1 (by omega), zw 1 (by omega)]
          exact gw (j := 1) (by omega) rfl
        · unfold W1P
          rw [sh_W2 hK, aw 2 (by omega), zw 2 (by omega)]
          exact gw (j := 2) (by omega) rfl
        · unfold W1P
          rw [sh_W3 hK, aw 3 (by omega), zw 3 (by omega)]
          exact gw (j := 3) (by omega) rfl
        · unfold W1P
          rw [sh_W4 hK, aw 4 (by omega), zw 4 (by omega)]
          exact gw (j := 4) (by omega) rfl
      rw [show B + (8 + 5 * w + j) = B + 8 + 5 * w + j by omega]
      exact fw j hj
    · by_cases h3 : o < 68
      · obtain ⟨i, hi, rfl⟩ : ∃ i, i < 40 ∧ o = 28 + i := ⟨o - 28, by omega, by omega⟩
        have hK : KE (B + (28 + i)) := ⟨B, i, hB, hi, by omega⟩
        unfold W1P
        rw [sh_E hK, ha _ (by omega), hz _ (by omega) (by omega)]
        exact h ((bk_e _ _ hi).trans rfl)
      · obtain ⟨i, hi, rfl⟩ : ∃ i, i < 12 ∧ o = 68 + i := ⟨o - 68, by omega, by omega⟩
        have hK : KO (B + (68 + i)) := ⟨B, i, hB, hi, by omega⟩
        unfold W1P
        rw [sh_O hK, ha _ (by omega), hz _ (by omega) (by omega)]
        exact h ((bk_o _ _ hi).trans rfl)
