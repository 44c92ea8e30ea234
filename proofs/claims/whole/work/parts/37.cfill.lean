/-! the class: what is left of each allowance, the turn -/
/-- a row anew -/
def sR (M : xM) (r : Nat) (g : Nat → Int32) : xM := fun a => if a = r then g else M a
theorem sR_s (M : xM) (r : Nat) (g : Nat → Int32) : sR M r g r = g := by simp [sR]
theorem sR_n (M : xM) (r : Nat) (g : Nat → Int32) {a : Nat} (h : a ≠ r) : sR M r g a = M a := by simp [sR, h]
theorem uM_sR (M : xM) (r : Nat) (g : Nat → Int32) (k : Nat) (v : Int32) : uM (sR M r g) r k v = sR M r (upd g k v) := by
  funext a
  by_cases h : a = r
  · subst h; simp [uM, sR]
  · simp [uM, sR, h]
theorem uM_R (M : xM) (r k : Nat) (v : Int32) : uM M r k v = sR M r (upd (M r) k v) := by
  funext a
  by_cases h : a = r
  · subst h; simp [uM, sR]
  · simp [uM, sR, h]
theorem sR_sR (M : xM) (r : Nat) (g g' : Nat → Int32) : sR (sR M r g) r g' = sR M r g' := by
  funext a
  by_cases h : a = r
  · subst h; simp [sR]
  · simp [sR, h]
theorem sR_self (M : xM) (r : Nat) : sR M r (M r) = M := by
  funext a
  by_cases h : a = r
  · subst h; simp [sR]
  · simp [sR, h]
theorem CV.sR {M : xM} {V : Nat → Int32} {ng nw ne no : Nat} (hb : ng ≤ 3 ∧ nw ≤ 4 ∧ ne ≤ 40 ∧ no ≤ 12) (h : CV M V ng nw ne no) (r : Nat) (g : Nat → Int32) (hr : r < 17 ∨ 97 ≤ r ∨ r = 18 ∨ r = 23 ∨ r = 24) : CV (sR M r g) V ng nw ne no := h.kp hb (fun k h1 h2 h3 h4 h5 j _ => by rw [sR_n _ _ _ (by omega)])
theorem c_fill23 (M : xM) : f_J7_fill23 M 0 = some (sR M 23 (fun q => if q < 80 then 0 else M 23 q)) := by
  simp only [f_J7_fill23, b_J7_fill23_0, b_J7_fill23_5]
  have hl := loopN_up (body := fun s : xM × Int32 => bl_J7_fill23_5 s.1 0 s.2 80) (r := sR M 23 (fun q => if q < 80 then 0 else M 23 q))
    (fun k => (sR M 23 (fun q => if q < k then 0 else M 23 q), nI k)) 80 ?_ ?_ BG (BG_lt (by omega))
  · have e : (sR M 23 (fun q => if q < 0 then 0 else M 23 q), nI 0) = (M, (0 : Int32)) := by
      have : (fun q => if q < 0 then (0 : Int32) else M 23 q) = M 23 := by funext q; simp
      rw [this, sR_self]; rfl
    rw [e] at hl
    rw [hl, bd_s]
  · intro k hk
    simp only [bl_J7_fill23_5]
    rw [if_neg (show ¬ (80 : Int32) ≤ nI k from nI_ge (b := 80) hk (by omega)), gd_n (by omega) (by decide), lt_d, lt_d, nI_clamp (by omega), nI_1, uM_sR]
    congr 3
    congr 1
    funext q
    unfold upd
    by_cases h : q = k
    · subst h; simp
    · by_cases h2 : q < k
      · rw [if_neg h, if_pos (show q < k + 1 by omega)]; exact if_pos h2
      · rw [if_neg h, if_neg (show ¬ q < k + 1 by omega)]; exact if_neg h2
  · simp only [bl_J7_fill23_5]
    rw [if_pos (show (80 : Int32) ≤ nI 80 from nI_le (a := 80) (b := 80) (by omega) (by omega))]
theorem c_leftAt (M : xM) (w k y : Nat) : f_X1_leftAt M (nI w) (nI k) (nI y) = some (nI ((w * 2 + k) * 10 + y)) := by
  simp only [f_X1_leftAt, b_X1_leftAt_0]
  rw [show (2 : Int32) = nI 2 from rfl, show (10 : Int32) = nI 10 from rfl, pk_mul, nI_add, pk_mul, nI_add]
/-- what is left of each allowance ahead of all -/
def lR (V : Nat → Int32) (n : Nat) (g : Nat → Int32) : Nat → Int32 := fun q => if q < 80 then oI (kAlnc V n (nI (q / 20)) (nI (q / 10 % 2)) ((q % 10 : Nat) : Int)) else g q
theorem c_fillLeft {M : xM} {V : Nat → Int32} {ng nw ne no : Nat} (hb : ng ≤ 3 ∧ nw ≤ 4 ∧ ne ≤ 40 ∧ no ≤ 12) (h : CV M V ng nw ne no) (hW : ∀ o, o < no → WFo V o) (hw : ∀ o, o < no → (∃ w, w < nw ∧ V (435 + 5 * o) = nI w) ∧ (∃ k, k < 2 ∧ V (435 + 5 * o + 1) = nI k)) : f_X1_fillLeft M = some (sR M 23 (lR V no (M 23))) := by
  simp only [f_X1_fillLeft, b_X1_fillLeft_0, b_X1_fillLeft_10]
  rw [c_fill23, bd_s]
  have hl := loopN_up (body := fun s : xM × Int32 => bl_X1_fillLeft_10 s.1 s.2) (r := sR M 23 (lR V no (M 23)))
    (fun o => (sR M 23 (lR V o (M 23)), nI o)) no ?_ ?_ BG (BG_lt (by omega))
  · have e : (sR M 23 (lR V 0 (M 23)), nI 0) = (sR M 23 (fun q => if q < 80 then 0 else M 23 q), (0 : Int32)) := rfl
    rw [e] at hl
    rw [hl, bd_s]
  · intro o ho
    obtain ⟨⟨w, hw1, hw2⟩, ⟨k, hk1, hk2⟩⟩ := hw o ho
    simp only [bl_X1_fillLeft_10, b_X1_fillLeft_20]
    have e17 : sR M 23 (lR V o (M 23)) 17 7 = nI no := by rw [sR_n _ _ _ (by decide)]; exact h.2.2.2.1
    rw [if_neg (show ¬ sR M 23 (lR V o (M 23)) 17 7 ≤ nI o from by rw [e17]; exact nI_ge ho (by omega))]
    have li := loopN_up (body := fun s : xM × Int32 => bl_X1_fillLeft_20 s.1 (nI o) s.2) (r := sR M 23 (lR V (o + 1) (M 23)))
      (fun y => (sR M 23 (fun q => if (w * 2 + k) * 10 ≤ q ∧ q < (w * 2 + k) * 10 + y then lR V (o + 1) (M 23) q else lR V o (M 23) q), nI y)) 10 ?_ ?_ BG (BG_lt (by omega))
    · have e : (sR M 23 (fun q => if (w * 2 + k) * 10 ≤ q ∧ q < (w * 2 + k) * 10 + 0 then lR V (o + 1) (M 23) q else lR V o (M 23) q), nI 0) = (sR M 23 (lR V o (M 23)), (0 : Int32)) := by
        congr 2
        funext q
        rw [if_neg (by omega)]
      rw [e] at li
      rw [li, bd_s, lt_d, nI_1]
    · intro y hy
      simp only [bl_X1_fillLeft_20]
      generalize hR : (fun q => if (w * 2 + k) * 10 ≤ q ∧ q < (w * 2 + k) * 10 + y then lR V (o + 1) (M 23) q else lR V o (M 23) q) = R
      have hC : CV (sR M 23 R) V ng nw ne no := h.sR hb 23 R (by omega)
      have hS := c_share hC ho (hW o ho) hy
      obtain ⟨o0, o1, -⟩ := hC.o ho
      rw [if_neg (show ¬ (10 : Int32) ≤ nI y from nI_ge (b := 10) hy (by omega)), gd_n (by omega) (by decide), gd_n (by omega) (by decide), nI_clamp (by omega), o0, o1, hw2, hk2, c_leftAt, bd_s, gd_n (by omega) (by decide), gd_n (by omega) (by decide), hS, bd_s, gd_n (by omega) (by decide), lt_d, lt_d, nI_clamp (by omega), nI_1, sR_s, uM_sR]
      congr 3
      congr 1
      funext q
      unfold upd
      by_cases e : q = (w * 2 + k) * 10 + y
      · rw [if_pos e, if_pos (by omega), ← hR]
        simp only
        rw [if_neg (by omega), e]
        unfold lR
        rw [if_pos (by omega), if_pos (by omega)]
        have d1 : ((w * 2 + k) * 10 + y) / 20 = w := by omega
        have d2 : ((w * 2 + k) * 10 + y) / 10 % 2 = k := by omega
        have d3 : ((w * 2 + k) * 10 + y) % 10 = y := by omega
        rw [d1, d2, d3]
        obtain ⟨k1, k2⟩ := kShare_bd (hW o ho) (y : Int)
        obtain ⟨a1, a2⟩ := kAlnc_bd hW (nI w) (nI k) y o (by omega)
        have nx : kAlnc V (o + 1) (nI w) (nI k) y = kAlnc V o (nI w) (nI k) y + kShare V o y := by
          show _ + (if _ then _ else _) = _
          rw [if_pos ⟨hw2, hk2⟩]; rfl
        rw [nx]
        apply oI_e
        rw [i_add (by rw [oI_i (by omega) (by omega), oI_i (by omega) (by omega)]; omega) (by rw [oI_i (by omega) (by omega), oI_i (by omega) (by omega)]; omega), oI_i (by omega) (by omega), oI_i (by omega) (by omega)]
      · rw [if_neg e, ← hR]
        simp only
        by_cases c : (w * 2 + k) * 10 ≤ q ∧ q < (w * 2 + k) * 10 + y
        · rw [if_pos c, if_pos (by omega)]
        · rw [if_neg c, if_neg (by omega)]
    · simp only [bl_X1_fillLeft_20]
      rw [if_pos (show (10 : Int32) ≤ nI 10 from nI_le (a := 10) (b := 10) (by omega) (by omega))]
      congr 3
      funext q
      by_cases c : (w * 2 + k) * 10 ≤ q ∧ q < (w * 2 + k) * 10 + 10
      · rw [if_pos c]
      · rw [if_neg c]
        unfold lR
        by_cases c8 : q < 80
        · rw [if_pos c8, if_pos c8]
          show oI (kAlnc V o _ _ _) = oI (kAlnc V o _ _ _ + (if _ then _ else _))
          rw [if_neg, Int.add_zero]
          rintro ⟨z1, z2⟩
          rw [hw2] at z1
          rw [hk2] at z2
          have y1 := (nI_eq (by omega) (by omega)).mp z1
          have y2 := (nI_eq (by omega) (by omega)).mp z2
          omega
        · rw [if_neg c8, if_neg c8]
  · simp only [bl_X1_fillLeft_10]
    have e17 : sR M 23 (lR V no (M 23)) 17 7 = nI no := by rw [sR_n _ _ _ (by decide)]; exact h.2.2.2.1
    rw [if_pos (show sR M 23 (lR V no (M 23)) 17 7 ≤ nI no from by rw [e17]; exact nI_le (Nat.le_refl no) (by omega))]
