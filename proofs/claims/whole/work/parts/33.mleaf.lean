/-! the reference's leaves -/
theorem m_eOf (N : xM) {i j : Nat} (hi : i < 40) (hj : j < 7) : f_X11_entryOf N (nI i) (nI j) = some (N 4 (155 + 7 * i + j)) := by
  simp only [f_X11_entryOf, b_X11_entryOf_0]
  have e : ((155 : Int32) + (7 : Int32) * nI i) + nI j = nI (155 + 7 * i + j) := at_row _ _ _ _
  rw [e, gd_n (by omega) (by decide), nI_clamp (by omega)]
theorem m_e0 (N : xM) {i : Nat} (hi : i < 40) : f_X11_entryOf N (nI i) (0 : Int32) = some (N 4 (155 + 7 * i)) := m_eOf N (j := 0) hi (by decide)
theorem m_e1 (N : xM) {i : Nat} (hi : i < 40) : f_X11_entryOf N (nI i) (1 : Int32) = some (N 4 (155 + 7 * i + 1)) := m_eOf N (j := 1) hi (by decide)
theorem m_e2 (N : xM) {i : Nat} (hi : i < 40) : f_X11_entryOf N (nI i) (2 : Int32) = some (N 4 (155 + 7 * i + 2)) := m_eOf N (j := 2) hi (by decide)
theorem m_e3 (N : xM) {i : Nat} (hi : i < 40) : f_X11_entryOf N (nI i) (3 : Int32) = some (N 4 (155 + 7 * i + 3)) := m_eOf N (j := 3) hi (by decide)
theorem m_e4 (N : xM) {i : Nat} (hi : i < 40) : f_X11_entryOf N (nI i) (4 : Int32) = some (N 4 (155 + 7 * i + 4)) := m_eOf N (j := 4) hi (by decide)
theorem m_e5 (N : xM) {i : Nat} (hi : i < 40) : f_X11_entryOf N (nI i) (5 : Int32) = some (N 4 (155 + 7 * i + 5)) := m_eOf N (j := 5) hi (by decide)
theorem m_e6 (N : xM) {i : Nat} (hi : i < 40) : f_X11_entryOf N (nI i) (6 : Int32) = some (N 4 (155 + 7 * i + 6)) := m_eOf N (j := 6) hi (by decide)
theorem m_oOf (N : xM) {i j : Nat} (hi : i < 12) (hj : j < 5) : f_X11_orderOf N (nI i) (nI j) = some (N 4 (435 + 5 * i + j)) := by
  simp only [f_X11_orderOf, b_X11_orderOf_0]
  have e : ((435 : Int32) + (5 : Int32) * nI i) + nI j = nI (435 + 5 * i + j) := at_row _ _ _ _
  rw [e, gd_n (by omega) (by decide), nI_clamp (by omega)]
theorem m_o0 (N : xM) {i : Nat} (hi : i < 12) : f_X11_orderOf N (nI i) (0 : Int32) = some (N 4 (435 + 5 * i)) := m_oOf N (j := 0) hi (by decide)
theorem m_o1 (N : xM) {i : Nat} (hi : i < 12) : f_X11_orderOf N (nI i) (1 : Int32) = some (N 4 (435 + 5 * i + 1)) := m_oOf N (j := 1) hi (by decide)
theorem m_o2 (N : xM) {i : Nat} (hi : i < 12) : f_X11_orderOf N (nI i) (2 : Int32) = some (N 4 (435 + 5 * i + 2)) := m_oOf N (j := 2) hi (by decide)
theorem m_o3 (N : xM) {i : Nat} (hi : i < 12) : f_X11_orderOf N (nI i) (3 : Int32) = some (N 4 (435 + 5 * i + 3)) := m_oOf N (j := 3) hi (by decide)
theorem m_o4 (N : xM) {i : Nat} (hi : i < 12) : f_X11_orderOf N (nI i) (4 : Int32) = some (N 4 (435 + 5 * i + 4)) := m_oOf N (j := 4) hi (by decide)
theorem m_its (N : xM) {w j : Nat} (hw : w < 4) (hj : j < 37) : f_X11_its N (nI w) (nI j) = some (N 4 (7 + 37 * w + j)) := by
  simp only [f_X11_its, b_X11_its_0]
  have e : ((7 : Int32) + (37 : Int32) * nI w) + nI j = nI (7 + 37 * w + j) := at_row _ _ _ _
  rw [e, gd_n (by omega) (by decide), nI_clamp (by omega)]
theorem g495 {β : Type} {i : Int32} (h0 : 0 ≤ i.toInt) (h1 : i.toInt < 495) (o : Option β) : gd i 495 o = o := gd_d h0 h1 o
theorem cl0 : (0 : Int32).toNatClampNeg = 0 := by decide
theorem cl1 : (1 : Int32).toNatClampNeg = 1 := by decide
theorem cl2 : (2 : Int32).toNatClampNeg = 2 := by decide
theorem cl3 : (3 : Int32).toNatClampNeg = 3 := by decide
theorem b01 (p q : Prop) [Decidable p] [Decidable q] (h : p ↔ q) : pI p = pI q := by
  by_cases a : p
  · rw [pI_t a, pI_t (h.mp a)]
  · rw [pI_f a, pI_f (fun z => a (h.mpr z))]
theorem fp_t {p : Prop} [Decidable p] {α : Type} (h : p) (a b : α) : (if pI p = 0 then a else b) = b := if_neg (fun z => (pI0 p).mp z h)
theorem fp_f {p : Prop} [Decidable p] {α : Type} (h : ¬ p) (a b : α) : (if pI p = 0 then a else b) = a := if_pos ((pI0 p).mpr h)
def gTo (V : Nat → Int32) (i : Nat) : Nat → Bool
  | 0 => !decide (V (155 + 7 * i + 5) = 0)
  | k + 1 => gTo V i k && !(decide (V (155 + 7 * k) = 1) && decide (V (155 + 7 * k + 5) = V (155 + 7 * i + 5)))
theorem gTo_iff (V : Nat → Int32) (i : Nat) : ∀ k, gTo V i k = true ↔ (¬ V (155 + 7 * i + 5) = 0 ∧ ∀ j, j < k → ¬ (V (155 + 7 * j) = 1 ∧ V (155 + 7 * j + 5) = V (155 + 7 * i + 5)))
  | 0 => by
    simp [gTo]
  | k + 1 => by
    rw [gTo, Bool.and_eq_true, gTo_iff V i k]
    constructor
    · rintro ⟨⟨h1, h2⟩, h3⟩
      refine ⟨h1, fun j hj => ?_⟩
      by_cases e : j = k
      · subst e
        intro z
        simp [z.1, z.2] at h3
      · exact h2 j (by omega)
    · rintro ⟨h1, h2⟩
      refine ⟨⟨h1, fun j hj => h2 j (by omega)⟩, ?_⟩
      have h3 := h2 k (by omega)
      by_cases a : V (155 + 7 * k) = 1
      · by_cases b : V (155 + 7 * k + 5) = V (155 + 7 * i + 5)
        · exact absurd ⟨a, b⟩ h3
        · simp [b]
      · simp [a]
theorem m_isGood (N : xM) {i : Nat} (hi : i < 40) (hp : N 4 (155 + 7 * i) = 1) : f_X11_isGood N (nI i) = some (pI (kGood (N 4) i)) := by
  have last : pI (gTo (N 4) i i = true) = pI (kGood (N 4) i) := b01 _ _ ⟨fun q => ⟨hp, (gTo_iff _ _ _).mp q⟩, fun q => (gTo_iff _ _ _).mpr q.2⟩
  have loop : ∀ b : Int32, b = pI (gTo (N 4) i 0 = true) → b_X11_isGood_17 N (nI i) b 0 = some (pI (kGood (N 4) i)) := by
    intro b hb
    simp only [b_X11_isGood_17]
    have h := loopN_up (body := fun s : Int32 × Int32 => bl_X11_isGood_17 N (nI i) s.1 s.2) (r := pI (kGood (N 4) i))
      (fun k => (pI (gTo (N 4) i k = true), nI k)) i ?_ ?_ BG (BG_lt (by omega))
    · have h' : loopN (fun s : Int32 × Int32 => bl_X11_isGood_17 N (nI i) s.1 s.2) BG (b, (0 : Int32)) = some (pI (kGood (N 4) i)) := by rw [hb]; exact h
      rw [h', bd_s, gz_p]
    · intro k hk
      simp only [bl_X11_isGood_17]
      rw [if_neg (nI_ge hk (by omega))]
      by_cases hq : gTo (N 4) i k = true
      · rw [fp_t hq, m_e0 N (by omega), bd_s]
        by_cases h1 : N 4 (155 + 7 * k) = 1
        · rw [if_pos h1, m_e5 N (by omega), bd_s, m_e5 N hi, bd_s]
          by_cases h2 : N 4 (155 + 7 * k + 5) = N 4 (155 + 7 * i + 5)
          · rw [if_pos h2]
            simp only [b_X11_isGood_55, b_X11_isGood_56, lt_d, nI_1]
            rw [pI_f (p := gTo (N 4) i (k + 1) = true) (by simp [gTo, h1, h2])]
          · rw [if_neg h2]
            simp only [b_X11_isGood_51, b_X11_isGood_56, lt_d, nI_1]
            rw [pI_t (p := gTo (N 4) i (k + 1) = true) (by simp [gTo, hq, h2])]
        · rw [if_neg h1]
          simp only [b_X11_isGood_51, b_X11_isGood_56, lt_d, nI_1]
          rw [pI_t (p := gTo (N 4) i (k + 1) = true) (by simp [gTo, hq, h1])]
      · rw [fp_f hq]
        simp only [b_X11_isGood_55, b_X11_isGood_56, lt_d, nI_1]
        rw [pI_f (p := gTo (N 4) i (k + 1) = true) (by simp [gTo, hq])]
    · simp only [bl_X11_isGood_17]
      rw [if_pos (nI_le (Nat.le_refl i) (by omega)), last]
  simp only [f_X11_isGood, b_X11_isGood_0, b_X11_isGood_14]
  rw [m_e5 N hi, bd_s]
  by_cases h : N 4 (155 + 7 * i + 5) = 0
  · rw [if_pos h]; exact loop 0 (pI_f (by simp [gTo, h])).symm
  · rw [if_neg h]; exact loop 1 (pI_t (by simp [gTo, h])).symm
theorem m_isBacked (N : xM) {i : Nat} (hi : i < 40) (hp : N 4 (155 + 7 * i) = 1) : f_X11_isBacked N (nI i) = some (pI (kBack (N 4) (N 3 1).toInt i)) := by
  simp only [f_X11_isBacked, b_X11_isBacked_0, b_X11_isBacked_34, b_X11_isBacked_39, gz0, gz1]
  rw [m_e6 N hi, bd_s]
  by_cases h1 : N 4 (155 + 7 * i + 6) = 1
  · rw [if_pos h1, pI_t (Or.inl h1)]
  · rw [if_neg h1, m_isGood N hi hp, bd_s]
    by_cases h2 : kGood (N 4) i
    · rw [fp_t h2, pI_t (Or.inr (Or.inl h2))]
    · rw [fp_f h2, m_e3 N hi, bd_s, gd_d (by decide) (by decide), cl1]
      by_cases h3 : (N 4 (155 + 7 * i + 3)).toInt ≤ (N 3 1).toInt
      · rw [if_neg (by rw [i_lt]; omega), pI_t (Or.inr (Or.inr h3))]
      · rw [if_pos (by rw [i_lt]; omega), pI_f (fun z => by rcases z with z | z | z; exact h1 z; exact h2 z; exact h3 z)]
theorem m_takes (N : xM) {i : Nat} (hi : i < 40) : f_X11_takes N (nI i) = some (pI (kTakes (N 4) (N 3 1).toInt i)) := by
  simp only [f_X11_takes, b_X11_takes_0, b_X11_takes_42, b_X11_takes_43, gz0, gz1]
  rw [m_e0 N hi, bd_s]
  by_cases h1 : N 4 (155 + 7 * i) = 1
  · rw [if_pos h1, m_e4 N hi, bd_s]
    have e2 : (2 : Int32).toInt = 2 := by decide
    by_cases h2 : (N 4 (155 + 7 * i + 4)).toInt < 2
    · rw [if_neg (by rw [i_le, e2]; omega), m_e6 N hi, bd_s]
      by_cases h3 : N 4 (155 + 7 * i + 6) = 0
      · rw [if_pos h3, m_isBacked N hi h1, bd_s]
        by_cases h4 : kBack (N 4) (N 3 1).toInt i
        · rw [fp_t h4, pI_t ⟨h1, h2, h3, h4⟩]
        · rw [fp_f h4, pI_f (fun z => h4 z.2.2.2)]
      · rw [if_neg h3, pI_f (fun z => h3 z.2.2.1)]
    · rw [if_pos (by rw [i_le, e2]; omega), pI_f (fun z => h2 z.2.1)]
  · rw [if_neg h1, pI_f (fun z => h1 z.1)]
theorem m_isAhead (N : xM) {a b : Nat} (ha : a < 40) (hb : b < 40) : f_X11_isAhead N (nI a) (nI b) = some (pI (kAhead (N 4) a b)) := by
  simp only [f_X11_isAhead, b_X11_isAhead_0, b_X11_isAhead_35, b_X11_isAhead_39, b_X11_isAhead_40, gz0, gz1, m_e2 N ha, m_e2 N hb, bd_s]
  by_cases h1 : (N 4 (155 + 7 * a + 2)).toInt < (N 4 (155 + 7 * b + 2)).toInt
  · rw [if_pos ((i_lt _ _).mpr h1), pI_t (Or.inl h1)]
  · rw [if_neg (fun z => h1 ((i_lt _ _).mp z))]
    by_cases h2 : (N 4 (155 + 7 * a + 2)).toInt = (N 4 (155 + 7 * b + 2)).toInt
    · rw [if_pos ((i_eq _ _).mpr h2)]
      by_cases h3 : a < b
      · rw [if_neg (nI_ge h3 (by omega)), pI_t (Or.inr ⟨h2, h3⟩)]
      · rw [if_pos (nI_le (by omega) (by omega)), pI_f (fun z => z.elim h1 (fun q => h3 q.2))]
    · rw [if_neg (fun z => h2 ((i_eq _ _).mp z)), pI_f (fun z => z.elim h1 (fun q => h2 q.1))]
theorem d360 {a : Int32} (h : dayP a) : (a / (360 : Int32)).toInt = a.toInt / 360 := by
  have e : (360 : Int32).toInt = 360 := by decide
  rw [i_div (by rw [e]; decide), e, Int.tdiv_eq_ediv_of_nonneg h.1]
theorem m_areAlike (N : xM) {a b : Nat} (ha : a < 40) (hb : b < 40) (da : dayP (N 4 (155 + 7 * a + 2))) (db : dayP (N 4 (155 + 7 * b + 2))) : f_X11_areAlike N (nI a) (nI b) = some (pI (kAlike (N 4) a b)) := by
  simp only [f_X11_areAlike, b_X11_areAlike_0, b_X11_areAlike_57, b_X11_areAlike_58, gz0, gz1, m_e1 N ha, m_e1 N hb, m_e2 N ha, m_e2 N hb, m_e4 N ha, m_e4 N hb, bd_s]
  have e : (N 4 (155 + 7 * a + 2) / (360 : Int32) = N 4 (155 + 7 * b + 2) / (360 : Int32)) ↔ ((N 4 (155 + 7 * a + 2)).toInt / 360 = (N 4 (155 + 7 * b + 2)).toInt / 360) := by
    rw [i_eq, d360 da, d360 db]
  by_cases h1 : N 4 (155 + 7 * a + 1) = N 4 (155 + 7 * b + 1)
  · rw [if_pos h1]
    by_cases h2 : N 4 (155 + 7 * a + 4) = N 4 (155 + 7 * b + 4)
    · rw [if_pos h2]
      by_cases h3 : (N 4 (155 + 7 * a + 2)).toInt / 360 = (N 4 (155 + 7 * b + 2)).toInt / 360
      · rw [if_pos (e.mpr h3), pI_t ⟨h1, h2, h3⟩]
      · rw [if_neg (fun z => h3 (e.mp z)), pI_f (fun z => h3 z.2.2)]
    · rw [if_neg h2, pI_f (fun z => h2 z.2.1)]
  · rw [if_neg h1, pI_f (fun z => h1 z.1)]
