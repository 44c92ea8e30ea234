/-! what is read of the rows: V the row, A what is allowed -/
def kPart (V A : Nat → Int32) (what : Int32) (i : Nat) : Int32 :=
  if what = 1 then (if V (155 + 7 * i) = 0 then V (155 + 7 * i + 3) else 0) else if what = 2 then (if V (155 + 7 * i) = 1 then A i else 0)
  else if what = 3 then (if V (155 + 7 * i) = 1 then V (155 + 7 * i + 3) - A i else 0) else (if V (155 + 7 * i) = 2 then V (155 + 7 * i + 3) else if V (155 + 7 * i) = 3 then -V (155 + 7 * i + 3) else 0)
abbrev kIn (V : Nat → Int32) (w f l : Int32) (i : Nat) : Prop := V (155 + 7 * i + 1) = w ∧ f.toInt ≤ (V (155 + 7 * i + 2)).toInt ∧ (V (155 + 7 * i + 2)).toInt ≤ l.toInt
def kSum (V A : Nat → Int32) (ne : Nat) (w f l what : Int32) : Int32 := sI (fun i => if kIn V w f l i then kPart V A what i else 0) ne
/-- what an entry is worth of money and out -/
def kEst (V A : Nat → Int32) (i : Nat) : Int32 := if V (155 + 7 * i) = 0 then V (155 + 7 * i + 3) else if V (155 + 7 * i) = 1 then -A i else 0
def kWorth (V A : Nat → Int32) (i : Nat) : Int32 := kEst V A i - kPart V A 4 i
def kBr (V : Nat → Int32) (w : Nat) (y : Nat) : Int32 := if nI y < V (7 + 37 * w + 15) then V (7 + 37 * w + 16 + y) - V (7 + 37 * w + 26 + y) else 0
def kBrS (V : Nat → Int32) (w : Nat) (day : Int32) : Int32 := sI (kBr V w) (day.toInt / 360).toNat
def kEstOn (V A : Nat → Int32) (ne w : Nat) (day : Int32) : Int32 := kBrS V w day + sI (fun i => if V (155 + 7 * i + 1) = nI w ∧ (V (155 + 7 * i + 2)).toInt ≤ day.toInt then kEst V A i else 0) ne
def kOutOn (V A : Nat → Int32) (ne w : Nat) (day : Int32) : Int32 := kSum V A ne (nI w) 0 day 4
def kMoneyOn (V A : Nat → Int32) (ne w : Nat) (day : Int32) : Int32 := kEstOn V A ne w day - kOutOn V A ne w day
def gTil (V : Nat → Int32) (w : Nat) (day : Int32) : Nat → Int32
  | 0 => V (7 + 37 * w + 1)
  | k + 1 => if (V (7 + 37 * w + 3 + 2 * k)).toInt ≤ day.toInt then V (7 + 37 * w + 3 + 2 * k + 1) else gTil V w day k
def kGuard (V : Nat → Int32) (w : Nat) (day : Int32) : Int32 := gTil V w day (V (7 + 37 * w + 2)).toInt.toNat
/-- the class's book is read by V and A -/
def Bk (M : xM) (V A : Nat → Int32) (ng nw ne no : Nat) : Prop := WF V ng nw ne no ∧ CV M V ng nw ne no ∧ ∀ i, i < ne → V (155 + 7 * i) = 1 → M (45 + i) 8 = A i
theorem i0 : (0 : Int32).toInt = 0 := by decide
theorem i1 : (1 : Int32).toInt = 1 := by decide
theorem WF.e {V : Nat → Int32} {ng nw ne no i : Nat} (h : WF V ng nw ne no) (hi : i < ne) : (∃ s, s < 4 ∧ V (155 + 7 * i) = nI s) ∧ (∃ w, w < nw ∧ V (155 + 7 * i + 1) = nI w) ∧ dayP (V (155 + 7 * i + 2)) ∧ amtP (V (155 + 7 * i + 3)) ∧ (V (155 + 7 * i + 6) = 0 ∨ V (155 + 7 * i + 6) = 1) ∧
    (V (155 + 7 * i) = 1 → (∃ k, k < 4 ∧ V (155 + 7 * i + 4) = nI k) ∧ ∃ c, c ≤ 999 ∧ V (155 + 7 * i + 5) = nI c) ∧ (¬ V (155 + 7 * i) = 1 → V (155 + 7 * i + 5) = -1) := h.2.2.2.2.2.2.2.2.2.2.1 i hi
theorem WF.o {V : Nat → Int32} {ng nw ne no o : Nat} (h : WF V ng nw ne no) (ho : o < no) : (∃ w, w < nw ∧ V (435 + 5 * o) = nI w) ∧ (∃ k, k < 2 ∧ V (435 + 5 * o + 1) = nI k) ∧ dayP (V (435 + 5 * o + 2)) ∧ dayP (V (435 + 5 * o + 3)) ∧ (V (435 + 5 * o + 2)).toInt ≤ (V (435 + 5 * o + 3)).toInt ∧ amtP (V (435 + 5 * o + 4)) := h.2.2.2.2.2.2.2.2.2.2.2 o ho
theorem WF.w {V : Nat → Int32} {ng nw ne no w : Nat} (h : WF V ng nw ne no) (hw : w < nw) : (-9000 ≤ (V (7 + 37 * w)).toInt ∧ (V (7 + 37 * w)).toInt < 3600) ∧ (∃ g, g < ng ∧ V (7 + 37 * w + 1) = nI g) ∧
    (∃ ch, ch ≤ 6 ∧ V (7 + 37 * w + 2) = nI ch ∧ (∀ i, i < ch → dayP (V (7 + 37 * w + 3 + 2 * i)) ∧ ∃ g, g < ng ∧ V (7 + 37 * w + 3 + 2 * i + 1) = nI g) ∧ ∀ i, i + 1 < ch → (V (7 + 37 * w + 3 + 2 * i)).toInt ≤ (V (7 + 37 * w + 3 + 2 * (i + 1))).toInt) ∧
    (∃ cl, cl ≤ 10 ∧ V (7 + 37 * w + 15) = nI cl ∧ ∀ y, y < cl → (0 ≤ (V (7 + 37 * w + 16 + y)).toInt ∧ (V (7 + 37 * w + 16 + y)).toInt ≤ TB y / 5) ∧ 0 ≤ (V (7 + 37 * w + 26 + y)).toInt ∧ (V (7 + 37 * w + 26 + y)).toInt ≤ 399996) ∧ (V (7 + 37 * w + 36) = 0 ∨ V (7 + 37 * w + 36) = 1) := h.2.2.2.2.2.2.2.2.2.1 w hw
theorem WF.c {V : Nat → Int32} {ng nw ne no : Nat} (h : WF V ng nw ne no) : V 0 = nI ng ∧ V 1 = nI nw ∧ V 2 = nI ne ∧ V 3 = nI no ∧ ∀ g, g < ng → bndP (V (4 + g)) := ⟨h.2.2.2.2.1, h.2.2.2.2.2.1, h.2.2.2.2.2.2.1, h.2.2.2.2.2.2.2.1, h.2.2.2.2.2.2.2.2.1⟩
theorem WF.fo {V : Nat → Int32} {ng nw ne no : Nat} (h : WF V ng nw ne no) : ∀ o, o < no → WFo V o := fun o ho => (h.o ho).2.2
theorem WF.fe {V : Nat → Int32} {ng nw ne no : Nat} (h : WF V ng nw ne no) : ∀ i, i < ne → WFe V i := fun i hi => ⟨(h.e hi).2.2.1, (h.e hi).2.2.2.1⟩
theorem WF.fp {V : Nat → Int32} {ng nw ne no : Nat} (h : WF V ng nw ne no) : ∀ i, i < ne → WFp V nw i := fun i hi => ⟨(h.e hi).2.1, (h.e hi).2.2.1, (h.e hi).2.2.2.1, (h.e hi).2.2.2.2.1, fun q => ((h.e hi).2.2.2.2.2.1 q).1⟩
theorem WF.fw {V : Nat → Int32} {ng nw ne no : Nat} (h : WF V ng nw ne no) : ∀ o, o < no → (∃ w, w < nw ∧ V (435 + 5 * o) = nI w) ∧ (∃ k, k < 2 ∧ V (435 + 5 * o + 1) = nI k) := fun o ho => ⟨(h.o ho).1, (h.o ho).2.1⟩
theorem clN {n : Nat} (h : n < 2 ^ 31) : (nI n).toNatClampNeg = n := nI_clamp h
/-! the class reads -/
theorem c_hasWard {M : xM} {nw : Nat} (hn : nw ≤ 4) (h : M 17 3 = nI nw) (w : Int32) : f_X1_hasWard M w = some (pI (wP nw w)) := by
  simp only [f_X1_hasWard, b_X1_hasWard_0, b_X1_hasWard_16, b_X1_hasWard_17, gz0, gz1, i_lt, i_le, h, i0, nI_toInt (n := nw) (by omega)]
  unfold pI wP
  split <;> (try split) <;> (try split) <;> (first | rfl | omega)
theorem c_hasGuardian {M : xM} {ng : Nat} (hn : ng ≤ 3) (h : M 17 1 = nI ng) (w : Int32) : f_X1_hasGuardian M w = some (pI (wP ng w)) := by
  simp only [f_X1_hasGuardian, b_X1_hasGuardian_0, b_X1_hasGuardian_16, b_X1_hasGuardian_17, gz0, gz1, i_lt, i_le, h, i0, nI_toInt (n := ng) (by omega)]
  unfold pI wP
  split <;> (try split) <;> (try split) <;> (first | rfl | omega)
theorem m_in0 (N : xM) {n : Nat} (hn : n ≤ 1000) (v : Int32) (h : Int32) (e : h = nI n) : f_X11_in N v.toInt64 0 (h - 1).toInt64 = some (pI (wP n v)) := by
  have e1 : (h - 1).toInt = (n : Int) - 1 := by
    rw [e, i_sub (by rw [nI_toInt (by omega), i1]; omega) (by rw [nI_toInt (by omega), i1]; omega), nI_toInt (by omega), i1]
  rw [m_in, i_l, i_l, e1]
  apply congrArg some
  have l0 : (0 : Int64).toInt = 0 := by decide
  exact b01 _ _ ⟨fun q => ⟨by rw [l0] at q; exact q.1, by omega⟩, fun q => ⟨by rw [l0]; exact q.1, by have := q.2; omega⟩⟩
theorem m_isWard {N : xM} {nw : Nat} (hn : nw ≤ 4) (h : N 4 1 = nI nw) (w : Int32) : f_X11_isWard N w = some (pI (wP nw w)) := by
  simp only [f_X11_isWard, b_X11_isWard_0]
  rw [gd_d (by decide) (by decide), cl1, m_in0 N (by omega) w _ h, bd_s, gz_p]
theorem m_isGuardian {N : xM} {ng : Nat} (hn : ng ≤ 3) (h : N 4 0 = nI ng) (w : Int32) : f_X11_isGuardian N w = some (pI (wP ng w)) := by
  simp only [f_X11_isGuardian, b_X11_isGuardian_0]
  rw [gd_d (by decide) (by decide), cl0, m_in0 N (by omega) w _ h, bd_s, gz_p]
theorem m_isYear (N : xM) (d : Int32) : f_X11_isYear N d = some (pI (yearP d)) := by
  simp only [f_X11_isYear, b_X11_isYear_0, m_in, bd_s, gz_p, i_l]
  have e0 : (0 : Int64).toInt = 0 := by decide
  have e1 : (9 : Int64).toInt = 9 := by decide
  rw [e0, e1]
  congr 1
  exact b01 _ _ ⟨fun q => ⟨q.1, by omega⟩, fun q => ⟨q.1, by have := q.2; omega⟩⟩
abbrev payP (V : Nat → Int32) (ne : Nat) (e : Int32) : Prop := wP ne e ∧ V (155 + 7 * e.toInt.toNat) = 1
theorem c_isPayment {M : xM} {V : Nat → Int32} {ng nw ne no : Nat} (hn : ne ≤ 40) (h : CV M V ng nw ne no) (e : Int32) : f_X1_isPayment M e = some (pI (payP V ne e)) := by
  simp only [f_X1_isPayment, b_X1_isPayment_0, b_X1_isPayment_29, b_X1_isPayment_30, gz0, gz1, i_lt, i_le, h.2.2.1, i0, nI_toInt (n := ne) (by omega)]
  by_cases c : wP ne e
  · obtain ⟨j, hj, rfl⟩ := wP_of (by omega) c
    have t : (nI j).toInt = (j : Int) := nI_toInt (by omega)
    rw [if_neg (by omega), if_neg (by omega), gd_n (by omega) (by decide), clN (by omega), (h.e hj).1]
    have t2 : (nI j).toInt.toNat = j := by omega
    by_cases c2 : V (155 + 7 * j) = 1
    · rw [if_pos c2, pI_t ⟨c, by rw [t2]; exact c2⟩]
    · rw [if_neg c2, pI_f (fun z => c2 (by have := z.2; rw [t2] at this; exact this))]
  · rw [pI_f (fun z => c z.1)]
    unfold wP at c
    by_cases c1 : e.toInt < 0
    · rw [if_pos c1]
    · rw [if_neg c1, if_pos (by omega)]
theorem m_isPayment {N : xM} {ne : Nat} (hn : ne ≤ 40) (h : N 4 2 = nI ne) (e : Int32) : f_X11_isPayment N e = some (pI (payP (N 4) ne e)) := by
  simp only [f_X11_isPayment, b_X11_isPayment_0, b_X11_isPayment_32, b_X11_isPayment_33, gz0, gz1]
  rw [gd_d (by decide) (by decide), cl2, m_in0 N (by omega) e _ h, bd_s]
  by_cases c : wP ne e
  · rw [fp_t c]
    obtain ⟨j, hj, rfl⟩ := wP_of (by omega) c
    have t : (nI j).toInt = (j : Int) := nI_toInt (by omega)
    have t2 : (nI j).toInt.toNat = j := by omega
    rw [m_e0 N (by omega), bd_s]
    by_cases c2 : N 4 (155 + 7 * j) = 1
    · rw [if_pos c2, pI_t ⟨c, by rw [t2]; exact c2⟩]
    · rw [if_neg c2, pI_f (fun z => c2 (by have := z.2; rw [t2] at this; exact this))]
  · rw [fp_f c, pI_f (fun z => c z.1)]
theorem c_part {M : xM} {V A : Nat → Int32} {ng nw ne no i : Nat} (h : Bk M V A ng nw ne no) (hi : i < ne) (what : Int32) : f_X2_part M (45 + i) what = some (kPart V A what i) := by
  obtain ⟨e0, -, -, e3, -⟩ := h.2.1.e hi
  have ha := h.2.2 i hi
  simp only [f_X2_part, b_X2_part_0, b_X2_part_43, b_X2_part_60, b_X2_part_82, b_X2_part_115, e0, e3]
  unfold kPart
  by_cases c1 : what = 1
  · rw [if_pos c1, if_pos c1]; split <;> rfl
  rw [if_neg c1, if_neg c1]
  by_cases c2 : what = 2
  · rw [if_pos c2, if_pos c2]
    by_cases c : V (155 + 7 * i) = 1
    · rw [if_pos c, if_pos c, ha c]
    · rw [if_neg c, if_neg c]
  rw [if_neg c2, if_neg c2]
  by_cases c3 : what = 3
  · rw [if_pos c3, if_pos c3]
    by_cases c : V (155 + 7 * i) = 1
    · rw [if_pos c, if_pos c, ha c]
    · rw [if_neg c, if_neg c]
  rw [if_neg c3, if_neg c3]
  split
  · rfl
  · split <;> rfl
theorem c_effectOnEstate {M : xM} {V A : Nat → Int32} {ng nw ne no i : Nat} (h : Bk M V A ng nw ne no) (hi : i < ne) : f_X2_effectOnEstate M (45 + i) = some (kEst V A i) := by
  obtain ⟨e0, -, -, e3, -⟩ := h.2.1.e hi
  have ha := h.2.2 i hi
  simp only [f_X2_effectOnEstate, b_X2_effectOnEstate_0, b_X2_effectOnEstate_31, e0, e3]
  unfold kEst
  by_cases c1 : V (155 + 7 * i) = 0
  · rw [if_pos c1, if_pos c1]
  rw [if_neg c1, if_neg c1]
  by_cases c2 : V (155 + 7 * i) = 1
  · rw [if_pos c2, if_pos c2, ha c2]
  · rw [if_neg c2, if_neg c2]
theorem c_effectOnMoney {M : xM} {V A : Nat → Int32} {ng nw ne no i : Nat} (h : Bk M V A ng nw ne no) (hi : i < ne) : f_X2_effectOnMoney M (45 + i) = some (kWorth V A i) := by
  simp only [f_X2_effectOnMoney, b_X2_effectOnMoney_0, c_effectOnEstate h hi, c_part h hi, bd_s]
  rfl
theorem Bk.ne {M : xM} {V A : Nat → Int32} {ng nw ne no : Nat} (h : Bk M V A ng nw ne no) : M 17 5 = nI ne ∧ ne ≤ 40 := ⟨h.2.1.2.2.1, h.1.bd.2.2.1⟩
theorem c_partOf {M : xM} {V A : Nat → Int32} {ng nw ne no : Nat} (h : Bk M V A ng nw ne no) (w f l what : Int32) : f_X1_partOf M w f l what = some (kSum V A ne w f l what) := by
  obtain ⟨hc, hne⟩ := h.ne
  simp only [f_X1_partOf, b_X1_partOf_0, b_X1_partOf_6]
  rw [accN (fun i => if kIn V w f l i then kPart V A what i else 0) ne 0 (by omega) ?_ ?_, bd_s, Int32.zero_add]
  · rfl
  · intro i x hi
    obtain ⟨-, e1, e2, -⟩ := h.2.1.e hi
    simp only [bl_X1_partOf_6, b_X1_partOf_63, lt_d, nI_1]
    rw [hc, if_neg (nI_ge hi (by omega)), gd_n (by omega) (by decide), clN (by omega), e1, e2]
    unfold kIn
    by_cases c1 : V (155 + 7 * i + 1) = w
    · rw [if_pos c1]
      by_cases c2 : V (155 + 7 * i + 2) < f
      · rw [if_pos c2, if_neg (fun z => by rw [i_lt] at c2; omega), Int32.add_zero]
      · rw [if_neg c2]
        by_cases c3 : l < V (155 + 7 * i + 2)
        · rw [if_pos c3, if_neg (fun z => by rw [i_lt] at c3; omega), Int32.add_zero]
        · rw [i_lt] at c2
          rw [if_neg c3, c_part h hi, bd_s, if_pos (by rw [i_lt] at c3; exact ⟨c1, by omega, by omega⟩)]
    · rw [if_neg c1, if_neg (fun z => c1 z.1), Int32.add_zero]
  · intro x
    simp only [bl_X1_partOf_6]
    rw [hc, if_pos (nI_le (Nat.le_refl ne) (by omega))]
theorem c_outOn {M : xM} {V A : Nat → Int32} {ng nw ne no : Nat} (h : Bk M V A ng nw ne no) (w : Nat) (day : Int32) : f_X1_outOn M (nI w) day = some (kOutOn V A ne w day) := by
  simp only [f_X1_outOn, b_X1_outOn_0, c_partOf h, bd_s]
  rfl
theorem Bk.w {M : xM} {V A : Nat → Int32} {ng nw ne no w : Nat} (h : Bk M V A ng nw ne no) (hw : w < nw) : M (25 + 5 * w) 0 = V (7 + 37 * w) ∧ M (25 + 5 * w) 1 = V (7 + 37 * w + 1) ∧ M (25 + 5 * w) 2 = V (7 + 37 * w + 2) ∧ M (25 + 5 * w) 5 = V (7 + 37 * w + 15) ∧ M (25 + 5 * w) 6 = V (7 + 37 * w + 36) ∧
    (∀ i, nI i < V (7 + 37 * w + 2) → i < 6 → M (26 + 5 * w) i = V (7 + 37 * w + 3 + 2 * i) ∧ M (27 + 5 * w) i = V (7 + 37 * w + 3 + 2 * i + 1)) ∧
    (∀ y, nI y < V (7 + 37 * w + 15) → y < 10 → M (28 + 5 * w) y = V (7 + 37 * w + 16 + y) ∧ M (29 + 5 * w) y = V (7 + 37 * w + 26 + y)) := h.2.1.2.2.2.2.2.1 w hw
theorem nI_lt' {a b : Nat} (h : a < b) (hb : b < 2 ^ 31) : nI a < nI b := by
  rw [i_lt, nI_toInt (by omega), nI_toInt hb]; omega
theorem nI_nl {a b : Nat} (h : ¬ a < b) (ha : a < 2 ^ 31) : ¬ nI a < nI b := by
  rw [i_lt, nI_toInt (by omega), nI_toInt (by omega)]; omega
theorem c_broughtAheadOf {M : xM} {V A : Nat → Int32} {ng nw ne no w : Nat} (h : Bk M V A ng nw ne no) (hw : w < nw) {day : Int32} (hd : dayP day) : f_X8_broughtAheadOf M (25 + 5 * w) day = some (kBrS V w day) := by
  obtain ⟨-, -, -, b3, -, -, b6⟩ := h.w hw
  obtain ⟨-, -, -, ⟨cl, hcl, v3, -⟩, -⟩ := h.1.w hw
  simp only [f_X8_broughtAheadOf, b_X8_broughtAheadOf_0, b_X8_broughtAheadOf_4]
  have hh : ∀ i, i < cl → ∀ x, bl_X8_broughtAheadOf_4 M (25 + 5 * w) day x (nI i) = if day.toInt < (i + 1) * 360 then some (.inr x) else some (.inl (x + kBr V w i, nI (i + 1))) := by
    intro i hi x
    obtain ⟨q1, q2⟩ := b6 i (by rw [v3]; exact nI_lt' hi (by omega)) (by omega)
    simp only [bl_X8_broughtAheadOf_4, lt_d, nI_1, y360]
    rw [b3, v3, if_neg (nI_ge hi (by omega)), gd_n (by omega) (by decide), gd_n (by omega) (by decide), clN (by omega)]
    have e : (day < nI (360 * (i + 1))) ↔ day.toInt < (i + 1) * 360 := by rw [i_lt, nI_toInt (by omega)]; omega
    by_cases c : day.toInt < (i + 1) * 360
    · rw [if_pos (e.mpr c), if_pos c]
    · rw [if_neg (fun z => c (e.mp z)), if_neg c]
      rw [show 25 + 5 * w + 3 = 28 + 5 * w by omega, show 25 + 5 * w + 4 = 29 + 5 * w by omega, q1, q2]
      unfold kBr
      rw [v3, if_pos (nI_lt' hi (by omega))]
  have hd1 := hd.1
  have hd2 := hd.2
  have key : ∀ m, m ≤ cl → m ≤ (day.toInt / 360).toNat → (m = cl ∨ m = (day.toInt / 360).toNat) → kBrS V w day = sI (kBr V w) m ∧ bl_X8_broughtAheadOf_4 M (25 + 5 * w) day (0 + sI (kBr V w) m) (nI m) = some (.inr (0 + sI (kBr V w) m)) := by
    intro m h1 h2 h3
    constructor
    · refine sI_ext h2 (fun i a b => ?_)
      unfold kBr
      rw [v3, if_neg (nI_nl (by omega) (by omega))]
    · by_cases c : m = cl
      · simp only [bl_X8_broughtAheadOf_4]
        rw [b3, v3, if_pos (nI_le (by omega) (by omega))]
      · rw [hh m (by omega), if_pos (by omega)]
  obtain ⟨m, h1, h2, h3⟩ : ∃ m, m ≤ cl ∧ m ≤ (day.toInt / 360).toNat ∧ (m = cl ∨ m = (day.toInt / 360).toNat) := ⟨min cl (day.toInt / 360).toNat, by omega, by omega, by omega⟩
  obtain ⟨k1, k2⟩ := key m h1 h2 h3
  have hl := loopN_up (body := fun s : Int32 × Int32 => bl_X8_broughtAheadOf_4 M (25 + 5 * w) day s.1 s.2) (r := 0 + sI (kBr V w) m)
    (fun k => (0 + sI (kBr V w) k, nI k)) m (fun i hi => by
      dsimp only
      rw [hh i (by omega), if_neg (by omega), sI, Int32.add_assoc]) k2 BG (BG_lt (by omega))
  have e : (0 + sI (kBr V w) 0, nI 0) = ((0 : Int32), (0 : Int32)) := rfl
  rw [e] at hl
  rw [hl, bd_s, b_X8_broughtAheadOf_45, k1, Int32.zero_add]
theorem c_estateOn {M : xM} {V A : Nat → Int32} {ng nw ne no w : Nat} (h : Bk M V A ng nw ne no) (hw : w < nw) {day : Int32} (hd : dayP day) : f_X1_estateOn M (nI w) day = some (kEstOn V A ne w day) := by
  obtain ⟨hc, hne⟩ := h.ne
  have hb := h.1.bd
  simp only [f_X1_estateOn, b_X1_estateOn_0, b_X1_estateOn_14]
  rw [gd_n (by omega) (by decide), clN (by omega), c_broughtAheadOf h hw hd, bd_s]
  rw [accN (fun i => if V (155 + 7 * i + 1) = nI w ∧ (V (155 + 7 * i + 2)).toInt ≤ day.toInt then kEst V A i else 0) ne _ (by omega) ?_ ?_, bd_s]
  · rfl
  · intro i x hi
    obtain ⟨-, e1, e2, -⟩ := h.2.1.e hi
    simp only [bl_X1_estateOn_14, b_X1_estateOn_64, lt_d, nI_1]
    rw [hc, if_neg (nI_ge hi (by omega)), gd_n (by omega) (by decide), gd_n (by omega) (by decide), gd_n (by omega) (by decide), clN (by omega), e1, e2]
    by_cases c1 : V (155 + 7 * i + 1) = nI w
    · rw [if_pos c1]
      by_cases c2 : day < V (155 + 7 * i + 2)
      · rw [if_pos c2, if_neg (fun z => by rw [i_lt] at c2; omega), Int32.add_zero]
      · rw [if_neg c2, c_effectOnEstate h hi, bd_s, if_pos (by rw [i_lt] at c2; exact ⟨c1, by omega⟩)]
    · rw [if_neg c1, if_neg (fun z => c1 z.1), Int32.add_zero]
  · intro x
    simp only [bl_X1_estateOn_14]
    rw [hc, if_pos (nI_le (Nat.le_refl ne) (by omega))]
theorem c_moneyOn {M : xM} {V A : Nat → Int32} {ng nw ne no w : Nat} (h : Bk M V A ng nw ne no) (hw : w < nw) {day : Int32} (hd : dayP day) : f_X1_moneyOn M (nI w) day = some (kMoneyOn V A ne w day) := by
  simp only [f_X1_moneyOn, b_X1_moneyOn_0, c_estateOn h hw hd, c_outOn h, bd_s]
  rfl
theorem c_broughtBy {M : xM} {V A : Nat → Int32} {ng nw ne no w y : Nat} (h : Bk M V A ng nw ne no) (hw : w < nw) (hy : y < 10) : f_X8_broughtBy M (25 + 5 * w) (nI y) = some (kBr V w y) := by
  obtain ⟨-, -, -, b3, -, -, b6⟩ := h.w hw
  obtain ⟨-, -, -, ⟨cl, hcl, v3, -⟩, -⟩ := h.1.w hw
  simp only [f_X8_broughtBy, b_X8_broughtBy_0, b_X8_broughtBy_28, b_X8_broughtBy_29]
  rw [if_neg (by rw [i_lt, nI_toInt (by omega), i0]; omega), b3, v3]
  unfold kBr
  rw [v3]
  by_cases c : y < cl
  · obtain ⟨q1, q2⟩ := b6 y (by rw [v3]; exact nI_lt' c (by omega)) (by omega)
    rw [if_neg (nI_ge c (by omega)), gd_n (by omega) (by decide), gd_n (by omega) (by decide), clN (by omega), if_pos (nI_lt' c (by omega))]
    rw [show 25 + 5 * w + 3 = 28 + 5 * w by omega, show 25 + 5 * w + 4 = 29 + 5 * w by omega, q1, q2]
  · rw [if_pos (nI_le (by omega) (by omega)), if_neg (nI_nl c (by omega))]
theorem gTil_stop {V : Nat → Int32} {w : Nat} {day : Int32} {ch m : Nat} (hs : ∀ i, i + 1 < ch → (V (7 + 37 * w + 3 + 2 * i)).toInt ≤ (V (7 + 37 * w + 3 + 2 * (i + 1))).toInt) (hm : m ≤ ch) (hg : m < ch → day.toInt < (V (7 + 37 * w + 3 + 2 * m)).toInt) : gTil V w day ch = gTil V w day m := by
  have later : ∀ k, m + k < ch → day.toInt < (V (7 + 37 * w + 3 + 2 * (m + k))).toInt := by
    intro k
    induction k with
    | zero => intro h; exact hg h
    | succ k ih =>
      intro h
      have := hs (m + k) (by omega)
      have := ih (by omega)
      have e : m + (k + 1) = m + k + 1 := by omega
      rw [e]; omega
  have all : ∀ k, m + k ≤ ch → gTil V w day (m + k) = gTil V w day m := by
    intro k
    induction k with
    | zero => intro _; rfl
    | succ k ih =>
      intro h
      have := later k (by omega)
      show (if (V (7 + 37 * w + 3 + 2 * (m + k))).toInt ≤ day.toInt then _ else gTil V w day (m + k)) = _
      rw [if_neg (by omega), ih (by omega)]
  have := all (ch - m) (by omega)
  rw [show m + (ch - m) = ch by omega] at this
  exact this
theorem c_guardianOn {M : xM} {V A : Nat → Int32} {ng nw ne no w : Nat} (h : Bk M V A ng nw ne no) (hw : w < nw) (day : Int32) : f_X8_guardianOn M (25 + 5 * w) day = some (kGuard V w day) := by
  obtain ⟨-, b1, b2, -, -, b5, -⟩ := h.w hw
  obtain ⟨-, -, ⟨ch, hch, v2, -, hs⟩, -⟩ := h.1.w hw
  unfold kGuard
  rw [v2, nI_toInt (by omega), Int.toNat_natCast]
  simp only [f_X8_guardianOn, b_X8_guardianOn_0, b_X8_guardianOn_7, lt_d]
  have hh : ∀ i, i < ch → ∀ x, bl_X8_guardianOn_7 M (25 + 5 * w) day x (nI i) = if day.toInt < (V (7 + 37 * w + 3 + 2 * i)).toInt then some (.inr x) else some (.inl (V (7 + 37 * w + 3 + 2 * i + 1), nI (i + 1))) := by
    intro i hi x
    obtain ⟨q1, q2⟩ := b5 i (by rw [v2]; exact nI_lt' hi (by omega)) (by omega)
    simp only [bl_X8_guardianOn_7, lt_d, nI_1]
    rw [b2, v2, if_neg (nI_ge hi (by omega)), gd_n (by omega) (by decide), gd_n (by omega) (by decide), clN (by omega)]
    rw [show 25 + 5 * w + 1 = 26 + 5 * w by omega, show 25 + 5 * w + 2 = 27 + 5 * w by omega, q1, q2]
    by_cases c : day.toInt < (V (7 + 37 * w + 3 + 2 * i)).toInt
    · rw [if_pos ((i_lt _ _).mpr c), if_pos c]
    · rw [if_neg (fun z => c ((i_lt _ _).mp z)), if_neg c]
  -- where it stops
  have ex : ∀ n, n ≤ ch → ∃ m, m ≤ n ∧ (∀ i, i < m → ¬ day.toInt < (V (7 + 37 * w + 3 + 2 * i)).toInt) ∧ (m < n → day.toInt < (V (7 + 37 * w + 3 + 2 * m)).toInt) := by
    intro n
    induction n with
    | zero => intro _; exact ⟨0, Nat.le_refl 0, fun i hi => absurd hi (Nat.not_lt_zero i), fun z => absurd z (Nat.lt_irrefl 0)⟩
    | succ n ih =>
      intro hn
      obtain ⟨m, h1, h2, h3⟩ := ih (by omega)
      by_cases e : m < n
      · exact ⟨m, by omega, h2, fun _ => h3 e⟩
      · by_cases c : day.toInt < (V (7 + 37 * w + 3 + 2 * n)).toInt
        · exact ⟨n, by omega, fun i hi => h2 i (by omega), fun _ => c⟩
        · refine ⟨n + 1, by omega, fun i hi => ?_, fun z => by omega⟩
          by_cases e2 : i < m
          · exact h2 i e2
          · rw [show i = n by omega]; exact c
  obtain ⟨m, h1, h2, h3⟩ := ex ch (Nat.le_refl ch)
  rw [gTil_stop hs h1 h3]
  have hl := loopN_up (body := fun s : Int32 × Int32 => bl_X8_guardianOn_7 M (25 + 5 * w) day s.1 s.2) (r := gTil V w day m)
    (fun k => (gTil V w day k, nI k)) m (fun i hi => by
      dsimp only
      rw [hh i (by omega), if_neg (h2 i hi)]
      simp only [gTil]
      rw [if_pos (show (V (7 + 37 * w + 3 + 2 * i)).toInt ≤ day.toInt by have := h2 i hi; omega)]) (by
      dsimp only
      by_cases c : m = ch
      · simp only [bl_X8_guardianOn_7]
        rw [b2, v2, if_pos (nI_le (by omega) (by omega))]
      · rw [hh m (by omega), if_pos (h3 (by omega))]) BG (BG_lt (by omega))
  rw [b1]
  have e : (gTil V w day 0, nI 0) = (V (7 + 37 * w + 1), (0 : Int32)) := rfl
  rw [e] at hl
  rw [hl, bd_s]
  rfl
