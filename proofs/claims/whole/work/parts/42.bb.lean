/-! class and reference side by side -/
def kA (V : Nat → Int32) (sm : Int) (ne no : Nat) : Nat → Int32 := fun i => if V (155 + 7 * i) = 1 then oI (kAlw V sm ne no i) else 0
def BB (M N : xM) (V A : Nat → Int32) (ng nw ne no : Nat) : Prop := N 4 = V ∧ A = kA V (N 3 1).toInt ne no ∧ Bk M V A ng nw ne no ∧ ∀ k, k < 7 → M 18 k = N 3 k ∧ (fLo k).toInt ≤ (N 3 k).toInt ∧ (N 3 k).toInt ≤ (fHi k).toInt
theorem BB.sn {M N N1 : xM} {V A : Nat → Int32} {ng nw ne no : Nat} (h : BB M N V A ng nw ne no) (S : SameN N N1) : BB M N1 V A ng nw ne no := by
  obtain ⟨h1, h2, h3, h4⟩ := h
  obtain ⟨-, -, -, -, s5, s6, -⟩ := S
  exact ⟨by rw [s6]; exact h1, by rw [s5]; exact h2, h3, fun k hk => by rw [s5]; exact h4 k hk⟩
theorem BB.sm {M M1 N : xM} {V A : Nat → Int32} {ng nw ne no : Nat} (h : BB M N V A ng nw ne no) (S : SameM M M1) : BB M1 N V A ng nw ne no := by
  obtain ⟨h1, h2, ⟨w1, w2, w3⟩, h4⟩ := h
  refine ⟨h1, h2, ⟨w1, ?_, fun i hi hp => ?_⟩, fun k hk => ?_⟩
  · exact (RB.kp (b := 17) w2 w1.bd (fun k q1 q2 q3 q4 => S k (by omega) (by omega) (by omega) (by omega)) : RB M1 17 V ng nw ne no)
  · have := w1.bd
    rw [S _ (by omega) (by omega) (by omega) (by omega)]; exact w3 i hi hp
  · rw [S 18 (by omega) (by omega) (by omega) (by omega)]; exact h4 k hk
theorem Rel.bb {M N : xM} (h : Rel M N) : ∃ V A ng nw ne no, BB M N V A ng nw ne no := by
  obtain ⟨-, hr, -, -, ⟨ng, nw, ne, no, b1, b2, b3⟩, -⟩ := h
  refine ⟨N 4, _, ng, nw, ne, no, rfl, rfl, ⟨b1, b2, fun i hi hp => ?_⟩, hr⟩
  unfold kA
  rw [if_pos hp]
  exact oI_e (b3 i hi hp)
theorem BB.lays {M N : xM} {V A : Nat → Int32} {ng nw ne no : Nat} (h : BB M N V A ng nw ne no) : ∃ L, f_X11_lays N = some L ∧ SameN N L ∧ ∀ i, i < ne → L 8 i = A i := by
  obtain ⟨h1, h2, ⟨w1, -, -⟩, -⟩ := h
  subst h1
  have hb := w1.bd
  refine ⟨_, m_lays N w1.c.2.2.1 hb.2.2.1 w1.c.2.2.2.1 hb.2.2.2 w1.fo w1.fe, (SameN.rf N).wr 8 _ (by omega) _, fun i hi => ?_⟩
  rw [wr_at, if_pos hi, h2]
  rfl
theorem kPart_A {V A A' : Nat → Int32} {i : Nat} (h : A' i = A i) (what : Int32) : kPart V A' what i = kPart V A what i := by
  unfold kPart
  rw [h]
theorem kEst_A {V A A' : Nat → Int32} {i : Nat} (h : A' i = A i) : kEst V A' i = kEst V A i := by
  unfold kEst
  rw [h]
theorem kWorth_A {V A A' : Nat → Int32} {i : Nat} (h : A' i = A i) : kWorth V A' i = kWorth V A i := by
  unfold kWorth
  rw [kEst_A h, kPart_A h]
theorem kSum_A {V A A' : Nat → Int32} {ne : Nat} (h : ∀ i, i < ne → A' i = A i) (w f l what : Int32) : kSum V A' ne w f l what = kSum V A ne w f l what := by
  unfold kSum
  refine sI_congr (fun i hi => ?_)
  rw [kPart_A (h i hi)]
theorem kEstOn_A {V A A' : Nat → Int32} {ne : Nat} (h : ∀ i, i < ne → A' i = A i) (w : Nat) (day : Int32) : kEstOn V A' ne w day = kEstOn V A ne w day := by
  unfold kEstOn
  congr 1
  refine sI_congr (fun i hi => ?_)
  rw [kEst_A (h i hi)]
theorem kMoneyOn_A {V A A' : Nat → Int32} {ne : Nat} (h : ∀ i, i < ne → A' i = A i) (w : Nat) (day : Int32) : kMoneyOn V A' ne w day = kMoneyOn V A ne w day := by
  unfold kMoneyOn kOutOn
  rw [kEstOn_A h, kSum_A h]
section
variable {M N : xM} {V A : Nat → Int32} {ng nw ne no : Nat}
theorem BB.bd (h : BB M N V A ng nw ne no) : ng ≤ 3 ∧ nw ≤ 4 ∧ ne ≤ 40 ∧ no ≤ 12 := h.2.2.1.1.bd
theorem BB.wf (h : BB M N V A ng nw ne no) : WF V ng nw ne no := h.2.2.1.1
theorem BB.k (h : BB M N V A ng nw ne no) : Bk M V A ng nw ne no := h.2.2.1
theorem BB.wf4 (h : BB M N V A ng nw ne no) : WF (N 4) ng nw ne no := by rw [h.1]; exact h.wf
theorem BB.hW (h : BB M N V A ng nw ne no) (w : Int32) : f_X1_hasWard M w = some (pI (wP nw w)) := c_hasWard h.bd.2.1 h.k.2.1.2.1 w
theorem BB.hG (h : BB M N V A ng nw ne no) (w : Int32) : f_X1_hasGuardian M w = some (pI (wP ng w)) := c_hasGuardian h.bd.1 h.k.2.1.1 w
theorem BB.iW (h : BB M N V A ng nw ne no) (w : Int32) : f_X11_isWard N w = some (pI (wP nw w)) := m_isWard h.bd.2.1 h.wf4.c.2.1 w
theorem BB.iG (h : BB M N V A ng nw ne no) (w : Int32) : f_X11_isGuardian N w = some (pI (wP ng w)) := m_isGuardian h.bd.1 h.wf4.c.1 w
theorem BB.hP (h : BB M N V A ng nw ne no) (e : Int32) : f_X1_isPayment M e = some (pI (payP V ne e)) := c_isPayment h.bd.2.2.1 h.k.2.1 e
theorem BB.iP (h : BB M N V A ng nw ne no) (e : Int32) : f_X11_isPayment N e = some (pI (payP V ne e)) := by rw [← h.1]; exact m_isPayment h.bd.2.2.1 h.wf4.c.2.2.1 e
theorem BB.its (h : BB M N V A ng nw ne no) {w : Nat} (j : Int32) (hw : w < nw) (n : Nat) (hj : n < 37) (e : j = nI n) : f_X11_its N (nI w) j = some (V (7 + 37 * w + n)) := by
  have := h.bd
  rw [← h.1]; exact m_its' N j (by omega) n hj e
theorem BB.eOf (h : BB M N V A ng nw ne no) {i : Nat} (j : Int32) (hi : i < ne) (n : Nat) (hj : n < 7) (e : j = nI n) : f_X11_entryOf N (nI i) j = some (V (155 + 7 * i + n)) := by
  have := h.bd
  rw [← h.1, e]; exact m_eOf N (by omega) hj
theorem BB.rMoney (h : BB M N V A ng nw ne no) (hA : ∀ i, i < ne → N 8 i = A i) {w : Nat} (hw : w < nw) {day : Int32} (hd : dayP day) : f_X11_moneyOn N (nI w) day = some (kMoneyOn V A ne w day) := by
  rw [m_moneyOn h.wf4 hw hd, h.1, kMoneyOn_A hA]
theorem BB.rOut (h : BB M N V A ng nw ne no) (w : Nat) (day : Int32) : f_X11_outOn N (nI w) day = some (kOutOn V A ne w day) := by
  rw [m_outOn h.wf4 A, h.1]
theorem BB.rSum (h : BB M N V A ng nw ne no) (hA : ∀ i, i < ne → N 8 i = A i) (w f l what : Int32) (hw : what = 1 ∨ what = 2 ∨ what = 3 ∨ what = 4) : f_X11_sumOf N w f l what = some (kSum V A ne w f l what) := by
  rw [m_sumOf h.wf4 w f l what hw, h.1, kSum_A hA]
/-- receipts: what is allowed doesn't matter -/
theorem BB.rSum1 (h : BB M N V A ng nw ne no) (w f l : Int32) : f_X11_sumOf N w f l 1 = some (kSum V A ne w f l 1) := by
  rw [m_sumOf h.wf4 w f l 1 (Or.inl rfl), h.1]
  apply congrArg some
  unfold kSum
  refine sI_congr (fun i hi => ?_)
  unfold kPart
  rfl
theorem BB.rGuard (h : BB M N V A ng nw ne no) {w : Nat} (hw : w < nw) (day : Int32) : f_X11_guardianOf N (nI w) day = some (kGuard V w day) := by
  rw [m_guardianOf h.wf4 hw, h.1]
theorem BB.rBr (h : BB M N V A ng nw ne no) {w y : Nat} (hw : w < nw) (hy : y < 10) : f_X11_brought N (nI w) (nI y) = some (kBr V w y) := by
  rw [m_brought h.wf4 hw hy, h.1]
theorem BB.rWorth (h : BB M N V A ng nw ne no) (hA : ∀ i, i < ne → N 8 i = A i) {i : Nat} (hi : i < ne) : f_X11_worth N (nI i) = some (kWorth V A i) := by
  rw [m_worth h.wf4 hi, h.1, kWorth_A (hA i hi)]
theorem BB.rDis (h : BB M N V A ng nw ne no) (hA : ∀ i, i < ne → N 8 i = A i) {i : Nat} (hi : i < ne) : f_X11_disallowed N (nI i) = some (V (155 + 7 * i + 3) - A i) := by
  have := h.bd
  rw [m_disallowed (by omega), h.1, hA i hi]
theorem kAlw_bd {sm : Int} (h : WF V ng nw ne no) {i : Nat} (hi : i < ne) : 0 ≤ kAlw V sm ne no i ∧ kAlw V sm ne no i ≤ (V (155 + 7 * i + 3)).toInt := by
  have h1 := (h.e hi).2.2.2.1.1
  unfold kAlw
  split
  · omega
  · split
    · omega
    · constructor <;> omega
theorem BB.al (h : BB M N V A ng nw ne no) {i : Nat} (hi : i < ne) : 0 ≤ (A i).toInt ∧ (A i).toInt ≤ (V (155 + 7 * i + 3)).toInt := by
  obtain ⟨h1, h2⟩ := kAlw_bd (sm := (N 3 1).toInt) h.wf hi
  have h3 := (h.wf.e hi).2.2.2.1
  rw [h.2.1]
  unfold kA
  split
  · rw [oI_i (by omega) (by omega)]; exact ⟨h1, h2⟩
  · rw [i0]; omega
end
/-! how large -/
theorem sI_z {f : Nat → Int32} {B : Int} : ∀ {n : Nat}, (∀ i, i < n → -B ≤ (f i).toInt ∧ (f i).toInt ≤ B) → n * B < 2147483648 → 0 ≤ B → (sI f n).toInt = zS (fun i => (f i).toInt) n ∧ -(n * B) ≤ zS (fun i => (f i).toInt) n ∧ zS (fun i => (f i).toInt) n ≤ n * B
  | 0, _, _, _ => by
    refine ⟨rfl, ?_, ?_⟩ <;> simp [zS]
  | n + 1, h, hB, h0 => by
    have e : ((n + 1 : Nat) : Int) * B = n * B + B := by rw [Int.natCast_add, Int.add_mul]; simp
    obtain ⟨h1, h2, h3⟩ := sI_z (n := n) (fun i hi => h i (by omega)) (by omega) h0
    obtain ⟨h4, h5⟩ := h n (by omega)
    rw [sI, zS]
    refine ⟨?_, by omega, by omega⟩
    rw [i_add (by rw [h1]; omega) (by rw [h1]; omega), h1]
