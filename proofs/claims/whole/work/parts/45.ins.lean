/-! rows into which is put in order -/
def Bt (W W1 : xM) (r : Nat) : Prop := ∀ k, k ≠ r → W1 k = W k
theorem Bt.rf (W : xM) (r : Nat) : Bt W W r := fun _ _ => rfl
theorem Bt.tr {W W1 W2 : xM} {r : Nat} (h : Bt W W1 r) (g : Bt W1 W2 r) : Bt W W2 r := fun k hk => (g k hk).trans (h k hk)
theorem Bt.u {W W1 : xM} {r : Nat} (h : Bt W W1 r) (j : Nat) (v : Int32) : Bt W (uM W1 r j v) r := fun k hk => (uM_row _ _ _ _ hk).trans (h k hk)
theorem SameM.bt {M W W1 : xM} {r : Nat} (h : SameM M W) (g : Bt W W1 r) (hr : (3 ≤ r ∧ r ≤ 5) ∨ (11 ≤ r ∧ r ≤ 16) ∨ r = 23 ∨ r = 24) : SameM M W1 := fun k a b c d => by
  rw [g k (by omega)]; exact h k a b c d
theorem SameN.bt {N W W1 : xM} {r : Nat} (h : SameN N W) (g : Bt W W1 r) (hr : 8 ≤ r ∨ r = 2) : SameN N W1 := by
  obtain ⟨a1, a2, a3, a4, a5, a6, a7, a8, a9⟩ := h
  refine ⟨?_, ?_, ?_, ?_, ?_, ?_, ?_, ?_, ?_⟩
  · rw [g 0 (by omega)]; exact a1
  · rw [g 0 (by omega)]; exact a2
  · rw [g 0 (by omega)]; exact a3
  · rw [g 1 (by omega)]; exact a4
  · rw [g 3 (by omega)]; exact a5
  · rw [g 4 (by omega)]; exact a6
  · rw [g 5 (by omega)]; exact a7
  · rw [g 6 (by omega)]; exact a8
  · rw [g 7 (by omega)]; exact a9
def pIns (ah : Nat → Prop) [DecidablePred ah] (R : Nat → Nat) : Nat → Nat
  | 0 => 0
  | k + 1 => if ah (R k) then pIns ah R k else k + 1
theorem pIns_le (ah : Nat → Prop) [DecidablePred ah] (R : Nat → Nat) : ∀ n, pIns ah R n ≤ n
  | 0 => Nat.le_refl 0
  | k + 1 => by
    unfold pIns
    split
    · have := pIns_le ah R k; omega
    · omega
def insR (R : Nat → Nat) (p x : Nat) : Nat → Nat := fun q => if q < p then R q else if q = p then x else R (q - 1)
theorem insL {body : xM × Int32 → Option ((xM × Int32) ⊕ (xM × Int32))} (W : xM) (r n : Nat) (R : Nat → Nat) (ah : Nat → Prop) [DecidablePred ah] (hn : n < 1000)
    (hs : ∀ W1 k, Bt W W1 r → k < n → W1 r k = nI (R k) → body (W1, nI (k + 1)) = if ah (R k) then some (.inl (uM W1 r (k + 1) (nI (R k)), nI k)) else some (.inr (W1, nI (k + 1))))
    (h0 : ∀ W1, body (W1, nI 0) = some (.inr (W1, nI 0))) (hg : ∀ k, k < n → W r k = nI (R k)) :
    ∃ W1, loopN body BG (W, nI n) = some (W1, nI (pIns ah R n)) ∧ Bt W W1 r ∧ (∀ q, q < pIns ah R n → W1 r q = nI (R q)) ∧ ∀ q, pIns ah R n < q → q ≤ n → W1 r q = nI (R (q - 1)) := by
  have key : ∀ m fuel W2, m ≤ n → m < fuel → Bt W W2 r → (∀ k, k < m → W2 r k = nI (R k)) → (∀ q, m < q → q ≤ n → W2 r q = nI (R (q - 1))) →
      ∃ W1, loopN body fuel (W2, nI m) = some (W1, nI (pIns ah R m)) ∧ Bt W W1 r ∧ (∀ q, q < pIns ah R m → W1 r q = nI (R q)) ∧ ∀ q, pIns ah R m < q → q ≤ n → W1 r q = nI (R (q - 1)) := by
    intro m
    induction m with
    | zero =>
      intro fuel W2 _ hf hb _ h2
      obtain ⟨f, rfl⟩ : ∃ f, fuel = f + 1 := ⟨fuel - 1, by omega⟩
      exact ⟨W2, by rw [loopN, h0]; rfl, hb, fun q hq => absurd hq (Nat.not_lt_zero q), h2⟩
    | succ k ih =>
      intro fuel W2 hm hf hb h1 h2
      obtain ⟨f, rfl⟩ : ∃ f, fuel = f + 1 := ⟨fuel - 1, by omega⟩
      have hstep := hs W2 k hb (by omega) (h1 k (by omega))
      unfold pIns
      by_cases c : ah (R k)
      · rw [if_pos c] at hstep
        rw [if_pos c]
        obtain ⟨W1, g1, g2, g3, g4⟩ := ih f (uM W2 r (k + 1) (nI (R k))) (by omega) (by omega) (hb.u _ _) (fun j hj => by rw [uM_j _ _ _ _ (by omega)]; exact h1 j (by omega)) (fun q hq1 hq2 => by
          by_cases e : q = k + 1
          · subst e; rw [uM_s]; rfl
          · rw [uM_j _ _ _ _ e]; exact h2 q (by omega) hq2)
        exact ⟨W1, by rw [loopN, hstep]; exact g1, g2, g3, g4⟩
      · rw [if_neg c] at hstep
        rw [if_neg c]
        exact ⟨W2, by rw [loopN, hstep], hb, h1, h2⟩
  exact key n BG W (Nat.le_refl n) (BG_lt (by omega)) (Bt.rf W r) hg (fun q h1 h2 => by omega)
/-- what is put in, in order -/
def bR (P : Nat → Prop) [DecidablePred P] (pos : (Nat → Nat) → Nat → Nat → Nat) (f : Nat → Nat) : Nat → Nat × (Nat → Nat)
  | 0 => (0, fun _ => 0)
  | e + 1 => if P e then ((bR P pos f e).1 + 1, insR (bR P pos f e).2 (pos (bR P pos f e).2 (bR P pos f e).1 e) (f e)) else bR P pos f e
theorem bR_le (P : Nat → Prop) [DecidablePred P] (pos : (Nat → Nat) → Nat → Nat → Nat) (f : Nat → Nat) : ∀ e, (bR P pos f e).1 ≤ e
  | 0 => Nat.le_refl 0
  | e + 1 => by
    have := bR_le P pos f e
    unfold bR
    split
    · show (bR P pos f e).1 + 1 ≤ e + 1; omega
    · omega
theorem bR_mem (P : Nat → Prop) [DecidablePred P] (pos : (Nat → Nat) → Nat → Nat → Nat) (f : Nat → Nat) (hp : ∀ R n x, pos R n x ≤ n) : ∀ e q, q < (bR P pos f e).1 → ∃ i, i < e ∧ P i ∧ (bR P pos f e).2 q = f i
  | 0, q, h => absurd h (Nat.not_lt_zero q)
  | e + 1, q, h => by
    unfold bR at h ⊢
    by_cases c : P e
    · rw [if_pos c] at h ⊢
      have hpp := hp (bR P pos f e).2 (bR P pos f e).1 e
      generalize pos (bR P pos f e).2 (bR P pos f e).1 e = p at hpp
      have h' : q < (bR P pos f e).1 + 1 := h
      show ∃ i, i < e + 1 ∧ P i ∧ (if q < p then (bR P pos f e).2 q else if q = p then f e else (bR P pos f e).2 (q - 1)) = f i
      by_cases c1 : q < p
      · rw [if_pos c1]
        obtain ⟨i, a, b, d⟩ := bR_mem P pos f hp e q (by omega)
        exact ⟨i, by omega, b, d⟩
      by_cases c2 : q = p
      · rw [if_neg c1, if_pos c2]; exact ⟨e, by omega, c, rfl⟩
      · rw [if_neg c1, if_neg c2]
        obtain ⟨i, a, b, d⟩ := bR_mem P pos f hp e (q - 1) (by omega)
        exact ⟨i, by omega, b, d⟩
    · rw [if_neg c] at h ⊢
      obtain ⟨i, a, b, d⟩ := bR_mem P pos f hp e q h
      exact ⟨i, by omega, b, d⟩
/-- a row after one more was put in -/
theorem ins_row {W1 : xM} {r n p x : Nat} {R : Nat → Nat} (h1 : ∀ q, q < p → W1 r q = nI (R q)) (h2 : ∀ q, p < q → q ≤ n → W1 r q = nI (R (q - 1))) : ∀ q, q < n + 1 → uM W1 r p (nI x) r q = nI (insR R p x q) := by
  intro q hq
  unfold insR
  rw [uM_at]
  by_cases c1 : q < p
  · rw [if_neg (by omega), if_pos c1, h1 q c1]
  by_cases c2 : q = p
  · rw [if_pos ⟨rfl, c2⟩, if_neg c1, if_pos c2]
  · rw [if_neg (fun z => c2 z.2), if_neg c1, if_neg c2, h2 q (by omega) (by omega)]
/-- what is read of the row by a number -/
def kTold (n : Nat) (R : Nat → Nat) (k : Int32) : Int32 := if k = -1 then nI n else if 0 ≤ k.toInt ∧ k.toInt < n then nI (R k.toInt.toNat) else -1
theorem c_fromRow {M : xM} {n : Nat} {R : Nat → Nat} (hn : n ≤ 40) (h : ∀ q, q < n → M 16 q = nI (R q)) (k : Int32) : f_X10_fromRow M (nI n) k = some (kTold n R k) := by
  simp only [f_X10_fromRow, b_X10_fromRow_0, b_X10_fromRow_16, b_X10_fromRow_26]
  unfold kTold
  by_cases c : k = -1
  · rw [if_pos c, if_pos c]
  rw [if_neg c, if_neg c]
  by_cases c1 : k < 0
  · rw [if_pos c1, if_neg (fun z => by rw [i_lt, i0] at c1; omega)]
  rw [if_neg c1]
  rw [i_lt, i0] at c1
  obtain ⟨j, j1, rfl, j3⟩ := nI_of0 (a := k) (by omega)
  by_cases c2 : j < n
  · rw [if_pos (nI_lt' c2 (by omega)), gd_n (by omega) (by decide), clN (by omega), h j c2, if_pos (by omega), ← j3, Int.toNat_natCast]
  · rw [if_neg (nI_nl c2 (by omega)), if_neg (by omega)]
theorem wP_of' {n : Nat} (hn : n ≤ 1000) {w : Int32} (h : wP n w) : ∃ j, j < n ∧ w = nI j := by
  obtain ⟨j, h1, h2, h3⟩ := nI_of0 h.1
  refine ⟨j, ?_, h2⟩
  have := h.2
  omega
theorem m_told {N : xM} {n : Nat} {R : Nat → Nat} (hn : n ≤ 1000) (hc : N 0 25 = nI n) (h : ∀ q, q < n → N 13 q = nI (R q)) (k : Int32) : f_X11_told N k = some (kTold n R k) := by
  simp only [f_X11_told, b_X11_told_0, b_X11_told_38]
  unfold kTold
  rw [hc, m_in0 N hn k _ rfl, bd_s]
  by_cases c : k = -1
  · rw [if_pos c, if_pos c]
  rw [if_neg c, if_neg c]
  by_cases c1 : wP n k
  · rw [fp_t c1, if_pos c1]
    obtain ⟨j, hj, rfl⟩ := wP_of' hn c1
    rw [gd_n (by omega) (by decide), clN (by omega), h j hj, nI_toInt (by omega), Int.toNat_natCast]
  · rw [fp_f c1, if_neg c1]
