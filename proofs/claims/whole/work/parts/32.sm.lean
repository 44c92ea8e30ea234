/-! what of the class's is scratch; sums -/
def SameM (M M1 : xM) : Prop := ∀ k, ¬ (3 ≤ k ∧ k ≤ 5) → ¬ (11 ≤ k ∧ k ≤ 16) → k ≠ 23 → k ≠ 24 → M1 k = M k
theorem SameM.rf (M : xM) : SameM M M := fun _ _ _ _ _ => rfl
theorem SameM.tr {M M1 M2 : xM} (h : SameM M M1) (g : SameM M1 M2) : SameM M M2 := fun k a b c d => (g k a b c d).trans (h k a b c d)
theorem SameM.sR {M M1 : xM} (h : SameM M M1) (r : Nat) (f : Nat → Int32) (hr : (3 ≤ r ∧ r ≤ 5) ∨ (11 ≤ r ∧ r ≤ 16) ∨ r = 23 ∨ r = 24) : SameM M (fun a => if a = r then f else M1 a) := fun k a b c d => by
  show (if k = r then f else M1 k) = M k
  rw [if_neg (by omega)]
  exact h k a b c d
theorem SameM.sc {M M1 : xM} (h : SameM M M1) (r j : Nat) (v : Int32) (hr : (3 ≤ r ∧ r ≤ 5) ∨ (11 ≤ r ∧ r ≤ 16) ∨ r = 23 ∨ r = 24) : SameM M (uM M1 r j v) := fun k a b c d => by
  rw [uM_row _ _ _ _ (by omega)]
  exact h k a b c d
theorem RB.kp {M M1 : xM} {b : Nat} {V : Nat → Int32} {ng nw ne no : Nat} (h : RB M b V ng nw ne no) (hb : ng ≤ 3 ∧ nw ≤ 4 ∧ ne ≤ 40 ∧ no ≤ 12) (e : ∀ k, b ≤ k → k < b + 80 → k ≠ b + 6 → k ≠ b + 7 → M1 k = M k) : RB M1 b V ng nw ne no := by
  obtain ⟨h0, h1, h2, h3, h4, h5, h6, h7⟩ := h
  refine ⟨?_, ?_, ?_, ?_, fun g hg => ?_, fun w hw => ?_, fun i hi => ?_, fun o ho j hj => ?_⟩
  · rw [e b (by omega) (by omega) (by omega) (by omega)]; exact h0
  · rw [e b (by omega) (by omega) (by omega) (by omega)]; exact h1
  · rw [e b (by omega) (by omega) (by omega) (by omega)]; exact h2
  · rw [e b (by omega) (by omega) (by omega) (by omega)]; exact h3
  · rw [e (b + 2) (by omega) (by omega) (by omega) (by omega)]; exact h4 g hg
  · rw [e (b + 8 + 5 * w) (by omega) (by omega) (by omega) (by omega), e (b + 9 + 5 * w) (by omega) (by omega) (by omega) (by omega), e (b + 10 + 5 * w) (by omega) (by omega) (by omega) (by omega), e (b + 11 + 5 * w) (by omega) (by omega) (by omega) (by omega), e (b + 12 + 5 * w) (by omega) (by omega) (by omega) (by omega)]; exact h5 w hw
  · rw [e (b + 28 + i) (by omega) (by omega) (by omega) (by omega)]; exact h6 i hi
  · rw [e (b + 68 + o) (by omega) (by omega) (by omega) (by omega)]; exact h7 o ho j hj
theorem WF.bd {V : Nat → Int32} {ng nw ne no : Nat} (h : WF V ng nw ne no) : ng ≤ 3 ∧ nw ≤ 4 ∧ ne ≤ 40 ∧ no ≤ 12 := ⟨h.1, h.2.1, h.2.2.1, h.2.2.2.1⟩
theorem Rel.sm {M M1 N : xM} (h : Rel M N) (S : SameM M M1) : Rel M1 N := by
  obtain ⟨⟨n, t0, t1, t2, t3⟩, hr, hq, ⟨c, c0, c1, c2, c3⟩, ⟨ng, nw, ne, no, b1, b2, b3⟩, i1, i2⟩ := h
  have e : ∀ k, (k < 3 ∨ (6 ≤ k ∧ k ≤ 10) ∨ (17 ≤ k ∧ k ≠ 23 ∧ k ≠ 24)) → M1 k = M k := fun k hk => S k (by omega) (by omega) (by omega) (by omega)
  refine ⟨⟨n, t0, by rw [e 1 (by omega)]; exact t1, t2, by rw [e 2 (by omega)]; exact t3⟩, fun k hk => by rw [e 18 (by omega)]; exact hr k hk, fun r h => by rw [e 10 (by omega)]; exact hq r h,
    ⟨c, c0, by rw [e 6 (by omega)]; exact c1, c2, by rw [e 7 (by omega), e 8 (by omega), e 9 (by omega)]; exact c3⟩, ⟨ng, nw, ne, no, b1, b2.kp b1.bd (fun k q1 q2 q3 q4 => e k (by omega)), fun i hi hp => ?_⟩, by rw [e 0 (by omega)]; exact i1, ?_⟩
  · rw [e _ (by omega)]; exact b3 i hi hp
  · rcases i2 with i2 | ⟨i2, ng', nw', ne', no', d1, d2, d3⟩
    · exact Or.inl i2
    · exact Or.inr ⟨i2, ng', nw', ne', no', d1, d2.kp d1.bd (fun k q1 q2 q3 q4 => e k (by omega)), fun i hi hp => by rw [e _ (by omega)]; exact d3 i hi hp⟩
/-- a loop that adds up -/
theorem accN {body : Int32 × Int32 → Option ((Int32 × Int32) ⊕ Int32)} (f : Nat → Int32) (n : Nat) (a : Int32) (hn : n < 100000) (hs : ∀ i x, i < n → body (x, nI i) = some (.inl (x + f i, nI (i + 1)))) (he : ∀ x, body (x, nI n) = some (.inr x)) : loopN body BG (a, (0 : Int32)) = some (a + sI f n) := by
  have h := loopN_up (body := body) (r := a + sI f n) (fun k => (a + sI f k, nI k)) n (fun i hi => by rw [hs i _ hi, sI, Int32.add_assoc]) (he _) BG (BG_lt hn)
  have e : (a + sI f 0, nI 0) = (a, (0 : Int32)) := by
    show (a + 0, nI 0) = _
    rw [Int32.add_zero]; rfl
  rw [e] at h
  exact h
theorem sI_add (f g : Nat → Int32) : ∀ n, sI (fun i => f i + g i) n = sI f n + sI g n
  | 0 => by simp [sI]
  | n + 1 => by rw [sI, sI, sI, sI_add f g n]; ac_rfl
theorem sI_sub (f g : Nat → Int32) : ∀ n, sI (fun i => f i - g i) n = sI f n - sI g n
  | 0 => by simp [sI]
  | n + 1 => by rw [sI, sI, sI, sI_sub f g n]; simp only [Int32.sub_eq_add_neg, Int32.neg_add]; ac_rfl
theorem sI_ext {f : Nat → Int32} {m : Nat} : ∀ {n : Nat}, m ≤ n → (∀ i, m ≤ i → i < n → f i = 0) → sI f n = sI f m
  | 0, h, _ => by rw [show m = 0 by omega]
  | n + 1, h, hz => by
    by_cases e : m = n + 1
    · rw [e]
    · rw [sI, sI_ext (n := n) (by omega) (fun i a b => hz i a (by omega)), hz n (by omega) (by omega), Int32.add_zero]
abbrev wP (n : Nat) (w : Int32) : Prop := 0 ≤ w.toInt ∧ w.toInt < n
theorem wP_of {n : Nat} (hn : n < 1000) {w : Int32} (h : wP n w) : ∃ j, j < n ∧ w = nI j := by
  obtain ⟨j, h1, h2, h3⟩ := nI_of0 h.1
  refine ⟨j, ?_, h2⟩
  have := h.2
  omega
