/-! the pure part: how the functions' words are read -/
theorem bd_s {α β : Type} (a : α) (f : α → Option β) : bd (some a) f = f a := rfl
theorem bd2_s {α γ β : Type} (a : α) (b : γ) (f : α → γ → Option β) : bd2 (some (a, b)) f = f a b := rfl
theorem lt_d {α β : Type} (e : α) (f : α → β) : lt e f = f e := rfl
theorem gd_d {β : Type} {i : Int32} {n : Nat} (h0 : 0 ≤ i.toInt) (h1 : i.toInt < n) (o : Option β) : gd i n o = o := by
  unfold gd inB
  rw [if_pos]
  simp [h0, h1]
theorem gd_n {β : Type} {i n : Nat} (h : i < n) (hn : n < 2 ^ 31) (o : Option β) : gd (nI i) n o = o := by
  have e : (nI i).toInt = (i : Int) := nI_toInt (by omega)
  exact gd_d (by omega) (by omega) o
theorem gz0 {β : Type} (o : Option β) : gz 0 o = o := rfl
theorem gz1 {β : Type} (o : Option β) : gz 1 o = o := rfl
def pI (p : Prop) [Decidable p] : Int32 := if p then 1 else 0
theorem pI_t {p : Prop} [Decidable p] (h : p) : pI p = 1 := if_pos h
theorem pI_f {p : Prop} [Decidable p] (h : ¬ p) : pI p = 0 := if_neg h
theorem gz_p {β : Type} (p : Prop) [Decidable p] (o : Option β) : gz (pI p) o = o := by
  by_cases h : p
  · rw [pI_t h]; rfl
  · rw [pI_f h]; rfl
theorem pI0 (p : Prop) [Decidable p] : (pI p = 0) ↔ ¬ p := by
  by_cases h : p
  · rw [pI_t h]; simp [h]
  · rw [pI_f h]; simp [h]
theorem pI1 (p : Prop) [Decidable p] : (pI p = 1) ↔ p := by
  by_cases h : p
  · rw [pI_t h]; simp [h]
  · rw [pI_f h]; simp [h]
theorem i_lt (a b : Int32) : a < b ↔ a.toInt < b.toInt := Int32.lt_iff_toInt_lt
theorem i_le (a b : Int32) : a ≤ b ↔ a.toInt ≤ b.toInt := Int32.le_iff_toInt_le
theorem i_eq (a b : Int32) : a = b ↔ a.toInt = b.toInt := Int32.toInt_inj.symm
theorem lc_lt (a b : Int64) : lg_cmp a b < 0 ↔ a.toInt < b.toInt := by
  unfold lg_cmp
  by_cases h : a > b
  · rw [if_pos h]
    have h2 : b.toInt < a.toInt := Int64.lt_iff_toInt_lt.mp h
    constructor
    · intro q; exact absurd q (by decide)
    · intro q; omega
  · rw [if_neg h]
    have h2 : ¬ b.toInt < a.toInt := fun q => h (Int64.lt_iff_toInt_lt.mpr q)
    by_cases e : a = b
    · rw [if_pos e, e]
      constructor
      · intro q; exact absurd q (by decide)
      · intro q; omega
    · rw [if_neg e]
      have h3 : a.toInt ≠ b.toInt := fun q => e (Int64.toInt_inj.mp q)
      constructor
      · intro _; omega
      · intro _; decide
theorem lc_gt (a b : Int64) : 0 < lg_cmp a b ↔ b.toInt < a.toInt := by
  unfold lg_cmp
  by_cases h : a > b
  · rw [if_pos h]
    have h2 : b.toInt < a.toInt := Int64.lt_iff_toInt_lt.mp h
    exact ⟨fun _ => h2, fun _ => by decide⟩
  · rw [if_neg h]
    have h2 : ¬ b.toInt < a.toInt := fun q => h (Int64.lt_iff_toInt_lt.mpr q)
    by_cases e : a = b
    · rw [if_pos e]
      exact ⟨fun q => absurd q (by decide), fun q => absurd q h2⟩
    · rw [if_neg e]
      exact ⟨fun q => absurd q (by decide), fun q => absurd q h2⟩
theorem i_l (a : Int32) : a.toInt64.toInt = a.toInt := Int32.toInt_toInt64 a
/-- a loop whose states are known -/
theorem loopN_up {σ ρ : Type} {body : σ → Option (σ ⊕ ρ)} {r : ρ} (st : Nat → σ) (n : Nat) (hs : ∀ i, i < n → body (st i) = some (.inl (st (i + 1)))) (he : body (st n) = some (.inr r)) : ∀ (fuel : Nat), n < fuel → loopN body fuel (st 0) = some r := by
  have key : ∀ (k i fuel : Nat), i + k = n → k < fuel → loopN body fuel (st i) = some r := by
    intro k
    induction k with
    | zero =>
      intro i fuel e hf
      obtain ⟨f, rfl⟩ : ∃ f, fuel = f + 1 := ⟨fuel - 1, by omega⟩
      have e2 : i = n := by omega
      subst e2
      rw [loopN, he]
    | succ k ih =>
      intro i fuel e hf
      obtain ⟨f, rfl⟩ : ∃ f, fuel = f + 1 := ⟨fuel - 1, by omega⟩
      rw [loopN, hs i (by omega)]
      exact ih (i + 1) f (by omega) (by omega)
  intro fuel hf
  exact key n 0 fuel (by omega) hf
theorem BG_lt {n : Nat} (h : n < 100000) : n < BG := h
/-- a sum -/
def sI (f : Nat → Int32) : Nat → Int32
  | 0 => 0
  | n + 1 => sI f n + f n
theorem sI_congr {f g : Nat → Int32} : ∀ {n : Nat}, (∀ i, i < n → f i = g i) → sI f n = sI g n
  | 0, _ => rfl
  | n + 1, h => by rw [sI, sI, sI_congr (n := n) (fun i hi => h i (by omega)), h n (by omega)]
theorem uM_s (M : xM) (k j : Nat) (v : Int32) : uM M k j v k j = v := by simp [uM, upd]
theorem uM_k (M : xM) (k j : Nat) (v : Int32) {k2 : Nat} (h : k2 ≠ k) (j2 : Nat) : uM M k j v k2 j2 = M k2 j2 := by simp [uM, h]
theorem uM_j (M : xM) (k j : Nat) (v : Int32) {j2 : Nat} (h : j2 ≠ j) : uM M k j v k j2 = M k j2 := by simp [uM, upd, h]
theorem uM_at (M : xM) (k j : Nat) (v : Int32) (k2 j2 : Nat) : uM M k j v k2 j2 = if k2 = k ∧ j2 = j then v else M k2 j2 := by
  by_cases h : k2 = k
  · subst h
    by_cases h2 : j2 = j
    · subst h2; simp [uM, upd]
    · simp [uM, upd, h2]
  · simp [uM, h]
-- what is asked of arguments
abbrev dayP (d : Int32) : Prop := 0 ≤ d.toInt ∧ d.toInt < 3600
abbrev yearP (d : Int32) : Prop := 0 ≤ d.toInt ∧ d.toInt < 10
abbrev amtP (d : Int32) : Prop := 1 ≤ d.toInt ∧ d.toInt ≤ 99999
abbrev bndP (d : Int32) : Prop := 0 ≤ d.toInt ∧ d.toInt ≤ 999999
theorem c_isDay (M : xM) (d : Int32) : f_X10_isDay M d = some (pI (dayP d)) := by
  simp only [f_X10_isDay, b_X10_isDay_0, b_X10_isDay_15, b_X10_isDay_16, gz0, gz1, i_lt, i_le]
  have e0 : (0 : Int32).toInt = 0 := by decide
  have e1 : (3600 : Int32).toInt = 3600 := by decide
  rw [e0, e1]
  unfold pI dayP
  split <;> (try split) <;> (try split) <;> (first | rfl | omega)
theorem c_isYear (M : xM) (d : Int32) : f_X10_isYear M d = some (pI (yearP d)) := by
  simp only [f_X10_isYear, b_X10_isYear_0, b_X10_isYear_14, b_X10_isYear_15, gz0, gz1, i_lt, i_le]
  have e0 : (0 : Int32).toInt = 0 := by decide
  have e1 : (10 : Int32).toInt = 10 := by decide
  rw [e0, e1]
  unfold pI yearP
  split <;> (try split) <;> (try split) <;> (first | rfl | omega)
theorem m_in (M : xM) (v a b : Int64) : f_X11_in M v a b = some (pI (a.toInt ≤ v.toInt ∧ v.toInt ≤ b.toInt)) := by
  simp only [f_X11_in, b_X11_in_0, b_X11_in_17, b_X11_in_18, gz0, gz1, lc_lt, lc_gt]
  unfold pI
  split <;> (try split) <;> (try split) <;> (first | rfl | omega)
theorem m_isDay (M : xM) (d : Int32) : f_X11_isDay M d = some (pI (dayP d)) := by
  simp only [f_X11_isDay, b_X11_isDay_0, m_in, bd_s, gz_p, i_l]
  have e0 : (0 : Int64).toInt = 0 := by decide
  have e1 : (3599 : Int64).toInt = 3599 := by decide
  rw [e0, e1]
  congr 1
  unfold pI dayP
  split <;> split <;> (first | rfl | omega)
