/-! numbers: what Int32 and Int64 say as integers, where nothing is too large -/
theorem i_bm {x : Int} (h1 : -2147483648 ≤ x) (h2 : x < 2147483648) : x.bmod (2 ^ 32) = x := by
  apply Int.bmod_eq_of_le <;> omega
theorem l_bm {x : Int} (h1 : -9223372036854775808 ≤ x) (h2 : x < 9223372036854775808) : x.bmod (2 ^ 64) = x := by
  apply Int.bmod_eq_of_le <;> omega
theorem i_add {a b : Int32} (h1 : -2147483648 ≤ a.toInt + b.toInt) (h2 : a.toInt + b.toInt < 2147483648) : (a + b).toInt = a.toInt + b.toInt := by
  rw [Int32.toInt_add, i_bm h1 h2]
theorem i_sub {a b : Int32} (h1 : -2147483648 ≤ a.toInt - b.toInt) (h2 : a.toInt - b.toInt < 2147483648) : (a - b).toInt = a.toInt - b.toInt := by
  rw [Int32.toInt_sub, i_bm h1 h2]
theorem i_mul {a b : Int32} (h1 : -2147483648 ≤ a.toInt * b.toInt) (h2 : a.toInt * b.toInt < 2147483648) : (a * b).toInt = a.toInt * b.toInt := by
  rw [Int32.toInt_mul, i_bm h1 h2]
theorem i_neg {a : Int32} (h1 : -2147483648 < a.toInt) : (-a).toInt = -a.toInt := by
  have := Int32.toInt_lt a
  rw [Int32.toInt_neg, i_bm (by omega) (by omega)]
theorem ll_add {a b : Int64} (h1 : -9223372036854775808 ≤ a.toInt + b.toInt) (h2 : a.toInt + b.toInt < 9223372036854775808) : (a + b).toInt = a.toInt + b.toInt := by
  rw [Int64.toInt_add, l_bm h1 h2]
theorem ll_sub {a b : Int64} (h1 : -9223372036854775808 ≤ a.toInt - b.toInt) (h2 : a.toInt - b.toInt < 9223372036854775808) : (a - b).toInt = a.toInt - b.toInt := by
  rw [Int64.toInt_sub, l_bm h1 h2]
theorem ll_mul {a b : Int64} (h1 : -9223372036854775808 ≤ a.toInt * b.toInt) (h2 : a.toInt * b.toInt < 9223372036854775808) : (a * b).toInt = a.toInt * b.toInt := by
  rw [Int64.toInt_mul, l_bm h1 h2]
theorem tdiv_bd {x d : Int} {B : Int} (hd : 0 < d) (h1 : -B ≤ x) (h2 : x < B) : -B ≤ x.tdiv d ∧ x.tdiv d < B := by
  rcases Int.le_total 0 x with h | h
  · have h3 : 0 ≤ x.tdiv d := Int.tdiv_nonneg h (by omega)
    have h4 : x.tdiv d ≤ x := Int.tdiv_le_self d h
    omega
  · have h3 : 0 ≤ (-x).tdiv d := Int.tdiv_nonneg (by omega) (by omega)
    have h4 : (-x).tdiv d ≤ -x := Int.tdiv_le_self d (by omega)
    rw [Int.neg_tdiv] at h3 h4
    constructor
    · omega
    · omega
theorem i_div {a b : Int32} (hb : 0 < b.toInt) : (a / b).toInt = a.toInt.tdiv b.toInt := by
  have h1 := Int32.le_toInt a
  have h2 := Int32.toInt_lt a
  obtain ⟨h3, h4⟩ := tdiv_bd (x := a.toInt) (B := 2147483648) hb (by omega) (by omega)
  rw [Int32.toInt_div, i_bm h3 h4]
theorem ll_div {a b : Int64} (hb : 0 < b.toInt) : (a / b).toInt = a.toInt.tdiv b.toInt := by
  have h1 := Int64.le_toInt a
  have h2 := Int64.toInt_lt a
  obtain ⟨h3, h4⟩ := tdiv_bd (x := a.toInt) (B := 9223372036854775808) hb (by omega) (by omega)
  rw [Int64.toInt_div, l_bm h3 h4]
theorem l_i {a : Int64} (h1 : -2147483648 ≤ a.toInt) (h2 : a.toInt < 2147483648) : a.toInt32.toInt = a.toInt := by
  rw [Int64.toInt_toInt32, i_bm h1 h2]
theorem imax_i (a b : Int32) : (imax a b).toInt = max a.toInt b.toInt := by
  unfold imax
  split
  · rename_i h; rw [i_lt] at h; omega
  · rename_i h; rw [i_lt] at h; omega
theorem imin_i (a b : Int32) : (imin a b).toInt = min a.toInt b.toInt := by
  unfold imin
  split
  · rename_i h; rw [i_lt] at h; omega
  · rename_i h; rw [i_lt] at h; omega
theorem lmax_i (a b : Int64) : (lmax a b).toInt = max a.toInt b.toInt := by
  unfold lmax
  split
  · rename_i h; rw [Int64.lt_iff_toInt_lt] at h; omega
  · rename_i h; rw [Int64.lt_iff_toInt_lt] at h; omega
theorem lmin_i (a b : Int64) : (lmin a b).toInt = min a.toInt b.toInt := by
  unfold lmin
  split
  · rename_i h; rw [Int64.lt_iff_toInt_lt] at h; omega
  · rename_i h; rw [Int64.lt_iff_toInt_lt] at h; omega
theorem nI_i {n : Nat} (h : n < 2 ^ 31) : (nI n).toInt = (n : Int) := nI_toInt h
theorem nI_of0 {a : Int32} (h : 0 ≤ a.toInt) : ∃ n : Nat, n < 2 ^ 31 ∧ a = nI n ∧ (n : Int) = a.toInt := by
  obtain ⟨j, hj, e⟩ := nI_of (x := a) (fun z => by
    rw [i_lt] at z
    have e0 : (0 : Int32).toInt = 0 := by decide
    omega)
  exact ⟨j, hj, e, by rw [e, nI_toInt hj]⟩
/-- a row's place -/
theorem at_row (a c i j : Nat) : ((nI a + nI c * nI i) + nI j) = nI (a + c * i + j) := by
  rw [pk_mul, nI_add, nI_add]
/-- a sum of integers -/
def zS (f : Nat → Int) : Nat → Int
  | 0 => 0
  | n + 1 => zS f n + f n
theorem zS_congr {f g : Nat → Int} : ∀ {n : Nat}, (∀ i, i < n → f i = g i) → zS f n = zS g n
  | 0, _ => rfl
  | n + 1, h => by rw [zS, zS, zS_congr (n := n) (fun i hi => h i (by omega)), h n (by omega)]
theorem zS_bd {f : Nat → Int} {B : Int} : ∀ {n : Nat}, (∀ i, i < n → 0 ≤ f i ∧ f i ≤ B) → 0 ≤ zS f n ∧ zS f n ≤ n * B
  | 0, _ => by simp [zS]
  | n + 1, h => by
    have h1 := zS_bd (n := n) (fun i hi => h i (by omega))
    have h2 := h n (by omega)
    rw [zS]
    have e : ((n + 1 : Nat) : Int) * B = n * B + B := by rw [Int.natCast_add, Int.add_mul]; simp
    omega
