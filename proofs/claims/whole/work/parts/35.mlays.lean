/-! rows written one by one; lays -/
def wr (N : xM) (r : Nat) (f : Nat → Int32) : Nat → xM
  | 0 => N
  | k + 1 => uM (wr N r f k) r k (f k)
theorem wr_row (N : xM) (r : Nat) (f : Nat → Int32) {a : Nat} (h : a ≠ r) : ∀ k, wr N r f k a = N a
  | 0 => rfl
  | k + 1 => by rw [wr, uM_row _ _ _ _ h, wr_row N r f h k]
theorem wr_at (N : xM) (r : Nat) (f : Nat → Int32) (j : Nat) : ∀ k, wr N r f k r j = if j < k then f j else N r j
  | 0 => by simp [wr]
  | k + 1 => by
    rw [wr, uM_at, wr_at N r f j k]
    by_cases e : j = k
    · subst e; simp
    · by_cases h : j < k
      · rw [if_neg (fun z => e z.2), if_pos h, if_pos (by omega)]
      · rw [if_neg (fun z => e z.2), if_neg h, if_neg (by omega)]
theorem m_lays (N : xM) {ne no : Nat} (h2 : N 4 2 = nI ne) (hne : ne ≤ 40) (h3 : N 4 3 = nI no) (hno : no ≤ 12) (ho : ∀ o, o < no → WFo (N 4) o) (he : ∀ i, i < ne → WFe (N 4) i) : f_X11_lays N = some (wr N 8 (fun i => if N 4 (155 + 7 * i) = 1 then oI (kAlw (N 4) (N 3 1).toInt ne no i) else 0) ne) := by
  simp only [f_X11_lays, b_X11_lays_0, b_X11_lays_2]
  have hl := loopN_up (body := fun s : xM × Int32 => bl_X11_lays_2 s.1 s.2) (r := wr N 8 (fun i => if N 4 (155 + 7 * i) = 1 then oI (kAlw (N 4) (N 3 1).toInt ne no i) else 0) ne)
    (fun k => (wr N 8 (fun i => if N 4 (155 + 7 * i) = 1 then oI (kAlw (N 4) (N 3 1).toInt ne no i) else 0) k, nI k)) ne ?_ ?_ BG (BG_lt (by omega))
  · have e : (wr N 8 (fun i => if N 4 (155 + 7 * i) = 1 then oI (kAlw (N 4) (N 3 1).toInt ne no i) else 0) 0, nI 0) = (N, (0 : Int32)) := rfl
    rw [e] at hl
    rw [hl, bd_s]
  · intro k hk
    simp only [bl_X11_lays_2]
    generalize hW : wr N 8 (fun i => if N 4 (155 + 7 * i) = 1 then oI (kAlw (N 4) (N 3 1).toInt ne no i) else 0) k = W
    have w3 : W 3 = N 3 := by rw [← hW]; exact wr_row _ _ _ (by decide) k
    have w4 : W 4 = N 4 := by rw [← hW]; exact wr_row _ _ _ (by decide) k
    rw [gd_d (by decide) (by decide), cl2, w4, h2, if_neg (nI_ge hk (by omega)), m_allowed W (by rw [w4]; exact h2) hne (by rw [w4]; exact h3) hno (by rw [w4]; exact ho) (by rw [w4]; exact he) hk, bd_s, gd_n (by omega) (by decide), lt_d, lt_d, nI_clamp (by omega), nI_1, w4, w3, ← hW]
    rfl
  · simp only [bl_X11_lays_2]
    rw [gd_d (by decide) (by decide), cl2, wr_row _ _ _ (by decide) ne, h2, if_pos (nI_le (Nat.le_refl ne) (by omega))]
theorem SameN.wr {N N1 : xM} (h : SameN N N1) (r : Nat) (f : Nat → Int32) (hr : 8 ≤ r ∨ r = 2) : ∀ k, SameN N (wr N1 r f k)
  | 0 => h
  | k + 1 => (SameN.wr h r f hr k).sc r k (f k) hr
