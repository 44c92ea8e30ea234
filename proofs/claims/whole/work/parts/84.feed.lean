/-! feed -/
/-- bytes b put behind the n first of a row, but those that are 0: how many there are, and the row -/
def apP (b : Nat → Int32) (n : Nat) : Nat → Nat
  | 0 => n
  | k + 1 => if b k = 0 then apP b n k else apP b n k + 1
def apT (b : Nat → Int32) (T : Nat → Int32) (n : Nat) : Nat → Nat → Int32
  | 0 => T
  | k + 1 => if b k = 0 then apT b T n k else upd (apT b T n k) (apP b n k) (b k)
theorem apP_le (b : Nat → Int32) (n : Nat) : ∀ k, n ≤ apP b n k
  | 0 => Nat.le_refl n
  | k + 1 => by
    have := apP_le b n k
    unfold apP
    split <;> omega
theorem apP_mo (b : Nat → Int32) (n : Nat) (k : Nat) : ∀ d, apP b n k ≤ apP b n (k + d)
  | 0 => Nat.le_refl _
  | d + 1 => by
    have := apP_mo b n k d
    show apP b n k ≤ apP b n (k + d + 1)
    rw [apP]
    split <;> omega
theorem apP_up (b : Nat → Int32) (n : Nat) (k : Nat) : apP b n k ≤ n + k := by
  induction k with
  | zero => exact Nat.le_refl n
  | succ k ih =>
    unfold apP
    split <;> omega
theorem apT_lo (b : Nat → Int32) (T : Nat → Int32) (n : Nat) : ∀ k i, i < n → apT b T n k i = T i
  | 0, _, _ => rfl
  | k + 1, i, hi => by
    have := apP_le b n k
    unfold apT
    split
    · exact apT_lo b T n k i hi
    · rw [pk_un (by omega)]; exact apT_lo b T n k i hi
theorem apT_in (b : Nat → Int32) (T : Nat → Int32) (n : Nat) (hT : ∀ i, i < n → ∃ c, 0 < c ∧ c < 256 ∧ T i = nI c) (hb : ∀ k, ¬ b k = 0 → ∃ c, 0 < c ∧ c < 256 ∧ b k = nI c) : ∀ k i, i < apP b n k → ∃ c, 0 < c ∧ c < 256 ∧ apT b T n k i = nI c
  | 0, i, hi => hT i hi
  | k + 1, i, hi => by
    unfold apP at hi
    unfold apT
    by_cases c : b k = 0
    · rw [if_pos c] at hi ⊢
      exact apT_in b T n hT hb k i hi
    · rw [if_neg c] at hi ⊢
      by_cases e : i = apP b n k
      · subst e; rw [pk_us]; exact hb k c
      · rw [pk_un e]; exact apT_in b T n hT hb k i (by omega)
def arg5 (x0 x1 x2 x3 x4 : Int32) (i : Nat) : Int32 := if i = 0 then x0 else if i = 1 then x1 else if i = 2 then x2 else if i = 3 then x3 else x4
abbrev fB (x0 x1 x2 x3 x4 : Int32) (k : Nat) : Int32 := bf (arg5 x0 x1 x2 x3 x4 (k / 4)) (24 - 8 * (k % 4))
section
variable {M N : xM} {T : Nat → Int32} {n : Nat}
/-- the class's tape after k bytes -/
def FT (M : xM) (b T : Nat → Int32) (n : Nat) (W : xM) (k : Nat) : Prop := (∀ q, q ≠ 1 → q ≠ 2 → W q = M q) ∧ (∀ j, j ≠ 1 → W 1 j = M 1 j) ∧ W 1 1 = nI (apP b n k) ∧ apP b n k ≤ 200 ∧ ∀ i, i < apP b n k → W 2 i = apT b T n k i
def FX (M : xM) (T : Nat → Int32) (n : Nat) (W : xM) : Prop := (∀ q, q ≠ 1 → q ≠ 2 → W q = M q) ∧ (∀ j, j ≠ 1 → W 1 j = M 1 j) ∧ ∀ i, i < n → W 2 i = T i
def sh8 (j : Nat) : Int32 := (24 : Int32) - 8 * nI j
theorem sh8_n : ∀ j, j < 4 → sh8 j = nI (24 - 8 * j) ∧ ¬ sh8 j < 0 ∧ sh8 j + (-8) = sh8 (j + 1) := by decide +kernel
theorem c_takeL {b : Nat → Int32} {x : Int32} {i : Nat} (hx : ∀ j, j < 4 → b (4 * i + j) = bf x (24 - 8 * j)) : ∀ f j W fuel, j + f = 4 → f < fuel → FT M b T n W (4 * i + j) → ∃ r, loopN (fun s : xM × Int32 => bl_X7_take_3 s.1 x s.2) fuel (W, sh8 j) = some r ∧ ((apP b n (4 * i + 4) ≤ 200 ∧ ∃ W', r = .inr W' ∧ FT M b T n W' (4 * i + 4)) ∨ (200 < apP b n (4 * i + 4) ∧ ∃ W', r = .inl W' ∧ FX M T n W')) := by
  intro f
  induction f with
  | zero =>
    intro j W fuel e hf hW
    obtain ⟨fu, rfl⟩ : ∃ fu, fuel = fu + 1 := ⟨fuel - 1, by omega⟩
    have ej : j = 4 := by omega
    subst ej
    have hs : (fun s : xM × Int32 => bl_X7_take_3 s.1 x s.2) (W, sh8 4) = some (.inr (.inr W)) := by
      show bl_X7_take_3 W x (sh8 4) = _
      unfold bl_X7_take_3
      rw [if_pos (by decide)]
    exact ⟨_, loopN_r hs, Or.inl ⟨hW.2.2.2.1, W, rfl, hW⟩⟩
  | succ f ih =>
    intro j W fuel e hf hW
    obtain ⟨fu, rfl⟩ : ∃ fu, fuel = fu + 1 := ⟨fuel - 1, by omega⟩
    obtain ⟨s1, s2, s3⟩ := sh8_n j (by omega)
    obtain ⟨h1, h2, h3, h4, h5⟩ := hW
    have hby : (((x.toUInt32 >>> ((sh8 j).toUInt32 &&& Int32.toUInt32 31)).toInt32) &&& (255 : Int32)) = b (4 * i + j) := by
      rw [s1, bf_u x (by omega), hx j (by omega)]
    have e4 : 4 * i + j + 1 = 4 * i + (j + 1) := by omega
    by_cases c : b (4 * i + j) = 0
    · have hs : (fun s : xM × Int32 => bl_X7_take_3 s.1 x s.2) (W, sh8 j) = some (.inl (W, sh8 (j + 1))) := by
        show bl_X7_take_3 W x (sh8 j) = _
        unfold bl_X7_take_3 b_X7_take_51
        rw [if_neg s2, hby, lt_d (b (4 * i + j)), if_pos c, lt_d, s3]
      have p1 : apP b n (4 * i + (j + 1)) = apP b n (4 * i + j) := by rw [← e4, apP, if_pos c]
      have p2 : apT b T n (4 * i + (j + 1)) = apT b T n (4 * i + j) := by rw [← e4, apT, if_pos c]
      obtain ⟨r, r1, r2⟩ := ih (j + 1) W fu (by omega) (by omega) ⟨h1, h2, by rw [p1]; exact h3, by rw [p1]; exact h4, by rw [p1, p2]; exact h5⟩
      exact ⟨r, (loopN_l hs).trans r1, r2⟩
    have p1 : apP b n (4 * i + (j + 1)) = apP b n (4 * i + j) + 1 := by rw [← e4, apP, if_neg c]
    have p2 : apT b T n (4 * i + (j + 1)) = upd (apT b T n (4 * i + j)) (apP b n (4 * i + j)) (b (4 * i + j)) := by rw [← e4, apT, if_neg c]
    by_cases c2 : apP b n (4 * i + j) < 200
    · have hs : (fun s : xM × Int32 => bl_X7_take_3 s.1 x s.2) (W, sh8 j) = some (.inl (uM (uM W 2 (apP b n (4 * i + j)) (b (4 * i + j))) 1 1 (nI (apP b n (4 * i + j) + 1)), sh8 (j + 1))) := by
        show bl_X7_take_3 W x (sh8 j) = _
        unfold bl_X7_take_3 b_X7_take_51
        rw [if_neg s2, hby, lt_d (b (4 * i + j)), if_neg c, h3, if_pos (lE 200 200 rfl c2 (by decide)), gd_n c2 (by decide), clN (by omega), lt_d, uM_row _ _ _ _ (by decide), h3, lt_d, lt_d, nI_1, s3]
      obtain ⟨r, r1, r2⟩ := ih (j + 1) _ fu (by omega) (by omega) (show FT M b T n (uM (uM W 2 (apP b n (4 * i + j)) (b (4 * i + j))) 1 1 (nI (apP b n (4 * i + j) + 1))) (4 * i + (j + 1)) from ⟨fun q a b => by rw [uM_row _ _ _ _ a, uM_row _ _ _ _ b]; exact h1 q a b, fun q a => by rw [uM_j _ _ _ _ a, uM_row _ _ _ _ (by decide)]; exact h2 q a, by rw [p1]; exact uM_s _ _ _ _, by rw [p1]; omega, fun q hq => by
        rw [uM_row _ _ _ _ (by decide), uM4, p2]
        rw [p1] at hq
        by_cases e : q = apP b n (4 * i + j)
        · subst e; rw [pk_us, pk_us]
        · rw [pk_un e, pk_un e]; exact h5 q (by omega)⟩)
      exact ⟨r, (loopN_l hs).trans r1, r2⟩
    · have hs : (fun s : xM × Int32 => bl_X7_take_3 s.1 x s.2) (W, sh8 j) = some (.inr (.inl W)) := by
        show bl_X7_take_3 W x (sh8 j) = _
        unfold bl_X7_take_3
        rw [if_neg s2, hby, lt_d (b (4 * i + j)), if_neg c, h3, if_neg (show ¬ nI (apP b n (4 * i + j)) < (200 : Int32) from nI_nlt (b := 200) (by omega) (by omega))]
      have hm := apP_mo b n (4 * i + (j + 1)) (3 - j)
      rw [show 4 * i + (j + 1) + (3 - j) = 4 * i + 4 by omega] at hm
      have hl := apP_le b n (4 * i + j)
      exact ⟨_, loopN_r hs, Or.inr ⟨by omega, W, rfl, h1, h2, fun q hq => by rw [h5 q (by omega)]; exact apT_lo b T n _ q hq⟩⟩
theorem c_take {b : Nat → Int32} {x : Int32} {i : Nat} {W : xM} (hx : ∀ j, j < 4 → b (4 * i + j) = bf x (24 - 8 * j)) (hW : FT M b T n W (4 * i)) : (apP b n (4 * i + 4) ≤ 200 ∧ ∃ W', f_X7_take W x = some (1, W') ∧ FT M b T n W' (4 * i + 4)) ∨ (200 < apP b n (4 * i + 4) ∧ ∃ W', f_X7_take W x = some (0, W') ∧ FX M T n W') := by
  obtain ⟨r, h1, h2⟩ := c_takeL hx 4 0 W BG (by omega) (BG_lt (by omega)) hW
  have h1' : loopN (fun s : xM × Int32 => bl_X7_take_3 s.1 x s.2) BG (W, 24) = some r := h1
  unfold f_X7_take b_X7_take_0 b_X7_take_3
  rw [h1', bd_s]
  rcases h2 with ⟨a, W', rfl, c⟩ | ⟨a, W', rfl, c⟩
  · exact Or.inl ⟨a, W', rfl, c⟩
  · exact Or.inr ⟨a, W', rfl, c⟩
theorem m_byteOf (M : xM) (x0 x1 x2 x3 x4 : Int32) {k : Nat} (hk : k < 20) : f_X11_byteOf M x0 x1 x2 x3 x4 (nI k) = some (fB x0 x1 x2 x3 x4 k) := by
  have e1 : nI k - nI k / (4 : Int32) * (4 : Int32) = nI (k % 4) := pk_rem (d := 4) (by omega) (by omega) (by omega)
  have e2 : (24 : Int32) - ((8 : Int32) * nI (k % 4)) = nI (24 - 8 * (k % 4)) := (sh8_n (k % 4) (by omega)).1
  have fin : ∀ w, b_X11_byteOf_45 M (nI k) w = some (bf w (24 - 8 * (k % 4))) := fun w => by
    unfold b_X11_byteOf_45
    rw [e1, e2]; rfl
  unfold f_X11_byteOf b_X11_byteOf_0
  rw [fin, fin, fin, fin, fin]
  have g4 : ∀ q : Nat, q < 2 ^ 31 → ((nI q ≤ nI k) ↔ q ≤ k) := fun q hq => nI_leI hq (by omega)
  show (if nI 4 ≤ nI k then if nI 8 ≤ nI k then if nI 12 ≤ nI k then if nI 16 ≤ nI k then _ else _ else _ else _ else _) = _
  unfold fB arg5
  by_cases c1 : 4 ≤ k
  · rw [if_pos ((g4 4 (by decide)).mpr c1)]
    by_cases c2 : 8 ≤ k
    · rw [if_pos ((g4 8 (by decide)).mpr c2)]
      by_cases c3 : 12 ≤ k
      · rw [if_pos ((g4 12 (by decide)).mpr c3)]
        by_cases c4 : 16 ≤ k
        · rw [if_pos ((g4 16 (by decide)).mpr c4), if_neg (show ¬ k / 4 = 0 by omega), if_neg (show ¬ k / 4 = 1 by omega), if_neg (show ¬ k / 4 = 2 by omega), if_neg (show ¬ k / 4 = 3 by omega)]
        · rw [if_neg (fun z => c4 ((g4 16 (by decide)).mp z)), if_neg (show ¬ k / 4 = 0 by omega), if_neg (show ¬ k / 4 = 1 by omega), if_neg (show ¬ k / 4 = 2 by omega), if_pos (show k / 4 = 3 by omega)]
      · rw [if_neg (fun z => c3 ((g4 12 (by decide)).mp z)), if_neg (show ¬ k / 4 = 0 by omega), if_neg (show ¬ k / 4 = 1 by omega), if_pos (show k / 4 = 2 by omega)]
    · rw [if_neg (fun z => c2 ((g4 8 (by decide)).mp z)), if_neg (show ¬ k / 4 = 0 by omega), if_pos (show k / 4 = 1 by omega)]
  · rw [if_neg (fun z => c1 ((g4 4 (by decide)).mp z)), if_pos (show k / 4 = 0 by omega)]
theorem apP_cnt (b : Nat → Int32) (n : Nat) : ∀ k, nI n + sI (fun k => if b k = 0 then 0 else 1) k = nI (apP b n k)
  | 0 => Int32.add_zero _
  | k + 1 => by
    rw [sI, apP, ← Int32.add_assoc, apP_cnt b n k]
    by_cases c : b k = 0
    · rw [if_pos c, if_pos c, Int32.add_zero]
    · rw [if_neg c, if_neg c, nI_1]
theorem m_feedT {b : Nat → Int32} (x0 x1 x2 x3 x4 : Int32) (hb : b = fB x0 x1 x2 x3 x4) (h2 : N 0 2 = nI n) (h : apP b n 20 ≤ 200) : ∃ X, loopN (fun s : xM × Int32 => bl_X11_feed_67 s.1 x0 x1 x2 x3 x4 s.2) BG (N, 0) = some X ∧ (∀ k, k ≠ 0 → k ≠ 1 → X k = N k) ∧ (∀ j, j ≠ 2 → X 0 j = N 0 j) ∧ X 0 2 = nI (apP b n 20) ∧ X 1 = apT b (N 1) n 20 := by
  obtain ⟨X, g1, g2⟩ := loopN_inv (body := fun s : xM × Int32 => bl_X11_feed_67 s.1 x0 x1 x2 x3 x4 s.2) (fun k s => s.2 = nI k ∧ (∀ k, k ≠ 0 → k ≠ 1 → s.1 k = N k) ∧ (∀ j, j ≠ 2 → s.1 0 j = N 0 j) ∧ s.1 0 2 = nI (apP b n k) ∧ s.1 1 = apT b (N 1) n k) (fun X => (∀ k, k ≠ 0 → k ≠ 1 → X k = N k) ∧ (∀ j, j ≠ 2 → X 0 j = N 0 j) ∧ X 0 2 = nI (apP b n 20) ∧ X 1 = apT b (N 1) n 20) 20 (by
      rintro k ⟨Y, y⟩ hk ⟨h1, h3, h4, h5, h6⟩
      dsimp only at h1 h3 h4 h5 h6
      subst h1
      dsimp only
      have hle := apP_mo b n (k + 1) (19 - k)
      rw [show k + 1 + (19 - k) = 20 by omega] at hle
      unfold bl_X11_feed_67 b_X11_feed_114
      rw [if_neg (gE 20 20 rfl hk (by decide)), m_byteOf _ _ _ _ _ _ hk, bd_s, ← hb]
      by_cases c : b k = 0
      · rw [if_pos c, lt_d, nI_1]
        refine ⟨_, rfl, rfl, h3, h4, ?_, ?_⟩
        · rw [apP, if_pos c]; exact h5
        · rw [apT, if_pos c]; exact h6
      · have e5 : apP b n (k + 1) = apP b n k + 1 := by rw [apP, if_neg c]
        rw [if_neg c, h5, gd_n (by omega) (by decide), clN (by omega), lt_d, uM_row _ _ _ _ (by decide), h5, lt_d, lt_d, nI_1, nI_1]
        refine ⟨_, rfl, rfl, fun q a b => ?_, fun j a => ?_, ?_, ?_⟩
        · dsimp only; rw [uM_row _ _ _ _ a, uM_row _ _ _ _ b]; exact h3 q a b
        · dsimp only; rw [uM_j _ _ _ _ a, uM_row _ _ _ _ (by decide)]; exact h4 j a
        · dsimp only; rw [e5]; exact uM_s _ _ _ _
        · dsimp only; rw [uM_row _ _ _ _ (by decide), uM4, h6, apT, if_neg c]) (by
      rintro ⟨Y, y⟩ ⟨h1, h3⟩
      dsimp only at h1 h3
      subst h1
      dsimp only
      unfold bl_X11_feed_67
      rw [if_pos (by decide)]
      exact ⟨_, rfl, h3⟩) (N, 0) BG ⟨rfl, fun _ _ _ => rfl, fun _ _ => rfl, h2, rfl⟩ (BG_lt (by omega))
  exact ⟨X, g1, g2⟩
end
theorem c_feed {M N : xM} (h : Rel M N) (x0 x1 x2 x3 x4 : Int32) : ∃ r M1 N1, f_X10_feed M x0 x1 x2 x3 x4 = some (r, M1) ∧ f_X11_feed N x0 x1 x2 x3 x4 = some (r, N1) ∧ Rel M1 N1 := by
  have S := SameN.th N 0
  have R := h.sn S
  unfold f_X10_feed b_X10_feed_0 b_X10_feed_70 b_X10_feed_71 f_X11_feed b_X11_feed_0 b_X11_feed_11
  rw [lt_d (uM N 0 0 0)]
  generalize uM N 0 0 0 = N0 at *
  have R' := R
  obtain ⟨⟨n, h0, h1, h2, h3⟩, hr, hq, ⟨c, c0, c1, c2, c3⟩, ⟨ng, nw, ne, no, b1, b2, b3⟩, i1, i2⟩ := R
  generalize hb : fB x0 x1 x2 x3 x4 = b
  have hcount := accN (body := fun s : Int32 × Int32 => bl_X11_feed_11 N0 x0 x1 x2 x3 x4 s.1 s.2) (fun k => if b k = 0 then 0 else 1) 20 0 (by omega) (fun k x hk => by
    dsimp only
    unfold bl_X11_feed_11 b_X11_feed_40
    rw [if_neg (gE 20 20 rfl hk (by decide)), m_byteOf _ _ _ _ _ _ hk, bd_s, hb]
    by_cases c : b k = 0
    · rw [if_pos c, if_pos c, lt_d, lt_d, nI_1]
    · rw [if_neg c, if_neg c, lt_d, lt_d, nI_1]) (fun x => by
    dsimp only
    unfold bl_X11_feed_11
    rw [if_pos (by decide)])
  rw [hcount, bd_s, Int32.zero_add, h2, apP_cnt]
  have hup := apP_up b n 20
  have hx : ∀ i j, i < 5 → j < 4 → b (4 * i + j) = bf (arg5 x0 x1 x2 x3 x4 i) (24 - 8 * j) := fun i j hi hj => by
    rw [← hb]
    show bf (arg5 x0 x1 x2 x3 x4 ((4 * i + j) / 4)) (24 - 8 * ((4 * i + j) % 4)) = _
    rw [show (4 * i + j) / 4 = i by omega, show (4 * i + j) % 4 = j by omega]
  -- a tape that is as it was
  have same : ∀ W, FX M (N0 1) n W → Rel (uM W 1 1 (nI n)) N0 := fun W hW => by
    obtain ⟨g1, g2, g3⟩ := hW
    have f : ∀ q, q ≠ 1 → q ≠ 2 → uM W 1 1 (nI n) q = M q := fun q a b => by rw [uM_row _ _ _ _ a]; exact g1 q a b
    refine ⟨⟨n, h0, uM_s _ _ _ _, h2, fun i hi => ⟨by rw [uM_row _ _ _ _ (by decide)]; exact g3 i hi, (h3 i hi).2⟩⟩, fun k hk => by rw [f 18 (by omega) (by omega)]; exact hr k hk, fun r hh => by rw [f 10 (by omega) (by omega)]; exact hq r hh,
      ⟨c, c0, by rw [f 6 (by omega) (by omega)]; exact c1, c2, fun j hj => by rw [f 7 (by omega) (by omega), f 8 (by omega) (by omega), f 9 (by omega) (by omega)]; exact c3 j hj⟩, ⟨ng, nw, ne, no, b1, b2.kp b1.bd (fun k q1 q2 q3 q4 => f k (by omega) (by omega)), fun i hi hp => by rw [f _ (by omega) (by omega)]; exact b3 i hi hp⟩, by rw [f 0 (by omega) (by omega)]; exact i1, ?_⟩
    rcases i2 with i2 | ⟨i2, ng', nw', ne', no', d1, d2, d3⟩
    · exact Or.inl i2
    · exact Or.inr ⟨i2, ng', nw', ne', no', d1, d2.kp d1.bd (fun k q1 q2 q3 q4 => f k (by omega) (by omega)), fun i hi hp => by rw [f _ (by omega) (by omega)]; exact d3 i hi hp⟩
  have st0 : FT M b (N0 1) n M (4 * 0) := ⟨fun _ _ _ => rfl, fun _ _ => rfl, h1, h0, fun i hi => (h3 i hi).1⟩
  have nofit : ∀ k d, 200 < apP b n k → k + d = 20 → ¬ nI (apP b n 20) ≤ (200 : Int32) := fun k d hk hd z => by
    have := apP_mo b n k d
    rw [hd] at this
    have z' : nI (apP b n 20) ≤ nI 200 := z
    rw [nI_leI (by omega) (by omega)] at z'
    omega
  rw [lt_d (M 1 1), h1]
  rcases c_take (fun j hj => hx 0 j (by omega) hj) st0 with ⟨p1, W1, t1, s1⟩ | ⟨p1, W1, t1, s1⟩
  rotate_left
  · have t1' : f_X7_take M x0 = some (0, W1) := t1
    rw [t1', bd2_s, if_pos rfl, if_pos rfl, lt_d, if_neg (nofit 4 16 p1 rfl)]
    exact ⟨_, _, _, rfl, rfl, same W1 s1⟩
  have t1' : f_X7_take M x0 = some (1, W1) := t1
  rw [t1', bd2_s, if_neg (by decide)]
  rcases c_take (i := 1) (fun j hj => hx 1 j (by omega) hj) s1 with ⟨p2, W2, t2, s2⟩ | ⟨p2, W2, t2, s2⟩
  rotate_left
  · have t2' : f_X7_take W1 x1 = some (0, W2) := t2
    rw [t2', bd2_s, if_pos rfl, if_pos rfl, lt_d, if_neg (nofit 8 12 p2 rfl)]
    exact ⟨_, _, _, rfl, rfl, same W2 s2⟩
  have t2' : f_X7_take W1 x1 = some (1, W2) := t2
  rw [t2', bd2_s, if_neg (by decide)]
  rcases c_take (i := 2) (fun j hj => hx 2 j (by omega) hj) s2 with ⟨p3, W3, t3, s3⟩ | ⟨p3, W3, t3, s3⟩
  rotate_left
  · have t3' : f_X7_take W2 x2 = some (0, W3) := t3
    rw [t3', bd2_s, if_pos rfl, if_pos rfl, lt_d, if_neg (nofit 12 8 p3 rfl)]
    exact ⟨_, _, _, rfl, rfl, same W3 s3⟩
  have t3' : f_X7_take W2 x2 = some (1, W3) := t3
  rw [t3', bd2_s, if_neg (by decide)]
  rcases c_take (i := 3) (fun j hj => hx 3 j (by omega) hj) s3 with ⟨p4, W4, t4, s4⟩ | ⟨p4, W4, t4, s4⟩
  rotate_left
  · have t4' : f_X7_take W3 x3 = some (0, W4) := t4
    rw [t4', bd2_s, if_pos rfl, if_pos rfl, lt_d, if_neg (nofit 16 4 p4 rfl)]
    exact ⟨_, _, _, rfl, rfl, same W4 s4⟩
  have t4' : f_X7_take W3 x3 = some (1, W4) := t4
  rw [t4', bd2_s, if_neg (by decide)]
  rcases c_take (i := 4) (fun j hj => hx 4 j (by omega) hj) s4 with ⟨p5, W5, t5, s5⟩ | ⟨p5, W5, t5, s5⟩
  rotate_left
  · have t5' : f_X7_take W4 x4 = some (0, W5) := t5
    rw [t5', bd2_s, if_pos rfl, if_pos rfl, lt_d, if_neg (nofit 20 0 p5 rfl)]
    exact ⟨_, _, _, rfl, rfl, same W5 s5⟩
  have t5' : f_X7_take W4 x4 = some (1, W5) := t5
  have p5' : apP b n 20 ≤ 200 := p5
  obtain ⟨g1, g2, g3, g4, g5⟩ : FT M b (N0 1) n W5 20 := s5
  obtain ⟨X, k1, k2, k3, k4, k5⟩ := m_feedT x0 x1 x2 x3 x4 hb.symm h2 p5'
  rw [t5', bd2_s, if_neg (by decide), if_neg (by decide), if_pos (show nI (apP b n 20) ≤ (200 : Int32) from nI_le (b := 200) p5' (by decide))]
  unfold b_X11_feed_67
  rw [k1, bd_s, g3, k4]
  have f : ∀ q, q ≠ 1 → q ≠ 2 → W5 q = M q := g1
  have hs : ∀ j, snap X c j = snap N0 c j := fun j => by unfold snap; rw [k2 4 (by omega) (by omega), k2 5 (by omega) (by omega)]
  refine ⟨_, _, _, rfl, rfl, ⟨apP b n 20, p5', g3, k4, fun i hi => ⟨by rw [g5 i hi, k5], ?_⟩⟩, fun k hk => by rw [f 18 (by omega) (by omega), k2 3 (by omega) (by omega)]; exact hr k hk, fun r hh => by rw [f 10 (by omega) (by omega), k2 7 (by omega) (by omega)]; exact hq r hh,
    ⟨c, c0, by rw [f 6 (by omega) (by omega)]; exact c1, by rw [k3 13 (by omega)]; exact c2, fun j hj => by rw [f 7 (by omega) (by omega), f 8 (by omega) (by omega), f 9 (by omega) (by omega), hs, hs]; exact c3 j hj⟩, ⟨ng, nw, ne, no, by rw [k2 4 (by omega) (by omega)]; exact b1, by rw [k2 4 (by omega) (by omega)]; exact b2.kp b1.bd (fun k q1 q2 q3 q4 => f k (by omega) (by omega)), fun i hi hp => ?_⟩, by rw [f 0 (by omega) (by omega), k3 15 (by omega)]; exact i1, ?_⟩
  · rw [k5]
    exact apT_in b (N0 1) n (fun i hi => (h3 i hi).2) (fun k hk => by rw [← hb] at hk ⊢; exact bf_r _ _ hk) 20 i hi
  · rw [k2 4 (by omega) (by omega)] at hp ⊢
    rw [f _ (by omega) (by omega), k2 3 (by omega) (by omega)]; exact b3 i hi hp
  · rw [k3 15 (by omega), k2 6 (by omega) (by omega)]
    rcases i2 with i2 | ⟨i2, ng', nw', ne', no', d1, d2, d3⟩
    · exact Or.inl i2
    · exact Or.inr ⟨i2, ng', nw', ne', no', d1, d2.kp d1.bd (fun k q1 q2 q3 q4 => f k (by omega) (by omega)), fun i hi hp => by rw [f _ (by omega) (by omega), k2 3 (by omega) (by omega)]; exact d3 i hi hp⟩
