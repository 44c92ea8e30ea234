/-! the reference: allowances, what is allowed, lays -/
def oI (x : Int) : Int32 := Int32.ofInt x
theorem oI_i {x : Int} (h1 : -2147483648 ≤ x) (h2 : x < 2147483648) : (oI x).toInt = x := by
  unfold oI
  rw [Int32.toInt_ofInt]
  exact i_bm h1 h2
theorem oI_e {a : Int32} {x : Int} (h : a.toInt = x) : a = oI x := by
  have h1 := Int32.le_toInt a
  have h2 := Int32.toInt_lt a
  rw [i_eq, oI_i (by omega) (by omega)]
  exact h
theorem oI_0 : oI 0 = 0 := by decide
abbrev WFo (V : Nat → Int32) (o : Nat) : Prop := dayP (V (435 + 5 * o + 2)) ∧ dayP (V (435 + 5 * o + 3)) ∧ (V (435 + 5 * o + 2)).toInt ≤ (V (435 + 5 * o + 3)).toInt ∧ amtP (V (435 + 5 * o + 4))
theorem kShare_bd {V : Nat → Int32} {o : Nat} (h : WFo V o) (y : Int) : 0 ≤ kShare V o y ∧ kShare V o y ≤ 99999 := by
  obtain ⟨h1, h2, h3, h4, h5⟩ := h
  unfold kShare
  split
  · rename_i hc
    generalize hd : min (V (435 + 5 * o + 3)).toInt (360 * y + 359) - max (V (435 + 5 * o + 2)).toInt (360 * y) + 1 = d
    have d1 : 1 ≤ d := by omega
    have d2 : d ≤ 360 := by omega
    generalize (V (435 + 5 * o + 4)).toInt = a at h4 h5
    have p1 : 0 ≤ a * d := Int.mul_nonneg (by omega) (by omega)
    have p2 : a * d ≤ 99999 * 360 := Int.mul_le_mul h5 d2 (by omega) (by omega)
    exact ⟨Int.ediv_nonneg p1 (by omega), by omega⟩
  · omega
theorem kAlnc_bd {V : Nat → Int32} {no : Nat} (h : ∀ o, o < no → WFo V o) (w k : Int32) (y : Int) : ∀ n, n ≤ no → 0 ≤ kAlnc V n w k y ∧ kAlnc V n w k y ≤ n * 99999 := by
  intro n hn
  refine zS_bd (fun o ho => ?_)
  split
  · exact kShare_bd (h o (by omega)) y
  · omega
theorem m_share (N : xM) {o y : Nat} (h : WFo (N 4) o) (hy : y < 10) : let f := imax (N 4 (435 + 5 * o + 2)) ((360 : Int32) * nI y); let g := imin (N 4 (435 + 5 * o + 3)) ((((360 : Int32) * nI y) + (360 : Int32)) - (1 : Int32));
    (g < f → kShare (N 4) o y = 0) ∧ (¬ g < f → (((N 4 (435 + 5 * o + 4)).toInt64 * ((g - f) + (1 : Int32)).toInt64) / (360 : Int64)).toInt32 = oI (kShare (N 4) o y)) := by
  obtain ⟨⟨h1, h1'⟩, ⟨h2, h2'⟩, h3, h4, h5⟩ := h
  have y1 : ((360 : Int32) * nI y) = nI (360 * y) := pk_mul 360 y
  have y2 : ((((360 : Int32) * nI y) + (360 : Int32)) - (1 : Int32)) = nI (360 * y + 359) := by
    rw [y1, show (360 : Int32) = nI 360 from rfl, nI_add, show (1 : Int32) = nI 1 from rfl, pk_sub (by omega)]
    congr 1
  have t1 : (nI (360 * y)).toInt = 360 * (y : Int) := by rw [nI_toInt (by omega)]; omega
  have t2 : (nI (360 * y + 359)).toInt = 360 * (y : Int) + 359 := by rw [nI_toInt (by omega)]; omega
  intro f g
  have hf : f.toInt = max (N 4 (435 + 5 * o + 2)).toInt (360 * y) := by
    show (imax _ _).toInt = _
    rw [imax_i, y1, t1]
  have hg : g.toInt = min (N 4 (435 + 5 * o + 3)).toInt (360 * y + 359) := by
    show (imin _ _).toInt = _
    rw [imin_i, y2, t2]
  unfold kShare
  rw [← hf, ← hg]
  constructor
  · intro q
    rw [i_lt] at q
    rw [if_neg (by omega)]
  · intro q
    rw [i_lt] at q
    rw [if_pos (by omega)]
    have e1 : (1 : Int32).toInt = 1 := by decide
    have e3 : (360 : Int64).toInt = 360 := by decide
    have b1 : (g - f).toInt = g.toInt - f.toInt := i_sub (by omega) (by omega)
    have b2 : (g - f + 1).toInt = g.toInt - f.toInt + 1 := by rw [i_add (by omega) (by omega), b1, e1]
    apply oI_e
    generalize hd : g.toInt - f.toInt + 1 = d at b2
    have d1 : 1 ≤ d := by omega
    have d2 : d ≤ 360 := by omega
    generalize ha : N 4 (435 + 5 * o + 4) = a at h4 h5
    have p1 : 0 ≤ a.toInt * d := Int.mul_nonneg (by omega) (by omega)
    have p2 : a.toInt * d ≤ 99999 * 360 := Int.mul_le_mul h5 d2 (by omega) (by omega)
    have m1 : (a.toInt64 * (g - f + 1).toInt64).toInt = a.toInt * d := by
      rw [ll_mul (by rw [i_l, i_l, b2]; omega) (by rw [i_l, i_l, b2]; omega), i_l, i_l, b2]
    have m2 : (a.toInt64 * (g - f + 1).toInt64 / (360 : Int64)).toInt = a.toInt * d / 360 := by
      rw [ll_div (by rw [e3]; decide), m1, e3, Int.tdiv_eq_ediv_of_nonneg p1]
    rw [l_i (by rw [m2]; omega) (by rw [m2]; omega), m2]
theorem m_alnc (N : xM) {no y : Nat} (h3 : N 4 3 = nI no) (hno : no ≤ 12) (h : ∀ o, o < no → WFo (N 4) o) (hy : y < 10) (w k : Int32) : f_X11_allowanceOf N w k (nI y) = some (oI (kAlnc (N 4) no w k y)) := by
  simp only [f_X11_allowanceOf, b_X11_allowanceOf_0, b_X11_allowanceOf_6]
  have hl := loopN_up (body := fun s : Int32 × Int32 => bl_X11_allowanceOf_6 N w k (nI y) s.1 s.2) (r := oI (kAlnc (N 4) no w k y))
    (fun o => (oI (kAlnc (N 4) o w k y), nI o)) no ?_ ?_ BG (BG_lt (by omega))
  · have e : (oI (kAlnc (N 4) 0 w k y), nI 0) = ((0 : Int32), (0 : Int32)) := rfl
    rw [e] at hl
    rw [hl, bd_s]
  · intro o ho
    have hW := h o ho
    obtain ⟨s1, s2⟩ := m_share N hW hy
    obtain ⟨k1, k2⟩ := kShare_bd hW (y : Int)
    obtain ⟨a1, a2⟩ := kAlnc_bd h w k y o (by omega)
    have step : ∀ x : Int, 0 ≤ x → x ≤ 99999 → oI (kAlnc (N 4) o w k y) + oI x = oI (kAlnc (N 4) o w k y + x) := by
      intro x x1 x2
      apply oI_e
      rw [i_add (by rw [oI_i (by omega) (by omega), oI_i (by omega) (by omega)]; omega) (by rw [oI_i (by omega) (by omega), oI_i (by omega) (by omega)]; omega), oI_i (by omega) (by omega), oI_i (by omega) (by omega)]
    have nx : kAlnc (N 4) (o + 1) w k y = kAlnc (N 4) o w k y + (if N 4 (435 + 5 * o) = w ∧ N 4 (435 + 5 * o + 1) = k then kShare (N 4) o y else 0) := rfl
    simp only [bl_X11_allowanceOf_6]
    rw [gd_d (by decide) (by decide), cl3, h3, if_neg (nI_ge ho (by omega)), m_o0 N (by omega), bd_s]
    have out : b_X11_allowanceOf_117 N w k (nI y) (oI (kAlnc (N 4) o w k y)) (nI o) = some (.inl (oI (kAlnc (N 4) o w k y + 0), nI (o + 1))) := by
      simp only [b_X11_allowanceOf_117, lt_d, nI_1, Int.add_zero]
    by_cases c1 : N 4 (435 + 5 * o) = w
    · rw [if_pos c1, m_o1 N (by omega), bd_s]
      by_cases c2 : N 4 (435 + 5 * o + 1) = k
      · rw [if_pos (And.intro c1 c2)] at nx
        rw [if_pos c2, m_o2 N (by omega), bd_s, lt_d, m_o3 N (by omega), bd_s, lt_d, nx]
        by_cases c3 : imin (N 4 (435 + 5 * o + 3)) ((((360 : Int32) * nI y) + (360 : Int32)) - (1 : Int32)) < imax (N 4 (435 + 5 * o + 2)) ((360 : Int32) * nI y)
        · rw [if_pos c3, s1 c3]
          simp only [b_X11_allowanceOf_114, b_X11_allowanceOf_117, lt_d, nI_1]
          rw [← oI_0, step 0 (by omega) (by omega)]
        · rw [if_neg c3, m_o4 N (by omega), bd_s]
          have s3 := s2 c3
          simp only [b_X11_allowanceOf_114, b_X11_allowanceOf_117, lt_d, nI_1]
          rw [s3, step _ k1 k2]
      · rw [if_neg c2, out, nx, if_neg (fun z => c2 z.2)]
    · rw [if_neg c1, out, nx, if_neg (fun z => c1 z.1)]
  · simp only [bl_X11_allowanceOf_6]
    rw [gd_d (by decide) (by decide), cl3, h3, if_pos (nI_le (Nat.le_refl no) (by omega))]
abbrev WFe (V : Nat → Int32) (i : Nat) : Prop := dayP (V (155 + 7 * i + 2)) ∧ amtP (V (155 + 7 * i + 3))
theorem kAsked_bd {V : Nat → Int32} {sm : Int} {ne : Nat} (h : ∀ i, i < ne → WFe V i) (e : Nat) : ∀ n, n ≤ ne → 0 ≤ kAsked V sm n e ∧ kAsked V sm n e ≤ n * 99999 := by
  intro n hn
  refine zS_bd (fun k hk => ?_)
  have := (h k (by omega)).2
  split <;> omega
def oL (x : Int) : Int64 := Int64.ofInt x
theorem oL_i {x : Int} (h1 : -9223372036854775808 ≤ x) (h2 : x < 9223372036854775808) : (oL x).toInt = x := by
  unfold oL
  rw [Int64.toInt_ofInt]
  exact l_bm h1 h2
theorem oL_e {a : Int64} {x : Int} (h : a.toInt = x) : a = oL x := by
  have h1 := Int64.le_toInt a
  have h2 := Int64.toInt_lt a
  rw [← Int64.toInt_inj, oL_i (by omega) (by omega)]
  exact h
theorem m_allowed (N : xM) {ne no i : Nat} (h2 : N 4 2 = nI ne) (hne : ne ≤ 40) (h3 : N 4 3 = nI no) (hno : no ≤ 12) (ho : ∀ o, o < no → WFo (N 4) o) (he : ∀ i, i < ne → WFe (N 4) i) (hi : i < ne) : f_X11_allowedOf N (nI i) = some (if N 4 (155 + 7 * i) = 1 then oI (kAlw (N 4) (N 3 1).toInt ne no i) else 0) := by
  simp only [f_X11_allowedOf, b_X11_allowedOf_0, b_X11_allowedOf_18]
  rw [m_e0 N (by omega), bd_s]
  by_cases hp : N 4 (155 + 7 * i) = 1
  rotate_left
  · rw [if_neg hp, if_neg hp]
  rw [if_pos hp, if_pos hp, m_isBacked N (by omega) hp, bd_s]
  unfold kAlw
  by_cases hb : kBack (N 4) (N 3 1).toInt i
  rotate_left
  · rw [fp_f hb, if_pos hb]; rfl
  rw [fp_t hb, if_neg (fun z => z hb), m_takes N (by omega), bd_s]
  by_cases ht : kTakes (N 4) (N 3 1).toInt i
  rotate_left
  · rw [fp_f ht, if_pos ht, m_e3 N (by omega), bd_s]
    exact congrArg some (oI_e rfl)
  rw [fp_t ht, if_neg (fun z => z ht)]
  simp only [b_X11_allowedOf_40]
  have hl := loopN_up (body := fun s : Int64 × Int32 => bl_X11_allowedOf_40 N (nI i) s.1 s.2) (r := oL (kAsked (N 4) (N 3 1).toInt ne i))
    (fun k => (oL (kAsked (N 4) (N 3 1).toInt k i), nI k)) ne ?_ ?_ BG (BG_lt (by omega))
  · have e : (oL (kAsked (N 4) (N 3 1).toInt 0 i), nI 0) = ((0 : Int64), (0 : Int32)) := rfl
    rw [e] at hl
    obtain ⟨d1, d2⟩ := (he i hi).1
    obtain ⟨q1, q2⟩ := (he i hi).2
    have hy : N 4 (155 + 7 * i + 2) / (360 : Int32) = nI ((N 4 (155 + 7 * i + 2)).toInt / 360).toNat := by
      rw [i_eq, d360 ⟨d1, d2⟩, nI_toInt (by omega)]
      omega
    rw [hl, bd_s, m_e1 N (by omega), bd_s, m_e4 N (by omega), bd_s, m_e2 N (by omega), bd_s, hy, m_alnc N h3 hno ho (by omega), bd_s, lt_d, m_e3 N (by omega), bd_s]
    have ey : (((N 4 (155 + 7 * i + 2)).toInt / 360).toNat : Int) = (N 4 (155 + 7 * i + 2)).toInt / 360 := by omega
    rw [ey]
    obtain ⟨a1, a2⟩ := kAlnc_bd ho (N 4 (155 + 7 * i + 1)) (N 4 (155 + 7 * i + 4)) ((N 4 (155 + 7 * i + 2)).toInt / 360) no (Nat.le_refl no)
    obtain ⟨b1, b2⟩ := kAsked_bd (sm := (N 3 1).toInt) he i ne (Nat.le_refl ne)
    apply congrArg some
    apply oI_e
    have e0 : (0 : Int64).toInt = 0 := by decide
    have s1 : ((oI (kAlnc (N 4) no (N 4 (155 + 7 * i + 1)) (N 4 (155 + 7 * i + 4)) ((N 4 (155 + 7 * i + 2)).toInt / 360))).toInt64 - oL (kAsked (N 4) (N 3 1).toInt ne i)).toInt = kAlnc (N 4) no (N 4 (155 + 7 * i + 1)) (N 4 (155 + 7 * i + 4)) ((N 4 (155 + 7 * i + 2)).toInt / 360) - kAsked (N 4) (N 3 1).toInt ne i := by
      rw [ll_sub (by rw [i_l, oI_i (by omega) (by omega), oL_i (by omega) (by omega)]; omega) (by rw [i_l, oI_i (by omega) (by omega), oL_i (by omega) (by omega)]; omega), i_l, oI_i (by omega) (by omega), oL_i (by omega) (by omega)]
    have s2 : (lmin (lmax 0 ((oI (kAlnc (N 4) no (N 4 (155 + 7 * i + 1)) (N 4 (155 + 7 * i + 4)) ((N 4 (155 + 7 * i + 2)).toInt / 360))).toInt64 - oL (kAsked (N 4) (N 3 1).toInt ne i))) (N 4 (155 + 7 * i + 3)).toInt64).toInt = min (max 0 (kAlnc (N 4) no (N 4 (155 + 7 * i + 1)) (N 4 (155 + 7 * i + 4)) ((N 4 (155 + 7 * i + 2)).toInt / 360) - kAsked (N 4) (N 3 1).toInt ne i)) (N 4 (155 + 7 * i + 3)).toInt := by
      rw [lmin_i, lmax_i, s1, e0, i_l]
    rw [l_i (by rw [s2]; omega) (by rw [s2]; omega), s2]
  · intro k hk
    have nx : kAsked (N 4) (N 3 1).toInt (k + 1) i = kAsked (N 4) (N 3 1).toInt k i + (if kTakes (N 4) (N 3 1).toInt k ∧ kAlike (N 4) k i ∧ kAhead (N 4) k i then (N 4 (155 + 7 * k + 3)).toInt else 0) := rfl
    obtain ⟨b1, b2⟩ := kAsked_bd (sm := (N 3 1).toInt) he i k (by omega)
    simp only [bl_X11_allowedOf_40]
    rw [gd_d (by decide) (by decide), cl2, h2, if_neg (nI_ge hk (by omega)), m_takes N (by omega), bd_s]
    have out : b_X11_allowedOf_92 N (nI i) (nI k) (oL (kAsked (N 4) (N 3 1).toInt k i)) = some (.inl (oL (kAsked (N 4) (N 3 1).toInt k i + 0), nI (k + 1))) := by
      simp only [b_X11_allowedOf_92, b_X11_allowedOf_93, lt_d, nI_1, Int.add_zero]
      have e : oL (kAsked (N 4) (N 3 1).toInt k i) + 0 = oL (kAsked (N 4) (N 3 1).toInt k i) := by simp
      rw [e]
    by_cases c1 : kTakes (N 4) (N 3 1).toInt k
    rotate_left
    · rw [fp_f c1, out, nx, if_neg (fun z => c1 z.1)]
    rw [fp_t c1, m_areAlike N (by omega) (by omega) (he k hk).1 (he i hi).1, bd_s]
    by_cases c2 : kAlike (N 4) k i
    rotate_left
    · rw [fp_f c2, out, nx, if_neg (fun z => c2 z.2.1)]
    rw [fp_t c2, m_isAhead N (by omega) (by omega), bd_s]
    by_cases c3 : kAhead (N 4) k i
    rotate_left
    · rw [fp_f c3, out, nx, if_neg (fun z => c3 z.2.2)]
    rw [if_pos (And.intro c1 (And.intro c2 c3))] at nx
    rw [fp_t c3, m_e3 N (by omega), bd_s, nx]
    simp only [b_X11_allowedOf_93, lt_d, nI_1]
    have := (he k hk).2
    congr 3
    apply oL_e
    rw [ll_add (by rw [i_l, oL_i (by omega) (by omega)]; omega) (by rw [i_l, oL_i (by omega) (by omega)]; omega), i_l, oL_i (by omega) (by omega)]
  · simp only [bl_X11_allowedOf_40]
    rw [gd_d (by decide) (by decide), cl2, h2, if_pos (nI_le (Nat.le_refl ne) (by omega))]
