/-! the class: reckon finds what is allowed -/
theorem kAhead_tr {V : Nat → Int32} {a b c : Nat} (h : kAhead V a b) (g : kAhead V b c) : kAhead V a c := by
  have h' : dyI V a < dyI V b ∨ dyI V a = dyI V b ∧ a < b := h
  have g' : dyI V b < dyI V c ∨ dyI V b = dyI V c ∧ b < c := g
  show dyI V a < dyI V c ∨ dyI V a = dyI V c ∧ a < c
  omega
theorem kAhead_ir {V : Nat → Int32} {a : Nat} (h : kAhead V a a) : False := by
  have h' : dyI V a < dyI V a ∨ dyI V a = dyI V a ∧ a < a := h
  omega
/-- of one more place -/
theorem zS_one {f g : Nat → Int} {k0 : Nat} {x : Int} (hk : f k0 = 0 ∧ g k0 = x) (ho : ∀ k, k ≠ k0 → g k = f k) : ∀ n, zS g n = zS f n + (if k0 < n then x else 0)
  | 0 => by simp [zS]
  | n + 1 => by
    rw [zS, zS, zS_one hk ho n]
    by_cases e : n = k0
    · subst e
      rw [if_neg (Nat.lt_irrefl n), if_pos (Nat.lt_succ_self n), hk.1, hk.2]
    · rw [ho n e]
      by_cases c : k0 < n
      · rw [if_pos c, if_pos (by omega)]; omega
      · rw [if_neg c, if_neg (by omega)]; omega
/-- a sum over the places ahead, as the turn goes -/
theorem zS_turn {V : Nat → Int32} {n : Nat} {t : Nat → Nat} (h : TurnOK V n t) (g : Nat → Int) : ∀ p, p < n → zS (fun q => g (t q)) p = zS (fun k => if kAhead V k (t p) then g k else 0) n
  | 0, hp => by
    rw [zS]
    have e : zS (fun k => if kAhead V k (t 0) then g k else 0) n = zS (fun _ => 0) n := by
      refine zS_congr (fun k hk => ?_)
      obtain ⟨q, hq, rfl⟩ := h.2.2 k hk
      rw [if_neg]
      intro z
      by_cases e : q = 0
      · subst e; exact kAhead_ir z
      · exact kAhead_ir (kAhead_tr z (h.2.1 0 q (by omega) hq))
    rw [e]
    have z0 : ∀ m, zS (fun _ => 0) m = 0 := by
      intro m
      induction m with
      | zero => rfl
      | succ m ih => rw [zS, ih]; rfl
    exact (z0 n).symm
  | p + 1, hp => by
    rw [zS, zS_turn h g p (by omega)]
    have key := zS_one (f := fun k => if kAhead V k (t p) then g k else 0) (g := fun k => if kAhead V k (t p) ∨ k = t p then g k else 0) (k0 := t p) (x := g (t p)) ⟨if_neg (fun z => kAhead_ir z), if_pos (Or.inr rfl)⟩ (fun k hk => by simp [hk]) n
    rw [if_pos (h.1 p (by omega))] at key
    rw [← key]
    refine zS_congr (fun k hk => ?_)
    obtain ⟨q, hq, rfl⟩ := h.2.2 k hk
    have hpp := h.2.1 p (p + 1) (by omega) hp
    by_cases c : q < p + 1
    · have e1 : kAhead V (t q) (t (p + 1)) := h.2.1 q (p + 1) c hp
      rw [if_pos e1, if_pos]
      by_cases e : q = p
      · exact Or.inr (by rw [e])
      · exact Or.inl (h.2.1 q p (by omega) (by omega))
    · have e1 : ¬ kAhead V (t q) (t (p + 1)) := fun z => by
        by_cases e : q = p + 1
        · subst e; exact kAhead_ir z
        · exact kAhead_ir (kAhead_tr z (h.2.1 (p + 1) q (by omega) hq))
      rw [if_neg e1, if_neg]
      rintro (z | z)
      · exact kAhead_ir (kAhead_tr z (h.2.1 p q (by omega) hq))
      · exact e1 (by rw [z]; exact hpp)

/-- a loop with an invariant -/
theorem loopN_inv {σ ρ : Type} {body : σ → Option (σ ⊕ ρ)} (I : Nat → σ → Prop) (P : ρ → Prop) (n : Nat) (hs : ∀ i s, i < n → I i s → ∃ s', body s = some (.inl s') ∧ I (i + 1) s') (he : ∀ s, I n s → ∃ r, body s = some (.inr r) ∧ P r) : ∀ (s : σ) (fuel : Nat), I 0 s → n < fuel → ∃ r, loopN body fuel s = some r ∧ P r := by
  have key : ∀ (k i fuel : Nat) (s : σ), i + k = n → k < fuel → I i s → ∃ r, loopN body fuel s = some r ∧ P r := by
    intro k
    induction k with
    | zero =>
      intro i fuel s e hf hI
      obtain ⟨f, rfl⟩ : ∃ f, fuel = f + 1 := ⟨fuel - 1, by omega⟩
      have e2 : i = n := by omega
      subst e2
      obtain ⟨r, h1, h2⟩ := he s hI
      exact ⟨r, by rw [loopN, h1], h2⟩
    | succ k ih =>
      intro i fuel s e hf hI
      obtain ⟨f, rfl⟩ : ∃ f, fuel = f + 1 := ⟨fuel - 1, by omega⟩
      obtain ⟨s', h1, h2⟩ := hs i s (by omega) hI
      obtain ⟨r, h3, h4⟩ := ih (i + 1) f s' (by omega) (by omega) h2
      exact ⟨r, by rw [loopN, h1]; exact h3, h4⟩
  intro s fuel hI hf
  exact key n 0 fuel s (by omega) hf hI
/-- but for what is reckoned the book is the same -/
def Ag (M M1 : xM) (ne : Nat) : Prop := (∀ k, k ≠ 23 → k ≠ 24 → ¬ (45 ≤ k ∧ k < 45 + ne) → M1 k = M k) ∧ ∀ i, i < ne → ∀ j, j ≠ 8 → M1 (45 + i) j = M (45 + i) j
theorem Ag.cv {M M1 : xM} {V : Nat → Int32} {ng nw ne no : Nat} (hb : ng ≤ 3 ∧ nw ≤ 4 ∧ ne ≤ 40 ∧ no ≤ 12) (h : CV M V ng nw ne no) (a : Ag M M1 ne) : CV M1 V ng nw ne no := by
  refine h.kp hb (fun k h1 h2 h3 h4 h5 j hj => ?_)
  by_cases c : 45 ≤ k ∧ k < 45 + ne
  · obtain ⟨i, rfl⟩ : ∃ i, k = 45 + i := ⟨k - 45, by omega⟩
    exact a.2 i (by omega) j (by omega)
  · rw [a.1 k h4 h5 c]
theorem c_isBacked {M : xM} {V : Nat → Int32} {ng nw ne no i : Nat} (h : CV M V ng nw ne no) (hi : i < ne) (hr : V (155 + 7 * i + 6) = 0 ∨ V (155 + 7 * i + 6) = 1) (sm : Int32) : f_X2_isBacked M (45 + i) sm = some (pI (kBack V sm.toInt i)) := by
  obtain ⟨-, -, -, e3, -, -, e7, e6⟩ := h.e hi
  simp only [f_X2_isBacked, b_X2_isBacked_0, b_X2_isBacked_22, b_X2_isBacked_27, gz0, gz1]
  rw [e3, e7]
  rcases e6 with ⟨e6, hg⟩ | ⟨e6, hg⟩
  · rw [e6, if_neg (by decide), pI_t (Or.inr (Or.inl hg))]
  · rw [e6, if_pos rfl]
    by_cases c : (V (155 + 7 * i + 3)).toInt ≤ sm.toInt
    · rw [if_pos ((i_le _ _).mpr c), pI_t (Or.inr (Or.inr c))]
    · rw [if_neg (fun z => c ((i_le _ _).mp z))]
      rcases hr with z | z
      · have nb : ¬ kBack V sm.toInt i := by
          rintro (q | q | q)
          · rw [z] at q; exact absurd q (by decide)
          · exact hg q
          · exact c q
        rw [if_pos z, pI_f nb]
      · rw [if_neg (fun q => by rw [z] at q; exact absurd q (by decide)), pI_t (Or.inl z)]
abbrev cellN (V : Nat → Int32) (i : Nat) : Nat := ((V (155 + 7 * i + 1)).toInt.toNat * 2 + (V (155 + 7 * i + 4)).toInt.toNat) * 10 + ((V (155 + 7 * i + 2)).toInt / 360).toNat
abbrev gAsk (V : Nat → Int32) (sm : Int) (c k : Nat) : Int := if kTakes V sm k ∧ cellN V k = c then (V (155 + 7 * k + 3)).toInt else 0
abbrev WFp (V : Nat → Int32) (nw i : Nat) : Prop := (∃ w, w < nw ∧ V (155 + 7 * i + 1) = nI w) ∧ dayP (V (155 + 7 * i + 2)) ∧ amtP (V (155 + 7 * i + 3)) ∧ (V (155 + 7 * i + 6) = 0 ∨ V (155 + 7 * i + 6) = 1) ∧ (V (155 + 7 * i) = 1 → ∃ k, k < 4 ∧ V (155 + 7 * i + 4) = nI k)
theorem alike_iff {V : Nat → Int32} {sm : Int} {nw a b : Nat} (hn : nw ≤ 4) (ha : WFp V nw a) (hb : WFp V nw b) (ta : kTakes V sm a) (tb : kTakes V sm b) : kAlike V a b ↔ cellN V a = cellN V b := by
  obtain ⟨⟨w1, hw1, x1⟩, ⟨d1, d1'⟩, -, -, q1⟩ := ha
  obtain ⟨⟨w2, hw2, x2⟩, ⟨d2, d2'⟩, -, -, q2⟩ := hb
  obtain ⟨k1, hk1, y1⟩ := q1 ta.1
  obtain ⟨k2, hk2, y2⟩ := q2 tb.1
  have t1 := ta.2.1
  have t2 := tb.2.1
  unfold kAlike cellN
  rw [x1, x2, y1, y2] at *
  rw [nI_toInt (by omega)] at *
  rw [nI_toInt (by omega)] at *
  rw [nI_toInt (by omega)] at *
  rw [nI_toInt (by omega)] at *
  rw [nI_eq (by omega) (by omega), nI_eq (by omega) (by omega)]
  constructor
  · rintro ⟨z1, z2, z3⟩
    rw [z1, z2, z3]
  · intro z
    refine ⟨by omega, by omega, by omega⟩
theorem kLeft_bd {V : Nat → Int32} {no : Nat} (h : ∀ o, o < no → WFo V o) (hno : no ≤ 12) (w k : Int32) (y : Int) : 0 ≤ kAlnc V no w k y ∧ kAlnc V no w k y ≤ 1199988 := by
  have := kAlnc_bd h w k y no (Nat.le_refl no)
  omega
theorem zS_nn {f : Nat → Int} : ∀ {n : Nat}, (∀ i, i < n → 0 ≤ f i) → 0 ≤ zS f n
  | 0, _ => Int.le_refl 0
  | n + 1, h => by
    have h1 := zS_nn (n := n) (fun i hi => h i (by omega))
    have h2 := h n (by omega)
    rw [zS]; omega
abbrev Lc (V : Nat → Int32) (no c : Nat) : Int := kAlnc V no (nI (c / 20)) (nI (c / 10 % 2)) ((c % 10 : Nat) : Int)
/-- what reckon leaves -/
def Rkd (M M1 : xM) (V : Nat → Int32) (sm : Int) (ne no : Nat) : Prop := Ag M M1 ne ∧ ∀ i, i < ne → V (155 + 7 * i) = 1 → (M1 (45 + i) 8).toInt = kAlw V sm ne no i
theorem c_reckon {M : xM} {V : Nat → Int32} {ng nw ne no : Nat} (hb : ng ≤ 3 ∧ nw ≤ 4 ∧ ne ≤ 40 ∧ no ≤ 12) (h : CV M V ng nw ne no) (hW : ∀ o, o < no → WFo V o) (hw : ∀ o, o < no → (∃ w, w < nw ∧ V (435 + 5 * o) = nI w) ∧ (∃ k, k < 2 ∧ V (435 + 5 * o + 1) = nI k)) (hE : ∀ i, i < ne → WFp V nw i) : ∃ M1, f_X1_reckon M = some M1 ∧ Rkd M M1 V (M 18 1).toInt ne no := by
  simp only [f_X1_reckon, b_X1_reckon_0, b_X1_reckon_10]
  rw [c_fillLeft hb h hW hw, bd_s]
  have h1 : CV (sR M 23 (lR V no (M 23))) V ng nw ne no := h.sR hb 23 _ (by omega)
  rw [c_fillTurn hb h1, bd_s]
  generalize hM2 : sR (sR M 23 (lR V no (M 23))) 24 (fun q => if q < ne then nI (tN V ne q) else sR M 23 (lR V no (M 23)) 24 q) = M2
  have hT := tN_ok V ne
  generalize tN V ne = t at hT hM2
  have a2 : Ag M M2 ne := by
    rw [← hM2]
    exact ⟨fun k h1 h2 h3 => by rw [sR_n _ _ _ h2, sR_n _ _ _ h1], fun i hi j hj => by rw [sR_n _ _ _ (by omega), sR_n _ _ _ (by omega)]⟩
  have r23 : ∀ c, c < 80 → M2 23 c = oI (Lc V no c) := by
    intro c hc
    rw [← hM2, sR_n _ _ _ (by decide), sR_s]
    exact if_pos hc
  have r24 : ∀ q, q < ne → M2 24 q = nI (t q) := by
    intro q hq
    rw [← hM2, sR_s]
    exact if_pos hq
  have r18 : ∀ M3, Ag M M3 ne → M3 18 1 = M 18 1 := fun M3 a => by rw [a.1 18 (by decide) (by decide) (by omega)]
  generalize hsm : (M 18 1).toInt = sm
  have hlo := loopN_inv (body := fun s : xM × Int32 => bl_X1_reckon_10 s.1 s.2)
    (I := fun p s => s.2 = nI p ∧ Ag M s.1 ne ∧ (∀ q, q < ne → s.1 24 q = nI (t q)) ∧ (∀ c, c < 80 → s.1 23 c = oI (max 0 (Lc V no c - zS (fun q => gAsk V sm c (t q)) p))) ∧ ∀ q, q < p → V (155 + 7 * t q) = 1 → (s.1 (45 + t q) 8).toInt = kAlw V sm ne no (t q))
    (P := fun M1 => Ag M M1 ne ∧ ∀ q, q < ne → V (155 + 7 * t q) = 1 → (M1 (45 + t q) 8).toInt = kAlw V sm ne no (t q)) ne ?_ ?_ (M2, 0) BG ?_ (BG_lt (by omega))
  · obtain ⟨M1, hl, hP⟩ := hlo
    refine ⟨M1, by rw [hl, bd_s], hP.1, fun i hi hp => ?_⟩
    obtain ⟨q, hq, rfl⟩ := hT.2.2 i hi
    exact hP.2 q hq hp
  · rintro p ⟨M3, x3⟩ hp ⟨rfl, ag, s24, s23, sal⟩
    dsimp only at ag s24 s23 sal
    have hC : CV M3 V ng nw ne no := ag.cv hb h
    have ht := hT.1 p hp
    obtain ⟨e0, e1, e2, e3, e4, -, e7, -⟩ := hC.e ht
    have hWF := hE (t p) ht
    obtain ⟨⟨w, hw1, hw2⟩, ⟨d1, d2⟩, ⟨m1, m2⟩, hr, hk⟩ := id hWF
    simp only [bl_X1_reckon_10]
    rw [if_neg (show ¬ M3 17 5 ≤ nI p from by rw [hC.2.2.1]; exact nI_ge hp (by omega)), gd_n (by omega) (by decide), nI_clamp (by omega), s24 p hp, gd_n (by omega) (by decide), nI_clamp (by omega), e0]
    -- what the other cells of what is left say, if this one asks nothing
    have same : (V (155 + 7 * t p) = 1 → ¬ kTakes V sm (t p)) → ∀ c, c < 80 → M3 23 c = oI (max 0 (Lc V no c - zS (fun q => gAsk V sm c (t q)) (p + 1))) := by
      intro hn c hc
      rw [s23 c hc]
      show _ = oI (max 0 (_ - (zS (fun q => gAsk V sm c (t q)) p + gAsk V sm c (t p))))
      have z : gAsk V sm c (t p) = 0 := if_neg (fun z => hn z.1.1 z.1)
      rw [z, Int.add_zero]
    by_cases hp1 : V (155 + 7 * t p) = 1
    rotate_left
    · rw [if_neg hp1]
      simp only [b_X1_reckon_47, lt_d, nI_1]
      refine ⟨_, rfl, rfl, ag, s24, same (fun z => absurd z hp1), fun q hq hv => ?_⟩
      by_cases e : q = p
      · subst e; exact absurd hv hp1
      · exact sal q (by omega) hv
    rw [if_pos hp1]
    obtain ⟨kd, hkd, hk2⟩ := hk hp1
    -- the end of a step
    have fin : ∀ (M4 : xM) (v : Int32), (∀ k, k ≠ 23 → M4 k = M3 k) → (∀ c, c < 80 → M4 23 c = oI (max 0 (Lc V no c - zS (fun q => gAsk V sm c (t q)) (p + 1)))) → v.toInt = kAlw V sm ne no (t p) → ∃ s', (lt (uM M4 (45 + t p) 8 v) (fun M_8 => b_X1_reckon_47 M_8 (nI p)) : Option ((xM × Int32) ⊕ xM)) = some (.inl s') ∧ (s'.2 = nI (p + 1) ∧ Ag M s'.1 ne ∧ (∀ q, q < ne → s'.1 24 q = nI (t q)) ∧ (∀ c, c < 80 → s'.1 23 c = oI (max 0 (Lc V no c - zS (fun q => gAsk V sm c (t q)) (p + 1)))) ∧ ∀ q, q < p + 1 → V (155 + 7 * t q) = 1 → (s'.1 (45 + t q) 8).toInt = kAlw V sm ne no (t q)) := by
      intro M4 v h4 h5 h6
      simp only [b_X1_reckon_47, lt_d, nI_1]
      refine ⟨_, rfl, rfl, ⟨fun k g1 g2 g3 => ?_, fun i hi j hj => ?_⟩, fun q hq => ?_, fun c hc => ?_, fun q hq hv => ?_⟩
      · dsimp only
        rw [uM_row _ _ _ _ (by omega), h4 k g1, ag.1 k g1 g2 g3]
      · dsimp only
        rw [uM_at, if_neg (fun z => hj z.2), h4 _ (by omega), ag.2 i hi j hj]
      · dsimp only
        rw [uM_k _ _ _ _ (by omega), h4 24 (by decide)]; exact s24 q hq
      · dsimp only
        rw [uM_k _ _ _ _ (by omega)]; exact h5 c hc
      · dsimp only
        rw [uM_at]
        by_cases e : q = p
        · subst e; rw [if_pos ⟨rfl, rfl⟩]; exact h6
        · rw [if_neg (fun z => by
            have z1 : t q = t p := by omega
            have := hT.2.1 q p (by omega) hp
            rw [z1] at this
            exact kAhead_ir this), h4 _ (by omega)]
          exact sal q (by omega) hv
    simp only [f_X1_takeAllowed, b_X1_takeAllowed_0]
    rw [e7, e3, e4, e1, e2]
    have hR18 := r18 M3 ag
    rcases hr with hr | hr
    rotate_left
    · -- ratified
      rw [if_neg (fun q => by rw [hr] at q; exact absurd q (by decide)), bd2_s]
      refine fin M3 _ (fun _ _ => rfl) (same (fun _ z => by have q := z.2.2.1; rw [hr] at q; exact absurd q (by decide))) ?_
      unfold kAlw
      rw [if_neg (fun z => z (Or.inl hr)), if_pos (fun z => by have := z.2.2.1; rw [hr] at this; exact absurd this (by decide))]
    rw [if_pos hr, gd_d (by decide) (by decide), cl1, hR18, c_isBacked hC ht (Or.inl hr), bd_s, hsm]
    by_cases hbk : kBack V sm (t p)
    rotate_left
    · rw [fp_f hbk, bd2_s]
      refine fin M3 _ (fun _ _ => rfl) (same (fun _ z => hbk z.2.2.2)) ?_
      unfold kAlw
      rw [if_pos hbk]; rfl
    rw [fp_t hbk]
    have e2i : (2 : Int32).toInt = 2 := by decide
    by_cases hk3 : (V (155 + 7 * t p + 4)).toInt < 2
    rotate_left
    · rw [if_neg (fun z => hk3 (by have := (i_lt _ _).mp z; rw [e2i] at this; exact this)), bd2_s]
      refine fin M3 _ (fun _ _ => rfl) (same (fun _ z => hk3 z.2.1)) ?_
      unfold kAlw
      rw [if_neg (fun z => z hbk), if_pos (fun z => hk3 z.2.1)]
    have htk : kTakes V sm (t p) := ⟨hp1, hk3, hr, hbk⟩
    rw [if_pos ((i_lt _ _).mpr (by rw [e2i]; exact hk3))]
    have hkd2 : kd < 2 := by rw [hk2, nI_toInt (by omega)] at hk3; omega
    have hy : V (155 + 7 * t p + 2) / (360 : Int32) = nI ((V (155 + 7 * t p + 2)).toInt / 360).toNat := by
      rw [i_eq, d360 ⟨d1, d2⟩, nI_toInt (by omega)]
      omega
    have hcell : cellN V (t p) = (w * 2 + kd) * 10 + ((V (155 + 7 * t p + 2)).toInt / 360).toNat := by
      unfold cellN
      rw [hw2, hk2, nI_toInt (by omega), nI_toInt (by omega)]
      rfl
    have hyb : ((V (155 + 7 * t p + 2)).toInt / 360).toNat < 10 := by omega
    rw [hw2, hk2, hy, c_leftAt, bd_s, ← hcell]
    generalize hc0 : cellN V (t p) = c0 at hcell
    have hc80 : c0 < 80 := by omega
    rw [gd_n hc80 (by decide), lt_d, gd_n hc80 (by decide), gd_n hc80 (by decide), lt_d, nI_clamp (by omega), s23 c0 hc80, bd2_s]
    -- the sum of what was asked ahead
    have hL : Lc V no c0 = kAlnc V no (V (155 + 7 * t p + 1)) (V (155 + 7 * t p + 4)) ((V (155 + 7 * t p + 2)).toInt / 360) := by
      unfold Lc
      have q1 : c0 / 20 = w := by omega
      have q2 : c0 / 10 % 2 = kd := by omega
      have q3 : c0 % 10 = ((V (155 + 7 * t p + 2)).toInt / 360).toNat := by omega
      rw [q1, q2, q3, hw2, hk2]
      congr 1
      omega
    have hS : zS (fun q => gAsk V sm c0 (t q)) p = kAsked V sm ne (t p) := by
      rw [zS_turn hT (gAsk V sm c0) p hp]
      refine zS_congr (fun k hk => ?_)
      by_cases c1 : kAhead V k (t p)
      · rw [if_pos c1]
        by_cases c2 : kTakes V sm k
        · by_cases c3 : cellN V k = c0
          · rw [if_pos ⟨c2, (alike_iff hb.2.1 (hE k hk) hWF c2 htk).mpr (by rw [c3, hc0]), c1⟩]
            exact if_pos ⟨c2, c3⟩
          · rw [if_neg (fun z => c3 (by rw [(alike_iff hb.2.1 (hE k hk) hWF c2 htk).mp z.2.1, hc0]))]
            exact if_neg (fun z => c3 z.2)
        · rw [if_neg (fun z => c2 z.1)]
          exact if_neg (fun z => c2 z.1)
      · rw [if_neg c1, if_neg (fun z => c1 z.2.2)]
    obtain ⟨l1, l2⟩ := kLeft_bd hW hb.2.2.2 (V (155 + 7 * t p + 1)) (V (155 + 7 * t p + 4)) ((V (155 + 7 * t p + 2)).toInt / 360)
    have l3 : 0 ≤ kAsked V sm ne (t p) := zS_nn (fun k hk => by
      have := (hE k hk).2.2.1
      split <;> omega)
    rw [hS, hL]
    generalize hLz : kAlnc V no (V (155 + 7 * t p + 1)) (V (155 + 7 * t p + 4)) ((V (155 + 7 * t p + 2)).toInt / 360) = Lz at l1 l2 hL
    have o1 : (oI (max 0 (Lz - kAsked V sm ne (t p)))).toInt = max 0 (Lz - kAsked V sm ne (t p)) := oI_i (by omega) (by omega)
    have o2 : (imin (V (155 + 7 * t p + 3)) (oI (max 0 (Lz - kAsked V sm ne (t p))))).toInt = min (V (155 + 7 * t p + 3)).toInt (max 0 (Lz - kAsked V sm ne (t p))) := by rw [imin_i, o1]
    refine fin _ _ (fun k hk => uM_row _ _ _ _ hk) (fun c hc => ?_) ?_
    · show _ = oI (max 0 (_ - (zS (fun q => gAsk V sm c (t q)) p + gAsk V sm c (t p))))
      by_cases e : c = c0
      · subst e
        have g1 : gAsk V sm c (t p) = (V (155 + 7 * t p + 3)).toInt := if_pos ⟨htk, hc0⟩
        rw [uM_s, g1, hS, hL]
        apply oI_e
        rw [i_sub (by rw [o1, o2]; omega) (by rw [o1, o2]; omega), o1, o2]
        omega
      · have g1 : gAsk V sm c (t p) = 0 := if_neg (fun z => e (by rw [← z.2, hc0]))
        rw [uM_j _ _ _ _ e, s23 c hc, g1, Int.add_zero]
    · rw [o2]
      unfold kAlw
      rw [if_neg (fun z => z hbk), if_neg (fun z => z htk), hLz]
      omega
  · rintro ⟨M3, x3⟩ ⟨rfl, ag, -, -, sal⟩
    dsimp only at ag sal
    simp only [bl_X1_reckon_10]
    have hC : CV M3 V ng nw ne no := ag.cv hb h
    rw [if_pos (show M3 17 5 ≤ nI ne from by rw [hC.2.2.1]; exact nI_le (Nat.le_refl ne) (by omega))]
    exact ⟨M3, rfl, ag, sal⟩
  · refine ⟨rfl, a2, r24, fun c hc => ?_, fun q hq => absurd hq (Nat.not_lt_zero q)⟩
    show M2 23 c = _
    rw [r23 c hc]
    show oI _ = oI (max 0 (_ - 0))
    obtain ⟨l1, -⟩ := kLeft_bd hW hb.2.2.2 (nI (c / 20)) (nI (c / 10 % 2)) ((c % 10 : Nat) : Int)
    congr 1
    have : 0 ≤ Lc V no c := l1
    omega
