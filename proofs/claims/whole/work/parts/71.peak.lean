/-! peaks: what a guardian holds -/
section
variable {M N : xM} {V A : Nat → Int32} {ng nw ne no : Nat}
theorem BB.laysR (h : BB M N V A ng nw ne no) : ∃ L, f_X11_lays N = some L ∧ SameN N L ∧ (∀ i, i < ne → L 8 i = A i) ∧ ∀ k, k ≠ 8 → L k = N k := by
  obtain ⟨h1, h2, ⟨w1, -, -⟩, -⟩ := h
  subst h1
  have hb := w1.bd
  refine ⟨_, m_lays N w1.c.2.2.1 hb.2.2.1 w1.c.2.2.2.1 hb.2.2.2 w1.fo w1.fe, (SameN.rf N).wr 8 _ (by omega) _, fun i hi => ?_, fun k hk => wr_row _ _ _ hk _⟩
  rw [wr_at, if_pos hi, h2]
  rfl
theorem m_laysMoneyR (B : BB M N V A ng nw ne no) {w : Nat} (hw : w < nw) : ∃ L, f_X11_laysMoney N (nI w) = some L ∧ SameN N L ∧ (∀ i, i < ne → L 8 i = A i) ∧ (∀ k, k < 3960 → L 9 k = mD V A ne w k) ∧ ∀ k, k ≠ 8 → k ≠ 9 → L k = N k := by
  have hb := B.bd
  obtain ⟨L, hL, SL, hA, hR⟩ := B.laysR
  simp only [f_X11_laysMoney, b_X11_laysMoney_0, b_X11_laysMoney_6]
  rw [hL, bd_s]
  obtain ⟨W1, h1, b1, r1⟩ := loopN_inv (body := fun s : xM × Int32 => bl_X11_laysMoney_6 s.1 (nI w) s.2)
    (I := fun p s => s.2 = nI p ∧ Bt L s.1 9 ∧ ∀ j, j < p → s.1 9 j = 0) (P := fun W => Bt L W 9 ∧ ∀ j, j < 3960 → W 9 j = 0) 3960 (by
      rintro p ⟨W, y⟩ hp ⟨h1, h2, h3⟩
      dsimp only at h1 h2 h3
      subst h1
      dsimp only
      simp only [bl_X11_laysMoney_6, lt_d, nI_1]
      rw [if_neg (show ¬ (3960 : Int32) ≤ nI p from nI_ge (b := 3960) hp (by omega)), gd_n (by omega) (by decide), clN (by omega)]
      refine ⟨_, rfl, rfl, h2.u _ _, fun j hj => ?_⟩
      dsimp only
      by_cases e : j = p
      · rw [e, uM_s]
      · rw [uM_j _ _ _ _ e]; exact h3 j (by omega)) (by
      rintro ⟨W, y⟩ ⟨h1, h2, h3⟩
      dsimp only at h1 h2 h3
      subst h1
      dsimp only
      simp only [bl_X11_laysMoney_6]
      rw [if_pos (show (3960 : Int32) ≤ nI 3960 from Int32.le_refl _)]
      exact ⟨_, rfl, h2, h3⟩) (L, 0) BG ⟨rfl, Bt.rf L 9, fun j hj => absurd hj (Nat.not_lt_zero j)⟩ (BG_lt (by omega))
  rw [h1, bd_s]
  simp only [b_X11_laysMoney_28]
  obtain ⟨W2, h2, b2, r2⟩ := loopN_inv (body := fun s : xM × Int32 => bl_X11_laysMoney_28 s.1 (nI w) s.2)
    (I := fun p s => s.2 = nI p ∧ Bt L s.1 9 ∧ ∀ j, j < 3960 → s.1 9 j = hS (ofW V w) (atE V) (kWorth V A) 0 p j) (P := fun W => Bt L W 9 ∧ ∀ j, j < 3960 → W 9 j = hS (ofW V w) (atE V) (kWorth V A) 0 ne j) ne (by
      rintro p ⟨W, y⟩ hp ⟨h1, h2, h3⟩
      dsimp only at h1 h2 h3
      subst h1
      have BW := (B.sn SL).sn ((SameN.rf L).bt h2 (by omega))
      have hAW : ∀ i, i < ne → W 8 i = A i := fun i hi => by rw [h2 8 (by decide)]; exact hA i hi
      obtain ⟨d1, d2⟩ := B.wf.dN hp
      dsimp only
      simp only [bl_X11_laysMoney_28, b_X11_laysMoney_71, lt_d, nI_1]
      rw [gd_d (by decide) (by decide), cl2, BW.1, B.wf.c.2.2.1, if_neg (nI_ge hp (by omega)), BW.eOf 1 hp 1 (by decide) rfl, bd_s, BW.eOf 2 hp 2 (by decide) rfl, bd_s, d1, show (360 : Int32) + nI (dyN V p) = nI (360 + dyN V p) from nI_add 360 _, gd_n (by omega) (by decide), BW.rWorth hAW hp, bd_s, gd_n (by omega) (by decide), clN (by omega)]
      by_cases c : V (155 + 7 * p + 1) = nI w
      · rw [if_pos c]
        refine ⟨_, rfl, rfl, h2.u _ _, fun j hj => ?_⟩
        dsimp only
        rw [uM_at]
        show _ = hS (ofW V w) (atE V) (kWorth V A) 0 p j + (if ofW V w p ∧ hit (atE V p) 0 j then kWorth V A p else 0)
        by_cases e : j = 360 + dyN V p
        · rw [if_pos ⟨rfl, e⟩, if_pos ⟨c, hit_t' (show 0 < 360 + dyN V p by omega) e⟩, ← e, h3 j hj]
        · rw [if_neg (fun z => e z.2), if_neg (fun z => hit_f' (show 0 < 360 + dyN V p by omega) e z.2), Int32.add_zero, h3 j hj]
      · rw [if_neg c]
        refine ⟨_, rfl, rfl, h2, fun j hj => ?_⟩
        dsimp only
        show _ = hS (ofW V w) (atE V) (kWorth V A) 0 p j + (if ofW V w p ∧ hit (atE V p) 0 j then kWorth V A p else 0)
        rw [if_neg (fun z => c z.1), Int32.add_zero, h3 j hj]) (by
      rintro ⟨W, y⟩ ⟨h1, h2, h3⟩
      dsimp only at h1 h2 h3
      subst h1
      have BW := (B.sn SL).sn ((SameN.rf L).bt h2 (by omega))
      dsimp only
      simp only [bl_X11_laysMoney_28]
      rw [gd_d (by decide) (by decide), cl2, BW.1, B.wf.c.2.2.1, if_pos (nI_le (Nat.le_refl ne) (by omega))]
      exact ⟨_, rfl, h2, h3⟩) (W1, 0) BG ⟨rfl, b1, fun j hj => by
        dsimp only
        rw [r1 j hj]; rfl⟩ (BG_lt (by omega))
  rw [h2, bd_s]
  simp only [b_X11_laysMoney_79]
  obtain ⟨W3, h3, b3, r3⟩ := loopN_inv (body := fun s : xM × Int32 => bl_X11_laysMoney_79 s.1 (nI w) s.2)
    (I := fun p s => s.2 = nI p ∧ Bt L s.1 9 ∧ ∀ j, j < 3960 → s.1 9 j = hS (ofW V w) (atE V) (kWorth V A) 0 ne j + hS (fun _ => True) atY (kBr V w) 0 p j) (P := fun W => Bt L W 9 ∧ ∀ j, j < 3960 → W 9 j = hS (ofW V w) (atE V) (kWorth V A) 0 ne j + hS (fun _ => True) atY (kBr V w) 0 9 j) 9 (by
      rintro p ⟨W, y⟩ hp ⟨h1, h2, h3⟩
      dsimp only at h1 h2 h3
      subst h1
      have BW := (B.sn SL).sn ((SameN.rf L).bt h2 (by omega))
      have e1 : ((360 : Int32) + (360 : Int32) * nI p) + (360 : Int32) = nI (360 * p + 720) := by
        rw [y360', show (360 : Int32) + nI (360 * p) = nI (360 + 360 * p) from nI_add 360 _, show nI (360 + 360 * p) + (360 : Int32) = nI (360 + 360 * p + 360) from nI_add _ 360, show 360 + 360 * p + 360 = 360 * p + 720 by omega]
      dsimp only
      simp only [bl_X11_laysMoney_79, lt_d, nI_1]
      rw [if_neg (show ¬ (9 : Int32) ≤ nI p from nI_ge (b := 9) hp (by omega)), e1, gd_n (by omega) (by decide), BW.rBr hw (by omega), bd_s, gd_n (by omega) (by decide), clN (by omega)]
      refine ⟨_, rfl, rfl, h2.u _ _, fun j hj => ?_⟩
      dsimp only
      rw [uM_at]
      show _ = _ + (hS (fun _ => True) atY (kBr V w) 0 p j + (if True ∧ hit (atY p) 0 j then kBr V w p else 0))
      by_cases e : j = 360 * p + 720
      · rw [if_pos ⟨rfl, e⟩, if_pos ⟨trivial, hit_t' (show 0 < 360 * p + 720 by omega) e⟩, ← e, h3 j hj, Int32.add_assoc]
      · rw [if_neg (fun z => e z.2), if_neg (fun z => hit_f' (show 0 < 360 * p + 720 by omega) e z.2), Int32.add_zero, h3 j hj]) (by
      rintro ⟨W, y⟩ ⟨h1, h2, h3⟩
      dsimp only at h1 h2 h3
      subst h1
      dsimp only
      simp only [bl_X11_laysMoney_79]
      rw [if_pos (show (9 : Int32) ≤ nI 9 from Int32.le_refl _)]
      exact ⟨_, rfl, h2, h3⟩) (W2, 0) BG ⟨rfl, b2, fun j hj => by
        dsimp only
        rw [r2 j hj]; exact (Int32.add_zero _).symm⟩ (BG_lt (by omega))
  rw [h3, bd_s]
  simp only [b_X11_laysMoney_120]
  obtain ⟨W4, h4, b4, r4⟩ := loopN_inv (body := fun s : xM × Int32 => bl_X11_laysMoney_120 s.1 s.2)
    (I := fun p s => s.2 = nI (p + 1) ∧ Bt L s.1 9 ∧ ∀ j, j < 3960 → s.1 9 j = if j < p + 1 then mD V A ne w j else hS (ofW V w) (atE V) (kWorth V A) 0 ne j + hS (fun _ => True) atY (kBr V w) 0 9 j) (P := fun W => Bt L W 9 ∧ ∀ j, j < 3960 → W 9 j = mD V A ne w j) 3959 (by
      rintro p ⟨W, y⟩ hp ⟨h1, h2, h3⟩
      dsimp only at h1 h2 h3
      subst h1
      dsimp only
      simp only [bl_X11_laysMoney_120, lt_d, nI_1]
      rw [if_neg (show ¬ (3960 : Int32) ≤ nI (p + 1) from nI_ge (b := 3960) (by omega) (by omega)), gd_n (by omega) (by decide), show nI (p + 1) - 1 = nI p from pk_sub (a := p + 1) (b := 1) (by omega), gd_n (by omega) (by decide), gd_n (by omega) (by decide), clN (by omega), clN (by omega)]
      refine ⟨_, rfl, rfl, h2.u _ _, fun j hj => ?_⟩
      dsimp only
      rw [uM_at]
      by_cases e : j = p + 1
      · rw [if_pos ⟨rfl, e⟩, if_pos (by omega), h3 (p + 1) (by omega), h3 p (by omega), if_neg (by omega), if_pos (by omega), e]
        unfold mD
        rw [lS_s, lS_s]
        ac_rfl
      · rw [if_neg (fun z => e z.2), h3 j hj]
        by_cases c : j < p + 1
        · rw [if_pos c, if_pos (by omega)]
        · rw [if_neg c, if_neg (by omega)]) (by
      rintro ⟨W, y⟩ ⟨h1, h2, h3⟩
      dsimp only at h1 h2 h3
      subst h1
      dsimp only
      simp only [bl_X11_laysMoney_120]
      rw [if_pos (show (3960 : Int32) ≤ nI (3959 + 1) from Int32.le_refl _)]
      exact ⟨_, rfl, h2, fun j hj => by rw [h3 j hj, if_pos (by omega)]⟩) (W3, 1) BG ⟨rfl, b3, fun j hj => by
        dsimp only
        rw [r3 j hj]
        by_cases c : j < 0 + 1
        · rw [if_pos c, show j = 0 by omega]
          unfold mD
          rw [lS_0, lS_0]
        · rw [if_neg c]⟩ (BG_lt (by omega))
  rw [h4, bd_s]
  exact ⟨W4, rfl, SL.bt b4 (by omega), fun i hi => by rw [b4 8 (by decide)]; exact hA i hi, r4, fun k h8 h9 => (b4 k h9).trans (hR k h8)⟩

def hF (V A : Nat → Int32) (ne g d w : Nat) : Int32 := if kGuard V w (nI d) = nI g then kEstOn V A ne w (nI d) else 0
def hH (V A : Nat → Int32) (ne nw g d : Nat) : Int32 := sI (hF V A ne g d) nw
theorem dN {d : Nat} (h : d < 3600) : dayP (nI d) := ⟨by rw [nI_toInt (by omega)]; omega, by rw [nI_toInt (by omega)]; omega⟩
theorem BB.hH_bd (B : BB M N V A ng nw ne no) {g d : Nat} (hd : d < 3600) : -216000000 ≤ (hH V A ne nw g d).toInt ∧ (hH V A ne nw g d).toInt ≤ 216000000 := by
  have hb := B.bd
  obtain ⟨h1, h2, h3⟩ := sI_z (f := hF V A ne g d) (B := 54000000) (n := nw) (fun w hw => by
    unfold hF
    split
    · exact B.estOn_bd hw (dN hd)
    · rw [i0]; omega) (by omega) (by omega)
  unfold hH
  omega
-- the days on which the sum may change
abbrev chN (V : Nat → Int32) (w i : Nat) : Nat := (V (7 + 37 * w + 3 + 2 * i)).toInt.toNat
abbrev chC (V : Nat → Int32) (w : Nat) : Nat := (V (7 + 37 * w + 2)).toInt.toNat
def Cand (V : Nat → Int32) (nw ne x : Nat) : Prop := x = 0 ∨ (∃ j, j < ne ∧ dyN V j = x) ∨ (∃ y, 1 ≤ y ∧ y < 10 ∧ x = 360 * y) ∨ ∃ w, w < nw ∧ ∃ i, i < chC V w ∧ chN V w i = x
theorem gTil_cg {V : Nat → Int32} {w : Nat} {d d' : Int32} : ∀ {k : Nat}, (∀ i, i < k → ((V (7 + 37 * w + 3 + 2 * i)).toInt ≤ d.toInt ↔ (V (7 + 37 * w + 3 + 2 * i)).toInt ≤ d'.toInt)) → gTil V w d k = gTil V w d' k
  | 0, _ => rfl
  | k + 1, h => by
    rw [gTil, gTil, gTil_cg (k := k) (fun i hi => h i (by omega))]
    by_cases c : (V (7 + 37 * w + 3 + 2 * k)).toInt ≤ d.toInt
    · rw [if_pos c, if_pos ((h k (by omega)).mp c)]
    · rw [if_neg c, if_neg (fun z => c ((h k (by omega)).mpr z))]
theorem WF.hH_same (h : WF V ng nw ne no) {g q : Nat} (hq : q + 1 < 3600) (hn : ¬ Cand V nw ne (q + 1)) : hH V A ne nw g (q + 1) = hH V A ne nw g q := by
  have hb := h.bd
  have t1 : (nI (q + 1)).toInt = q + 1 := by rw [nI_toInt (by omega)]; omega
  have t0 : (nI q).toInt = q := nI_toInt (by omega)
  refine sI_congr (fun w hw => ?_)
  have e1 : kGuard V w (nI (q + 1)) = kGuard V w (nI q) := by
    obtain ⟨-, -, ⟨ch, hch, v2, hcd, -⟩, -⟩ := h.w hw
    unfold kGuard
    refine gTil_cg (fun i hi => ?_)
    have hd := (hcd i (by rw [v2, nI_toInt (by omega)] at hi; omega)).1.1
    have hne : chN V w i ≠ q + 1 := fun z => hn (Or.inr (Or.inr (Or.inr ⟨w, hw, i, hi, z⟩)))
    have hc : ((chN V w i : Nat) : Int) = (V (7 + 37 * w + 3 + 2 * i)).toInt := Int.toNat_of_nonneg hd
    rw [t1, t0, ← hc]
    omega
  have e2 : kEstOn V A ne w (nI (q + 1)) = kEstOn V A ne w (nI q) := by
    unfold kEstOn kBrS
    have e3 : (((nI (q + 1)).toInt) / 360).toNat = (((nI q).toInt) / 360).toNat := by
      rw [t1, t0]
      have : ¬ ((q + 1) % 360 = 0) := fun z => hn (Or.inr (Or.inr (Or.inl ⟨(q + 1) / 360, by omega, by omega, by omega⟩)))
      omega
    rw [e3]
    congr 1
    refine sI_congr (fun i hi => ?_)
    obtain ⟨d1, d2⟩ := h.dN hi
    have hne : dyN V i ≠ q + 1 := fun z => hn (Or.inr (Or.inl ⟨i, hi, z⟩))
    have d3 : (V (155 + 7 * i + 2)).toInt = dyN V i := by rw [d1, nI_toInt (by omega)]
    rw [t1, t0, d3]
    by_cases c : V (155 + 7 * i + 1) = nI w
    · by_cases c2 : (dyN V i : Int) ≤ q
      · rw [if_pos ⟨c, by omega⟩, if_pos ⟨c, c2⟩]
      · rw [if_neg (fun z => by have := z.2; omega), if_neg (fun z => c2 z.2)]
    · rw [if_neg (fun z => c z.1), if_neg (fun z => c z.1)]
  unfold hF
  rw [e1, e2]
theorem WF.hH_cand (h : WF V ng nw ne no) (g : Nat) : ∀ q, q < 3600 → ∃ c, Cand V nw ne c ∧ c ≤ q ∧ hH V A ne nw g c = hH V A ne nw g q
  | 0, _ => ⟨0, Or.inl rfl, Nat.le_refl 0, rfl⟩
  | q + 1, hq => by
    by_cases c : Cand V nw ne (q + 1)
    · exact ⟨q + 1, c, Nat.le_refl _, rfl⟩
    · obtain ⟨c', h1, h2, h3⟩ := WF.hH_cand h g q (by omega)
      exact ⟨c', h1, by omega, h3.trans (h.hH_same hq c).symm⟩
/-- the first of the greatest -/
def PK (h : Nat → Int32) (last d : Nat) : Prop := d ≤ last ∧ (∀ q, q ≤ last → (h q).toInt ≤ (h d).toInt) ∧ ∀ q, q < d → (h q).toInt < (h d).toInt
theorem PK.uniq {h : Nat → Int32} {last d e : Nat} (a : PK h last d) (b : PK h last e) : d = e := by
  have h1 := a.2.1 e b.1
  have h2 := b.2.1 d a.1
  by_cases c : d < e
  · have := b.2.2 d c; omega
  · by_cases c2 : e < d
    · have := a.2.2 e c2; omega
    · omega
def PKT (h : Nat → Int32) (last : Nat) (T : Nat → Prop) (M : xM) : Prop := ∃ d, T d ∧ d ≤ last ∧ M 15 0 = nI d ∧ M 15 1 = h d ∧ ∀ q, T q → q ≤ last → (h q).toInt < (h d).toInt ∨ h q = h d ∧ d ≤ q
theorem PKT.cg {h : Nat → Int32} {last : Nat} {T T' : Nat → Prop} {M : xM} (p : PKT h last T M) (e : ∀ x, T x ↔ T' x) : PKT h last T' M := by
  obtain ⟨d, a, b, c, f, g⟩ := p
  exact ⟨d, (e d).mp a, b, c, f, fun q hq => g q ((e q).mpr hq)⟩
theorem c_heldL (B : BB M N V A ng nw ne no) {g q : Nat} (hq : q < 3600) : loopN (fun s : Int32 × Int32 => bl_X4_tryDay_13 M (nI g) (nI q) s.1 s.2) BG (0, 0) = some (hH V A ne nw g q) := by
  have hb := B.bd
  have m3 : M 17 3 = nI nw := B.rb.2.1
  have := accN (body := fun s : Int32 × Int32 => bl_X4_tryDay_13 M (nI g) (nI q) s.1 s.2) (hF V A ne g q) nw 0 (by omega) (fun w x hw => by
    dsimp only
    unfold bl_X4_tryDay_13 b_X4_tryDay_49
    rw [m3, if_neg (nI_ge hw (by omega)), gd_n (by omega) (by decide), clN (by omega), c_guardianOn B.k hw, bd_s]
    unfold hF
    by_cases c : kGuard V w (nI q) = nI g
    · rw [if_pos c, if_pos c, c_estateOn B.k hw (dN hq), bd_s, lt_d, lt_d, nI_1]
    · rw [if_neg c, if_neg c, lt_d, nI_1, Int32.add_zero]) (fun x => by
    dsimp only
    unfold bl_X4_tryDay_13
    rw [m3, if_pos (Int32.le_refl _)])
  rw [this, Int32.zero_add]
  rfl
theorem c_tryDay (B : BB M N V A ng nw ne no) {g q last : Nat} (hq : q < 3600) (hl : last < 3600) : ∃ M1, f_X4_tryDay M (nI g) (nI q) (nI last) = some M1 ∧ Bt M M1 15 ∧ (q ≤ last → M 15 0 = -1 → PKT (hH V A ne nw g) last (fun x => x = q) M1) ∧ ∀ T, PKT (hH V A ne nw g) last T M → PKT (hH V A ne nw g) last (fun x => T x ∨ x = q) M1 := by
  unfold f_X4_tryDay b_X4_tryDay_0 b_X4_tryDay_13 b_X4_tryDay_89 b_X4_tryDay_100
  have up : ∀ v, (lt (uM M 15 1 v) (fun M_1 => lt (uM M_1 15 0 (nI q)) (fun M_2 => some M_2))) = some (uM (uM M 15 1 v) 15 0 (nI q)) := fun v => rfl
  have u0 : ∀ v, uM (uM M 15 1 v) 15 0 (nI q) 15 0 = nI q := fun v => uM_s _ _ _ _
  have u1 : ∀ v, uM (uM M 15 1 v) 15 0 (nI q) 15 1 = v := fun v => by rw [uM_j _ _ _ _ (by decide), uM_s]
  have ub : ∀ v, Bt M (uM (uM M 15 1 v) 15 0 (nI q)) 15 := fun v => ((Bt.rf M 15).u _ _).u _ _
  by_cases c : q ≤ last
  rotate_left
  · rw [if_neg (nI_ge (by omega) (by omega))]
    refine ⟨M, rfl, Bt.rf M 15, fun z => absurd z c, fun T hT => ?_⟩
    obtain ⟨d, a, b, c', f, h⟩ := hT
    refine ⟨d, Or.inl a, b, c', f, fun x hx hl => ?_⟩
    rcases hx with hx | hx
    · exact h x hx hl
    · omega
  rw [if_pos (nI_le c (by omega)), c_heldL B hq, bd_s]
  generalize hv : hH V A ne nw g q = v
  by_cases c1 : M 15 0 = -1
  · rw [if_pos c1, up]
    refine ⟨_, rfl, ub v, fun _ _ => ⟨q, rfl, c, u0 v, (u1 v).trans hv.symm, fun x hx _ => by
      rw [hx]; exact Or.inr ⟨rfl, Nat.le_refl q⟩⟩, fun T hT => ?_⟩
    obtain ⟨d, a, b, c', f, h⟩ := hT
    rw [c1] at c'
    exact absurd (congrArg Int32.toInt c') (by rw [nI_toInt (by omega), show (-1 : Int32).toInt = -1 by decide]; omega)
  rw [if_neg c1]
  have low : (M 15 1).toInt ≤ v.toInt → (∀ d, M 15 1 = hH V A ne nw g d → M 15 0 = nI d → d ≤ last → ((M 15 1).toInt < v.toInt ∨ q < d)) → ∀ T, PKT (hH V A ne nw g) last T M → PKT (hH V A ne nw g) last (fun x => T x ∨ x = q) (uM (uM M 15 1 v) 15 0 (nI q)) := fun l1 l2 T hT => by
    obtain ⟨d, a, b, c', f, h⟩ := hT
    refine ⟨q, Or.inr rfl, c, u0 v, (u1 v).trans hv.symm, fun x hx hl => ?_⟩
    rw [hv]
    rcases hx with hx | hx
    · have h1 := h x hx hl
      have h2 := l2 d f c' b
      rw [f] at l1 h2
      rcases h1 with h1 | ⟨h1, h1'⟩
      · left; omega
      · rcases h2 with h2 | h2
        · left; rw [h1]; exact h2
        · by_cases e : (hH V A ne nw g d).toInt < v.toInt
          · left; rw [h1]; exact e
          · right
            refine ⟨?_, by omega⟩
            rw [h1]; exact Int32.toInt_inj.mp (by omega)
    · rw [hx]; exact Or.inr ⟨hv, Nat.le_refl q⟩
  have keep : v.toInt ≤ (M 15 1).toInt → (v = M 15 1 → (M 15 0).toInt ≤ q) → ∀ T, PKT (hH V A ne nw g) last T M → PKT (hH V A ne nw g) last (fun x => T x ∨ x = q) M := fun l1 l2 T hT => by
    obtain ⟨d, a, b, c', f, h⟩ := hT
    refine ⟨d, Or.inl a, b, c', f, fun x hx hl => ?_⟩
    rcases hx with hx | hx
    · exact h x hx hl
    · rw [hx, hv, ← f]
      by_cases e : v = M 15 1
      · right
        have := l2 e
        rw [c', nI_toInt (by omega)] at this
        exact ⟨e, by omega⟩
      · left
        have : v.toInt ≠ (M 15 1).toInt := fun z => e (Int32.toInt_inj.mp z)
        omega
  by_cases c2 : M 15 1 < v
  · rw [if_pos c2, up]
    rw [i_lt] at c2
    exact ⟨_, rfl, ub v, fun _ z => absurd z c1, low (by omega) (fun d _ _ _ => Or.inl c2)⟩
  rw [if_neg c2]
  rw [i_lt] at c2
  by_cases c3 : v = M 15 1
  · rw [if_pos c3]
    by_cases c4 : M 15 0 ≤ nI q
    · rw [if_pos c4]
      rw [i_le, nI_toInt (by omega)] at c4
      exact ⟨M, rfl, Bt.rf M 15, fun _ z => absurd z c1, keep (by omega) (fun _ => c4)⟩
    · rw [if_neg c4, up]
      rw [i_le, nI_toInt (by omega)] at c4
      refine ⟨_, rfl, ub v, fun _ z => absurd z c1, low (by rw [c3]; omega) (fun d _ e _ => Or.inr ?_)⟩
      rw [e, nI_toInt (by omega)] at c4; omega
  · rw [if_neg c3]
    exact ⟨M, rfl, Bt.rf M 15, fun _ z => absurd z c1, keep (by omega) (fun z => absurd z c3)⟩
end
