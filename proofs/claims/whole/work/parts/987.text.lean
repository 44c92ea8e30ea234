/-! the rules' text: what the builder holds, and what the reference writes -/
def digs (v : Nat) : List Nat := if v < 10 then [48 + v] else if v < 100 then [48 + v / 10, 48 + v % 10] else if v < 1000 then [48 + v / 100, 48 + v / 10 % 10, 48 + v % 10] else [48 + v / 1000, 48 + v / 100 % 10, 48 + v / 10 % 10, 48 + v % 10]
def tSep (k : Nat) : List Nat := if k = 0 then [] else [59]
def tA (R : Nat → Nat) : Nat → List Nat
  | 0 => []
  | k + 1 => ((tA R k ++ tSep k) ++ sTx k ++ [32]) ++ digs (R k)
def tOk (t : List Nat) : Prop := ∀ j, j < t.length → t.getD j 0 < 128
theorem tOk_app {t u : List Nat} (h : tOk t) (g : tOk u) : tOk (t ++ u) := fun j hj => by
  rw [List.length_append] at hj
  rw [List.getD_eq_getElem?_getD]
  by_cases c : j < t.length
  · rw [List.getElem?_append_left c, ← List.getD_eq_getElem?_getD]; exact h j c
  · rw [List.getElem?_append_right (by omega), ← List.getD_eq_getElem?_getD]; exact g _ (by omega)
theorem digs_ok {v : Nat} (hv : v < 10000) : tOk (digs v) := by
  unfold digs
  split
  · intro j hj
    match j, hj with
    | 0, _ => show 48 + v < 128; omega
  · split
    · intro j hj
      match j, hj with
      | 0, _ => show 48 + v / 10 < 128; omega
      | 1, _ => show 48 + v % 10 < 128; omega
    · split
      · intro j hj
        match j, hj with
        | 0, _ => show 48 + v / 100 < 128; omega
        | 1, _ => show 48 + v / 10 % 10 < 128; omega
        | 2, _ => show 48 + v % 10 < 128; omega
      · intro j hj
        match j, hj with
        | 0, _ => show 48 + v / 1000 < 128; omega
        | 1, _ => show 48 + v / 100 % 10 < 128; omega
        | 2, _ => show 48 + v / 10 % 10 < 128; omega
        | 3, _ => show 48 + v % 10 < 128; omega
theorem digs_len {v : Nat} (hv : v < 10000) : (digs v).length = sb_dg v := by
  unfold digs sb_dg
  by_cases h1 : v < 10
  · rw [if_pos h1, if_pos h1]; rfl
  by_cases h2 : v < 100
  · rw [if_neg h1, if_neg h1, if_pos h2, if_pos h2]; rfl
  by_cases h3 : v < 1000
  · rw [if_neg h1, if_neg h1, if_neg h2, if_neg h2, if_pos h3, if_pos h3]; rfl
  · rw [if_neg h1, if_neg h1, if_neg h2, if_neg h2, if_neg h3, if_neg h3, if_pos hv]; rfl
theorem sTx_ok : ∀ k, k < 14 → tOk (sTx k) := by
  intro k hk j hj
  exact (show ∀ k, k < 14 → ∀ j, j < 6 → (sTx k).getD j 0 < 128 by decide +kernel) k hk j (by have := (sLen_ok k hk).1; unfold sLen at this; omega)
theorem tSep_ok (k : Nat) : tOk (tSep k) := by
  unfold tSep
  split
  · exact fun j hj => absurd hj (Nat.not_lt_zero j)
  · intro j hj
    match j, hj with
    | 0, _ => show 59 < 128; decide
theorem t1_ok {v : Nat} (h : v < 128) : tOk [v] := fun j hj => by
  match j, hj with
  | 0, _ => exact h
theorem tA_ok {R : Nat → Nat} (hR : ∀ k, k < 7 → R k < 10000) : ∀ k, k ≤ 7 → tOk (tA R k) := by
  intro k
  induction k with
  | zero => exact fun _ j hj => absurd hj (Nat.not_lt_zero j)
  | succ k ih =>
    intro hk
    exact tOk_app (tOk_app (tOk_app (tOk_app (ih (by omega)) (tSep_ok k)) (sTx_ok k (by omega))) (t1_ok (by decide))) (digs_ok (hR k (by omega)))
/-- the builder holds the text t -/
def HT (s : BS) (t : List Nat) : Prop := s.2.2.2 = t.length ∧ ∀ j, j < t.length → s.2.2.1 j = nI (t.getD j 0)
theorem getD_lo {t u : List Nat} {j : Nat} (h : j < t.length) : (t ++ u).getD j 0 = t.getD j 0 := by
  rw [List.getD_eq_getElem?_getD, List.getElem?_append_left h, ← List.getD_eq_getElem?_getD]
theorem getD_hi {t u : List Nat} {i : Nat} : (t ++ u).getD (t.length + i) 0 = u.getD i 0 := by
  rw [List.getD_eq_getElem?_getD, List.getElem?_append_right (by omega), Nat.add_sub_cancel_left, ← List.getD_eq_getElem?_getD]
theorem eG_at {g : Nat → Int32} {m q j : Nat} (h : j < m) : eG g m q j = g j := by
  unfold eG
  split
  · rfl
  · exact sb_cpy0 h
theorem HT_C {s : BS} {t : List Nat} (h : HT s t) (hm : s.2.2.2 ≤ s.2.1) (c : Nat → ClassId) (v : Nat) : HT (bC c v s) (t ++ [v]) := by
  obtain ⟨h1, h2⟩ := h
  refine ⟨by rw [List.length_append]; show s.2.2.2 + 1 = t.length + 1; omega, fun j hj => ?_⟩
  rw [List.length_append] at hj
  show upd (eG s.2.2.1 s.2.1 (s.2.2.2 + 1)) s.2.2.2 (nI v) j = _
  by_cases e : j < t.length
  · rw [pk_un (by omega), eG_at (by omega), h2 j e, getD_lo e]
  · have e : j = t.length + 0 := by have : j < t.length + 1 := hj; omega
    rw [show j = s.2.2.2 by omega, pk_us, show s.2.2.2 = t.length + 0 by omega, getD_hi]; rfl
theorem HT_S {s : BS} {t : List Nat} (h : HT s t) (hm : s.2.2.2 ≤ s.2.1) (c : Nat → ClassId) (i : Nat) : HT (bS c i s) (t ++ sTx i) := by
  obtain ⟨h1, h2⟩ := h
  refine ⟨by rw [List.length_append]; show s.2.2.2 + sLen i = t.length + _; rw [h1]; rfl, fun j hj => ?_⟩
  rw [List.length_append] at hj
  show va_cpy (sByt i) (eG s.2.2.1 s.2.1 (s.2.2.2 + sLen i)) 0 s.2.2.2 (sLen i) j = _
  by_cases e : j < t.length
  · rw [pk_cpy_out (Or.inl (by omega)), eG_at (by omega), h2 j e, getD_lo e]
  · obtain ⟨w, rfl⟩ := Nat.exists_eq_add_of_le (Nat.not_lt.mp e)
    rw [pk_cpy_in (by omega) (by show _ < s.2.2.2 + (sTx i).length; omega), getD_hi, h1, Nat.zero_add, Nat.add_sub_cancel_left]
    rfl
theorem up_ne {f : Nat → Int32} {k j : Nat} {x : Int32} (h : j ≠ k) : upd f k x j = f j := pk_un h
theorem gcA_lo {g : Nat → Int32} {p u j : Nat} (hj : j < p - sb_dg u) (hu : u < 100) : gcA g p u j = g j := by
  unfold gcA
  split
  · have : sb_dg u = 1 := if_pos (by assumption)
    rw [pk_un (by omega)]
  · have : sb_dg u = 2 := by rw [sb_dg, if_neg (by assumption), if_pos hu]
    rw [pk_un (by omega), pk_un (by omega)]
theorem nIe {a b : Nat} (h : a = b) : Int32.ofNat a = nI b := by rw [h]; rfl
theorem HT_I {s : BS} {t : List Nat} (h : HT s t) (hm : s.2.2.2 ≤ s.2.1) (c : Nat → ClassId) {v : Nat} (hv : v < 10000) : HT (bI c v s) (t ++ digs v) := by
  obtain ⟨h1, h2⟩ := h
  have hl := digs_len hv
  refine ⟨by rw [List.length_append, hl]; show s.2.2.2 + sb_dg v = _; omega, fun j hj => ?_⟩
  rw [List.length_append, hl] at hj
  show gcF (eG s.2.2.1 s.2.1 (s.2.2.2 + sb_dg v)) (s.2.2.2 + sb_dg v) v j = _
  generalize hG : eG s.2.2.1 s.2.1 (s.2.2.2 + sb_dg v) = G
  have hd := sb_dg_in v
  by_cases e : j < t.length
  · rw [getD_lo e, ← h2 j e, ← eG_at (g := s.2.2.1) (m := s.2.1) (q := s.2.2.2 + sb_dg v) (j := j) (by omega), hG]
    unfold gcF
    split
    · exact gcA_lo (by omega) (by assumption)
    · have hd2 := sb_dg100 (w := v) (by omega) (by omega)
      have hd3 := sb_dg_in (v / 100)
      rw [gcA_lo (by omega) (by omega), pk_un (by omega), pk_un (by omega)]
  · obtain ⟨i, rfl⟩ := Nat.exists_eq_add_of_le (Nat.not_lt.mp e)
    rw [getD_hi]
    have hi : i < sb_dg v := by omega
    rw [← h1]
    generalize s.2.2.2 = n
    clear hj e h1 h2 hG hm
    by_cases c1 : v < 10
    · have ed : sb_dg v = 1 := if_pos c1
      rw [ed] at hi ⊢
      have eD : digs v = [48 + v] := if_pos c1
      obtain rfl : i = 0 := by omega
      rw [gcF, if_pos (by omega), gcA, if_pos c1, eD, show n + 1 - 1 = n + 0 by omega, pk_us]
      exact nIe (by show 48 + v % 10 = 48 + v; omega)
    by_cases c2 : v < 100
    · have ed : sb_dg v = 2 := by rw [sb_dg, if_neg c1, if_pos c2]
      rw [ed] at hi ⊢
      have eD : digs v = [48 + v / 10, 48 + v % 10] := by rw [digs, if_neg c1, if_pos c2]
      rw [gcF, if_pos c2, gcA, if_neg c1, eD]
      obtain rfl | rfl : i = 0 ∨ i = 1 := by omega
      · rw [show n + 2 - 1 - 1 = n + 0 by omega, pk_us]; exact nIe rfl
      · rw [pk_un (by omega), show n + 2 - 1 = n + 1 by omega, pk_us]; exact nIe rfl
    by_cases c3 : v < 1000
    · have ed : sb_dg v = 3 := by rw [sb_dg, if_neg c1, if_neg c2, if_pos c3]
      rw [ed] at hi ⊢
      have eD : digs v = [48 + v / 100, 48 + v / 10 % 10, 48 + v % 10] := by rw [digs, if_neg c1, if_neg c2, if_pos c3]
      rw [gcF, if_neg c2, gcA, if_pos (by omega), eD]
      obtain rfl | rfl | rfl : i = 0 ∨ i = 1 ∨ i = 2 := by omega
      · rw [show n + 3 - 1 - 1 - 1 = n + 0 by omega, pk_us]; exact nIe (by show 48 + v / 100 % 10 = 48 + v / 100; omega)
      · rw [pk_un (by omega), show n + 3 - 1 - 1 = n + 1 by omega, pk_us]; exact nIe (by show 48 + v % 100 / 10 = 48 + v / 10 % 10; omega)
      · rw [pk_un (by omega), pk_un (by omega), show n + 3 - 1 = n + 2 by omega, pk_us]; exact nIe (by show 48 + v % 100 % 10 = 48 + v % 10; omega)
    · have ed : sb_dg v = 4 := by rw [sb_dg, if_neg c1, if_neg c2, if_neg c3, if_pos hv]
      rw [ed] at hi ⊢
      have eD : digs v = [48 + v / 1000, 48 + v / 100 % 10, 48 + v / 10 % 10, 48 + v % 10] := by rw [digs, if_neg c1, if_neg c2, if_neg c3]
      rw [gcF, if_neg c2, gcA, if_neg (by omega), eD]
      obtain rfl | rfl | rfl | rfl : i = 0 ∨ i = 1 ∨ i = 2 ∨ i = 3 := by omega
      · rw [show n + 4 - 1 - 1 - 1 - 1 = n + 0 by omega, pk_us]; exact nIe (by show 48 + v / 100 / 10 = 48 + v / 1000; omega)
      · rw [pk_un (by omega), show n + 4 - 1 - 1 - 1 = n + 1 by omega, pk_us]; exact nIe (by show 48 + v / 100 % 10 = 48 + v / 100 % 10; rfl)
      · rw [pk_un (by omega), pk_un (by omega), show n + 4 - 1 - 1 = n + 2 by omega, pk_us]; exact nIe (by show 48 + v % 100 / 10 = 48 + v / 10 % 10; omega)
      · rw [pk_un (by omega), pk_un (by omega), pk_un (by omega), show n + 4 - 1 = n + 3 by omega, pk_us]; exact nIe (by show 48 + v % 100 % 10 = 48 + v % 10; omega)
theorem HT_sep {s : BS} {t : List Nat} (h : HT s t) (hm : s.2.2.2 ≤ s.2.1) (c : Nat → ClassId) (k : Nat) : HT (bSep c k s) (t ++ tSep k) := by
  unfold bSep tSep
  split
  · rw [List.append_nil]; exact h
  · exact HT_C h hm c 59
theorem HT_all (c : Nat → ClassId) {R : Nat → Nat} (hR : ∀ k, k < 7 → R k < 10000) : ∀ k, k ≤ 7 → HT (bAll c R k) (tA R k) := by
  intro k
  induction k with
  | zero => exact fun _ => ⟨rfl, fun j hj => absurd hj (Nat.not_lt_zero j)⟩
  | succ k ih =>
    intro hk
    have i0 := bAll_ok c R hR k (by omega)
    have i1 := bSep_ok c k i0
    have i2 := bS_ok c k (by omega) i1
    have i3 := bC_ok c 32 (by decide) i2
    exact HT_I (HT_C (HT_S (HT_sep (ih (by omega)) i0.2.1 c k) i1.2.1 c k) i2.2.1 c 32) i3.2.1 c (hR k (by omega))
/-! the reference -/
def lookA (a : Int32) (t : List Nat) : Int32 := if 0 ≤ a.toInt ∧ a.toInt < t.length then nI (t.getD a.toNatClampNeg 0) else -1
def WS (N0 : xM) (a : Int32) (t : List Nat) (N : xM) : Prop := SameN N0 N ∧ N 0 27 = nI t.length ∧ N 0 28 = a ∧ N 0 29 = lookA a t
theorem ws_1 {N0 N : xM} {a : Int32} {t : List Nat} (h : WS N0 a t N) (ht : t.length < 1000) (v : Nat) {x : Int32} (hx : x = nI v) : ∃ N1, f_X11_writes N x = some N1 ∧ WS N0 a (t ++ [v]) N1 := by
  subst hx
  obtain ⟨S, c, d, e⟩ := h
  have el : (t ++ [v]).length = t.length + 1 := by rw [List.length_append]; rfl
  have key : ∀ s0 : Int32, s0 = lookA a (t ++ [v]) → ∃ N1, b_X11_writes_20 N s0 = some N1 ∧ WS N0 a (t ++ [v]) N1 := by
    intro s0 h0
    unfold b_X11_writes_20
    rw [lt_d, lt_d]
    refine ⟨_, rfl, (S.sf 29 _ (by decide)).sf 27 _ (by decide), ?_, ?_, ?_⟩
    · rw [uM_s, uM_j _ _ _ _ (by decide), c, nI_1, el]
    · rw [uM_j _ _ _ _ (by decide), uM_j _ _ _ _ (by decide), d]
    · rw [uM_j _ _ _ _ (by decide), uM_s, h0]
  unfold f_X11_writes b_X11_writes_0
  rw [c, d]
  by_cases q : nI t.length = a
  · rw [if_pos q]
    refine key _ ?_
    subst q
    have e1 : (nI t.length).toInt = (t.length : Int) := nI_toInt (by omega)
    rw [lookA, if_pos (by rw [e1, el]; omega), nI_clamp (by omega), show t.length = t.length + 0 from rfl, getD_hi]; rfl
  · rw [if_neg q, e]
    refine key _ ?_
    have ne : a.toInt ≠ (t.length : Int) := fun z => q (Int32.toInt_inj.mp (by rw [nI_toInt (by omega), z]))
    unfold lookA
    by_cases g : 0 ≤ a.toInt ∧ a.toInt < (t.length : Int)
    · rw [if_pos g, if_pos (by rw [el]; omega), getD_lo (by show a.toInt.toNat < _; omega)]
    · rw [if_neg g, if_neg (by rw [el]; omega)]
theorem i_divN {a b : Nat} (ha : a < 2 ^ 31) (h0 : 0 < b) (hb : b < 2 ^ 31) : nI a / nI b = nI (a / b) := pk_div ha h0 hb
theorem ws_word {N0 N : xM} {a x1 : Int32} {t : List Nat} (h : WS N0 a t N) (ht : t.length < 900) {i : Nat} (hi : i < 14) : ∃ N1, loopN (fun s : xM × Int32 => bl_X11_writesLine_7 s.1 x1 i s.2) BG (N, 0) = some N1 ∧ WS N0 a (t ++ sTx i) N1 := by
  have hl := sLen_ok i hi
  refine loopN_inv (fun (j : Nat) (s : xM × Int32) => s.2 = nI j ∧ WS N0 a (t ++ (sTx i).take j) s.1) (fun (r : xM) => WS N0 a (t ++ sTx i) r) (sLen i) (fun j s hj hs => ?_) (fun s hs => ?_) (N, 0) BG ⟨rfl, by rw [List.take_zero, List.append_nil]; exact h⟩ (by unfold BG; omega)
  · obtain ⟨h1, h2⟩ := hs
    have hlt : ((sTx i).take j).length = j := by rw [List.length_take]; show min j (sLen i) = j; omega
    obtain ⟨N1, e1, w1⟩ := ws_1 h2 (by rw [List.length_append, hlt]; omega) ((sTx i).getD j 0) (x := sByt i j) rfl
    refine ⟨(N1, nI (j + 1)), ?_, rfl, ?_⟩
    · simp only [bl_X11_writesLine_7, h1]
      rw [if_neg (show ¬ Int32.ofNat (sLen i) ≤ nI j from nI_ge hj (by omega)), gd_d (by rw [nI_toInt (by omega)]; omega) (by rw [nI_toInt (by omega)]; omega), nI_clamp (by omega), e1, bd_s, lt_d, nI_1]
    · have e : (sTx i).take (j + 1) = (sTx i).take j ++ [(sTx i).getD j 0] := by
        rw [List.take_add_one, List.getD_eq_getElem?_getD]
        have hj2 : j < (sTx i).length := hj
        rw [List.getElem?_eq_getElem hj2]; rfl
      rw [e, ← List.append_assoc]; exact w1
  · obtain ⟨h1, h2⟩ := hs
    refine ⟨s.1, ?_, ?_⟩
    · simp only [bl_X11_writesLine_7, h1]
      rw [if_pos (show Int32.ofNat (sLen i) ≤ nI (sLen i) from nI_le (Nat.le_refl _) (by omega))]
    · rw [List.take_of_length_le (show (sTx i).length ≤ sLen i from Nat.le_refl _)] at h2; exact h2
theorem ws_dig {N0 N : xM} {a : Int32} {t : List Nat} (h : WS N0 a t N) (ht : t.length < 900) {k v P : Nat} (hk : k < 7) (hv : N0 3 k = nI v) (hv2 : v < 10000) (hP : 0 < P) (hP2 : P ≤ 1000) : ∃ N1, bl_X11_writesLine_59 N (nI k) (nI P) = some (.inl (N1, nI (P / 10))) ∧ WS N0 a (t ++ [48 + v / P % 10]) N1 := by
  have e3 : N 3 k = nI v := by rw [h.1.2.2.2.2.1]; exact hv
  have hq : v / P ≤ v := Nat.div_le_self _ _
  have e4 : (48 : Int32) + (nI v / nI P - nI v / nI P / 10 * 10) = nI (48 + v / P % 10) := by
    rw [pk_div (by omega) hP (by omega), show (10 : Int32) = nI 10 from rfl, pk_rem (by omega) (by decide) (by decide), show (48 : Int32) = nI 48 from rfl, nI_add]
  obtain ⟨N1, e1, w1⟩ := ws_1 h (by omega) (48 + v / P % 10) e4
  refine ⟨N1, ?_, w1⟩
  unfold bl_X11_writesLine_59
  rw [if_neg (nI_nle hP (by omega)), gd_d (by rw [nI_toInt (by omega)]; omega) (by rw [nI_toInt (by omega)]; omega), g0, if_neg (nI_ne0 hP (by omega)), nI_clamp (by omega), e3, e1, bd_s, lt_d, show (10 : Int32) = nI 10 from rfl, pk_div (by omega) (by decide) (by decide)]
theorem ws_stop (N : xM) (x : Int32) : bl_X11_writesLine_59 N x (nI 0) = some (.inr N) := by
  unfold bl_X11_writesLine_59
  rw [if_pos (by decide)]
theorem bl38 {N : xM} {k v P : Nat} (hk : k < 7) (e3 : N 3 k = nI v) (hv2 : v < 10000) (hP : 0 < P) (hP2 : P ≤ 1000) : bl_X11_writesLine_38 N (nI k) (nI P) = if v / P ≤ 9 then some (.inr (nI P)) else some (.inl (nI (P * 10))) := by
  have hq : v / P ≤ v := Nat.div_le_self _ _
  unfold bl_X11_writesLine_38
  rw [gd_d (by rw [nI_toInt (by omega)]; omega) (by rw [nI_toInt (by omega)]; omega), g0, if_neg (nI_ne0 hP (by omega)), nI_clamp (by omega), e3, pk_div (by omega) hP (by omega), lt_d, show (10 : Int32) = nI 10 from rfl, pk_mul]
  by_cases c : v / P ≤ 9
  · rw [if_pos c, if_pos (show nI (v / P) ≤ (9 : Int32) from nI_le (b := 9) c (by decide))]
  · rw [if_neg c, if_neg (show ¬ nI (v / P) ≤ (9 : Int32) from nI_ge (a := 9) (by omega) (by omega))]
theorem BG_5 : BG = 99995 + 1 + 1 + 1 + 1 + 1 := rfl
theorem ws_digs {N0 N : xM} {a : Int32} {t : List Nat} (h : WS N0 a t N) (ht : t.length < 800) {k v : Nat} (hk : k < 7) (hv : N0 3 k = nI v) (hv2 : v < 10000) : ∃ N1, b_X11_writesLine_38 N (nI k) (1 : Int32) = some N1 ∧ WS N0 a (t ++ digs v) N1 := by
  have e3 : N 3 k = nI v := by rw [h.1.2.2.2.2.1]; exact hv
  have s1 := bl38 (P := 1) hk e3 hv2 (by decide) (by decide)
  have s2 := bl38 (P := 10) hk e3 hv2 (by decide) (by decide)
  have s3 := bl38 (P := 100) hk e3 hv2 (by decide) (by decide)
  have s4 := bl38 (P := 1000) hk e3 hv2 (by decide) (by decide)
  rw [Nat.div_one] at s1
  have l1 : ∀ {u : List Nat} {x : Nat}, (u ++ [x]).length = u.length + 1 := fun {u x} => by rw [List.length_append]; rfl
  unfold b_X11_writesLine_38
  by_cases c1 : v < 10
  · rw [if_pos (by omega)] at s1
    have e : loopN (fun s : Int32 => bl_X11_writesLine_38 N (nI k) s) BG (1 : Int32) = some (nI 1) := by
      rw [BG_5]; exact loopN_r s1
    rw [e, bd_s]
    obtain ⟨N1, a1, w1⟩ := ws_dig h (by omega) hk hv hv2 (P := 1) (by decide) (by decide)
    refine ⟨N1, ?_, ?_⟩
    · unfold b_X11_writesLine_59
      rw [BG_5, loopN_l (body := fun s : xM × Int32 => bl_X11_writesLine_59 s.1 (nI k) s.2) (s := (N, nI 1)) a1, loopN_r (body := fun s : xM × Int32 => bl_X11_writesLine_59 s.1 (nI k) s.2) (s := (N1, nI (1 / 10))) (ws_stop N1 _)]; rfl
    · rw [digs, if_pos c1]
      rw [Nat.div_one, Nat.mod_eq_of_lt c1] at w1; exact w1
  rw [if_neg (by omega)] at s1
  by_cases c2 : v < 100
  · rw [if_pos (by omega)] at s2
    have e : loopN (fun s : Int32 => bl_X11_writesLine_38 N (nI k) s) BG (1 : Int32) = some (nI 10) := by
      rw [BG_5]
      show loopN (fun s : Int32 => bl_X11_writesLine_38 N (nI k) s) (99995 + 1 + 1 + 1 + 1 + 1) (nI 1) = _
      rw [loopN_l (body := fun s : Int32 => bl_X11_writesLine_38 N (nI k) s) (s := nI 1) s1]; exact loopN_r s2
    rw [e, bd_s]
    obtain ⟨N1, a1, w1⟩ := ws_dig h (by omega) hk hv hv2 (P := 10) (by decide) (by decide)
    obtain ⟨N2, a2, w2⟩ := ws_dig w1 (by rw [l1]; omega) hk hv hv2 (P := 1) (by decide) (by decide)
    refine ⟨N2, ?_, ?_⟩
    · unfold b_X11_writesLine_59
      rw [BG_5, loopN_l (body := fun s : xM × Int32 => bl_X11_writesLine_59 s.1 (nI k) s.2) (s := (N, nI 10)) a1, loopN_l (body := fun s : xM × Int32 => bl_X11_writesLine_59 s.1 (nI k) s.2) (s := (N1, nI (10 / 10))) a2, loopN_r (body := fun s : xM × Int32 => bl_X11_writesLine_59 s.1 (nI k) s.2) (s := (N2, nI (1 / 10))) (ws_stop N2 _)]; rfl
    · rw [digs, if_neg c1, if_pos c2]
      rw [Nat.div_one, Nat.mod_eq_of_lt (show v / 10 < 10 by omega), List.append_assoc] at w2; exact w2
  rw [if_neg (by omega)] at s2
  by_cases c3 : v < 1000
  · rw [if_pos (by omega)] at s3
    have e : loopN (fun s : Int32 => bl_X11_writesLine_38 N (nI k) s) BG (1 : Int32) = some (nI 100) := by
      rw [BG_5]
      show loopN (fun s : Int32 => bl_X11_writesLine_38 N (nI k) s) (99995 + 1 + 1 + 1 + 1 + 1) (nI 1) = _
      rw [loopN_l (body := fun s : Int32 => bl_X11_writesLine_38 N (nI k) s) (s := nI 1) s1, loopN_l (body := fun s : Int32 => bl_X11_writesLine_38 N (nI k) s) (s := nI (1 * 10)) s2]; exact loopN_r s3
    rw [e, bd_s]
    obtain ⟨N1, a1, w1⟩ := ws_dig h (by omega) hk hv hv2 (P := 100) (by decide) (by decide)
    obtain ⟨N2, a2, w2⟩ := ws_dig w1 (by rw [l1]; omega) hk hv hv2 (P := 10) (by decide) (by decide)
    obtain ⟨N3, a3, w3⟩ := ws_dig w2 (by rw [l1, l1]; omega) hk hv hv2 (P := 1) (by decide) (by decide)
    refine ⟨N3, ?_, ?_⟩
    · unfold b_X11_writesLine_59
      rw [BG_5, loopN_l (body := fun s : xM × Int32 => bl_X11_writesLine_59 s.1 (nI k) s.2) (s := (N, nI 100)) a1, loopN_l (body := fun s : xM × Int32 => bl_X11_writesLine_59 s.1 (nI k) s.2) (s := (N1, nI (100 / 10))) a2, loopN_l (body := fun s : xM × Int32 => bl_X11_writesLine_59 s.1 (nI k) s.2) (s := (N2, nI (10 / 10))) a3, loopN_r (body := fun s : xM × Int32 => bl_X11_writesLine_59 s.1 (nI k) s.2) (s := (N3, nI (1 / 10))) (ws_stop N3 _)]; rfl
    · rw [digs, if_neg c1, if_neg c2, if_pos c3]
      rw [Nat.div_one, Nat.mod_eq_of_lt (show v / 100 < 10 by omega), List.append_assoc, List.append_assoc] at w3; exact w3
  · rw [if_neg (by omega)] at s3
    rw [if_pos (by omega)] at s4
    have e : loopN (fun s : Int32 => bl_X11_writesLine_38 N (nI k) s) BG (1 : Int32) = some (nI 1000) := by
      rw [BG_5]
      show loopN (fun s : Int32 => bl_X11_writesLine_38 N (nI k) s) (99995 + 1 + 1 + 1 + 1 + 1) (nI 1) = _
      rw [loopN_l (body := fun s : Int32 => bl_X11_writesLine_38 N (nI k) s) (s := nI 1) s1, loopN_l (body := fun s : Int32 => bl_X11_writesLine_38 N (nI k) s) (s := nI (1 * 10)) s2, loopN_l (body := fun s : Int32 => bl_X11_writesLine_38 N (nI k) s) (s := nI (10 * 10)) s3]; exact loopN_r s4
    rw [e, bd_s]
    obtain ⟨N1, a1, w1⟩ := ws_dig h (by omega) hk hv hv2 (P := 1000) (by decide) (by decide)
    obtain ⟨N2, a2, w2⟩ := ws_dig w1 (by rw [l1]; omega) hk hv hv2 (P := 100) (by decide) (by decide)
    obtain ⟨N3, a3, w3⟩ := ws_dig w2 (by rw [l1, l1]; omega) hk hv hv2 (P := 10) (by decide) (by decide)
    obtain ⟨N4, a4, w4⟩ := ws_dig w3 (by rw [l1, l1, l1]; omega) hk hv hv2 (P := 1) (by decide) (by decide)
    refine ⟨N4, ?_, ?_⟩
    · unfold b_X11_writesLine_59
      rw [BG_5, loopN_l (body := fun s : xM × Int32 => bl_X11_writesLine_59 s.1 (nI k) s.2) (s := (N, nI 1000)) a1, loopN_l (body := fun s : xM × Int32 => bl_X11_writesLine_59 s.1 (nI k) s.2) (s := (N1, nI (1000 / 10))) a2, loopN_l (body := fun s : xM × Int32 => bl_X11_writesLine_59 s.1 (nI k) s.2) (s := (N2, nI (100 / 10))) a3, loopN_l (body := fun s : xM × Int32 => bl_X11_writesLine_59 s.1 (nI k) s.2) (s := (N3, nI (10 / 10))) a4, loopN_r (body := fun s : xM × Int32 => bl_X11_writesLine_59 s.1 (nI k) s.2) (s := (N4, nI (1 / 10))) (ws_stop N4 _)]; rfl
    · rw [digs, if_neg c1, if_neg c2, if_neg c3]
      rw [Nat.div_one, Nat.mod_eq_of_lt (show v / 1000 < 10 by omega), List.append_assoc, List.append_assoc, List.append_assoc] at w4; exact w4
theorem sTx7 (k : Nat) : sTx (7 + k) = sTx k := by unfold sTx; rw [Nat.add_mod_left]
theorem ws_line {N0 N : xM} {a : Int32} {t : List Nat} (h : WS N0 a t N) (ht : t.length < 700) {k v : Nat} (hk : k < 7) (hv : N0 3 k = nI v) (hv2 : v < 10000) : ∃ N1, f_X11_writesLine N (nI k) = some N1 ∧ WS N0 a ((t ++ sTx k ++ [32]) ++ digs v) N1 := by
  have hl := (sLen_ok (7 + k) (by omega)).1
  have hl2 : (sTx (7 + k)).length < 6 := hl
  obtain ⟨N1, e1, w1⟩ := ws_word (x1 := nI k) h (by omega) (i := 7 + k) (by omega)
  have q1 : (t ++ sTx (7 + k)).length < 710 := by rw [List.length_append]; omega
  obtain ⟨N2, e2, w2⟩ := ws_1 w1 (by omega) 32 (x := (32 : Int32)) rfl
  obtain ⟨N3, e3, w3⟩ := ws_digs w2 (by rw [List.length_append]; show _ + 1 < _; omega) hk hv hv2
  refine ⟨N3, ?_, by rw [← sTx7 k]; exact w3⟩
  unfold f_X11_writesLine b_X11_writesLine_0
  rw [m_wordOf N k hk, bd_s]
  unfold b_X11_writesLine_7
  rw [e1, bd_s, e2, bd_s, e3]
theorem tA_len {R : Nat → Nat} (hR : ∀ k, k < 7 → R k < 10000) : ∀ k, k ≤ 7 → (tA R k).length ≤ 11 * k := by
  intro k
  induction k with
  | zero => exact fun _ => Nat.le_refl 0
  | succ k ih =>
    intro hk
    have h := ih (by omega)
    have hl : (sTx k).length < 6 := (sLen_ok k (by omega)).1
    have hd := dg4 (hR k (by omega))
    have hs : (tSep k).length ≤ 1 := by
      unfold tSep
      split
      · exact Nat.zero_le 1
      · exact Nat.le_refl 1
    show (((tA R k ++ tSep k) ++ sTx k ++ [32]) ++ digs (R k)).length ≤ _
    rw [List.length_append, List.length_append, List.length_append, List.length_append, digs_len (hR k (by omega))]
    show _ + _ + _ + 1 + _ ≤ _
    omega
theorem ws_all {N0 N : xM} {a : Int32} {R : Nat → Nat} (hR : ∀ k, k < 7 → N0 3 k = nI (R k) ∧ R k < 10000) (h : WS N0 a [] N) : ∃ N1, loopN (fun s : xM × Int32 => bl_X11_written_22 s.1 a s.2) BG (N, 0) = some N1 ∧ WS N0 a (tA R 7) N1 := by
  have hR2 : ∀ k, k < 7 → R k < 10000 := fun k hk => (hR k hk).2
  refine loopN_inv (fun (k : Nat) (s : xM × Int32) => s.2 = nI k ∧ WS N0 a (tA R k) s.1) (fun (r : xM) => WS N0 a (tA R 7) r) 7 (fun k s hk hs => ?_) (fun s hs => ?_) (N, 0) BG ⟨rfl, h⟩ (by unfold BG; omega)
  · obtain ⟨h1, h2⟩ := hs
    have hl := tA_len hR2 k (by omega)
    have fin : ∀ N1 : xM, WS N0 a (tA R k ++ tSep k) N1 → ∃ s', b_X11_written_38 N1 a (nI k) = some (.inl s') ∧ s'.2 = nI (k + 1) ∧ WS N0 a (tA R (k + 1)) s'.1 := by
      intro N1 w1
      have hs : (tSep k).length ≤ 1 := by
        unfold tSep
        split
        · exact Nat.zero_le 1
        · exact Nat.le_refl 1
      obtain ⟨N2, e2, w2⟩ := ws_line w1 (by rw [List.length_append]; omega) hk (hR k hk).1 (hR k hk).2
      refine ⟨(N2, nI (k + 1)), ?_, rfl, w2⟩
      unfold b_X11_written_38
      rw [e2, bd_s, lt_d, nI_1]
    by_cases c : k = 0
    · subst c
      have w1 : WS N0 a (tA R 0 ++ tSep 0) s.1 := h2
      obtain ⟨s', e1, e2, e3⟩ := fin s.1 w1
      refine ⟨s', ?_, e2, e3⟩
      simp only [bl_X11_written_22, h1]
      rw [if_neg (by decide), if_pos (by decide)]
      exact e1
    · obtain ⟨N1, e0, w1⟩ := ws_1 h2 (by omega) 59 (x := (59 : Int32)) rfl
      have w1 : WS N0 a (tA R k ++ tSep k) N1 := by rw [tSep, if_neg c]; exact w1
      obtain ⟨s', e1, e2, e3⟩ := fin N1 w1
      refine ⟨s', ?_, e2, e3⟩
      simp only [bl_X11_written_22, h1]
      rw [if_neg (show ¬ (7 : Int32) ≤ nI k from nI_ge (b := 7) hk (by decide)), if_neg (nI_nle (by omega) (by omega)), e0, bd_s]
      exact e1
  · obtain ⟨h1, h2⟩ := hs
    refine ⟨s.1, ?_, h2⟩
    simp only [bl_X11_written_22, h1]
    rw [if_pos (by decide)]
/-- 'written': the reference's answer is what the builder's text says -/
theorem c_written {M N : xM} (h : Rel M N) (a : Int32) : ∃ (R : Nat → Nat) (r : Int32) (N1 : xM), (∀ k, k < 7 → M 18 k = nI (R k) ∧ R k < 10000) ∧ f_X11_written N a = some (r, N1) ∧ SameN N N1 ∧
    ∀ c : Nat → ClassId, (∀ j, j < (bAll c R 7).2.2.2 → (bAll c R 7).2.2.1 j = nI ((tA R 7).getD j 0) ∧ (tA R 7).getD j 0 < 128) ∧ (a = -1 → r = nI (bAll c R 7).2.2.2) ∧ (¬ a = -1 → (a < 0 ∨ nI (bAll c R 7).2.2.2 ≤ a) → r = -1) ∧ ∀ j, j < (bAll c R 7).2.2.2 → a = nI j → r = nI ((tA R 7).getD j 0) := by
  have hq : ∀ k, k < 7 → M 18 k = nI (N 3 k).toNatClampNeg ∧ N 3 k = nI (N 3 k).toNatClampNeg ∧ (N 3 k).toNatClampNeg < 10000 := by
    intro k hk
    obtain ⟨h1, h2, h3⟩ := h.2.1 k hk
    have b : 0 ≤ (fLo k).toInt ∧ (fHi k).toInt < 10000 := (show ∀ k, k < 7 → 0 ≤ (fLo k).toInt ∧ (fHi k).toInt < 10000 by decide +kernel) k hk
    obtain ⟨n, hn, e, -⟩ := nI_of0 (a := N 3 k) (by omega)
    have e2 : (N 3 k).toNatClampNeg = n := by rw [e, nI_clamp hn]
    have e3 : (N 3 k).toInt = (n : Int) := by rw [e, nI_toInt hn]
    rw [e2]
    exact ⟨by rw [h1]; exact e, e, by omega⟩
  generalize hR : (fun k => (N 3 k).toNatClampNeg) = R
  have hq2 : ∀ k, k < 7 → N 3 k = nI (R k) ∧ R k < 10000 := fun k hk => by rw [← hR]; exact (hq k hk).2
  have hq1 : ∀ k, k < 7 → M 18 k = nI (R k) ∧ R k < 10000 := fun k hk => by rw [← hR]; exact ⟨(hq k hk).1, (hq k hk).2.2⟩
  have hR2 : ∀ k, k < 7 → R k < 10000 := fun k hk => (hq2 k hk).2
  have hl := tA_len hR2 7 (by decide)
  have ht := tA_ok hR2 7 (by decide)
  have w0 : WS N a [] (uM (uM (uM (uM N 0 0 0) 0 27 0) 0 28 a) 0 29 (-1)) := by
    refine ⟨(((SameN.th N 0).sf 27 _ (by decide)).sf 28 _ (by decide)).sf 29 _ (by decide), ?_, ?_, ?_⟩
    · rw [uM_j _ _ _ _ (by decide), uM_j _ _ _ _ (by decide), uM_s]; rfl
    · rw [uM_j _ _ _ _ (by decide), uM_s]
    · rw [uM_s, lookA, if_neg (by show ¬ (0 ≤ a.toInt ∧ a.toInt < ((0 : Nat) : Int)); omega)]
  obtain ⟨N1, e1, S, w27, w28, w29⟩ := ws_all hq2 w0
  have hn : ∀ c, (bAll c R 7).2.2.2 = (tA R 7).length := fun c => (HT_all c hR2 7 (by decide)).1
  generalize hT : tA R 7 = T at *
  refine ⟨R, if a = -1 then nI T.length else if wP T.length a then lookA a T else -1, N1, hq1, ?_, S, fun c => ⟨fun j hj => ?_, fun e => ?_, fun e1 e2 => ?_, fun j hj e => ?_⟩⟩
  · unfold f_X11_written b_X11_written_0
    rw [lt_d, lt_d, lt_d, lt_d]
    unfold b_X11_written_22
    rw [e1, bd_s]
    by_cases c1 : a = -1
    · rw [if_pos c1, if_pos c1]
      unfold b_X11_written_85
      rw [w27]
    · rw [if_neg c1, if_neg c1, m_in0 N1 (n := T.length) (by omega) a _ w27, bd_s]
      by_cases c2 : wP T.length a
      · rw [if_pos c2, if_neg (show ¬ (pI (wP T.length a) = 0) from fun z => (pI0 _).mp z c2)]
        unfold b_X11_written_85
        rw [w29]
      · rw [if_neg c2, if_pos ((pI0 _).mpr c2)]
        rfl
  · rw [hn c] at hj
    have g := (HT_all c hR2 7 (by decide)).2
    rw [hT] at g
    rw [hT]
    exact ⟨g j hj, ht j hj⟩
  · rw [if_pos e, hn c]
  · rw [if_neg e1]
    have n2 : ¬ wP T.length a := by
      rw [hn c] at e2
      rintro ⟨g1, g2⟩
      rcases e2 with z | z
      · rw [i_lt] at z
        have : (0 : Int32).toInt = 0 := by decide
        omega
      · rw [Int32.le_iff_toInt_le, nI_toInt (by omega)] at z
        omega
    rw [if_neg n2]
  · rw [hn c] at hj
    subst e
    have e3 : (nI j).toInt = (j : Int) := nI_toInt (by omega)
    have c1 : ¬ nI j = -1 := fun z => by
      rw [z] at e3
      have : (-1 : Int32).toInt = -1 := by decide
      omega
    have c2 : wP T.length (nI j) := by show _ ∧ _; omega
    rw [if_neg c1, if_pos c2, lookA, if_pos (by omega), nI_clamp (by omega), hT]
