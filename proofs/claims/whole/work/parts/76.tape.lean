/-! the tape: past runs, words, numbers; the class's readers -/
def pst (P : Nat → Prop) [DecidablePred P] : Nat → Nat → Nat
  | 0, p => p
  | f + 1, p => if P p then pst P f (p + 1) else p
theorem pst_bd (P : Nat → Prop) [DecidablePred P] : ∀ f p, p ≤ pst P f p ∧ pst P f p ≤ p + f
  | 0, p => ⟨Nat.le_refl p, Nat.le_refl p⟩
  | f + 1, p => by
    unfold pst
    split
    · have := pst_bd P f (p + 1); omega
    · omega
theorem pst_in (P : Nat → Prop) [DecidablePred P] : ∀ f p q, p ≤ q → q < pst P f p → P q
  | 0, p, q, h1, h2 => by
    have h2' : q < p := h2
    omega
  | f + 1, p, q, h1, h2 => by
    unfold pst at h2
    split at h2
    · rename_i c
      by_cases e : q = p
      · subst e; exact c
      · exact pst_in P f (p + 1) q (by omega) h2
    · omega
theorem pst_stop (P : Nat → Prop) [DecidablePred P] : ∀ f p, pst P f p = p + f ∨ ¬ P (pst P f p)
  | 0, p => Or.inl rfl
  | f + 1, p => by
    unfold pst
    split
    · rcases pst_stop P f (p + 1) with h | h
      · left; omega
      · exact Or.inr h
    · rename_i c; exact Or.inr c
theorem pst_no (P : Nat → Prop) [DecidablePred P] (f p : Nat) (h : ¬ P p) : pst P f p = p := by
  cases f with
  | zero => rfl
  | succ f => unfold pst; rw [if_neg h]
/-- a loop that goes past -/
theorem pstL {σ ρ : Type} {body : σ → Option (σ ⊕ ρ)} (P : Nat → Prop) [DecidablePred P] (n : Nat) (I : Nat → σ → Prop) (Q : Nat → ρ → Prop) (hs : ∀ q s, q < n → I q s → if P q then ∃ s', body s = some (.inl s') ∧ I (q + 1) s' else ∃ r, body s = some (.inr r) ∧ Q q r) (he : ∀ s, I n s → ∃ r, body s = some (.inr r) ∧ Q n r) : ∀ f p fuel s, p + f = n → f < fuel → I p s → ∃ r, loopN body fuel s = some r ∧ Q (pst P f p) r := by
  intro f
  induction f with
  | zero =>
    intro p fuel s e hf hI
    obtain ⟨fu, rfl⟩ : ∃ fu, fuel = fu + 1 := ⟨fuel - 1, by omega⟩
    obtain ⟨r, h1, h2⟩ := he s (by rw [← e]; exact hI)
    refine ⟨r, by rw [loopN, h1], ?_⟩
    show Q p r
    rw [show p = n by omega]; exact h2
  | succ f ih =>
    intro p fuel s e hf hI
    obtain ⟨fu, rfl⟩ : ∃ fu, fuel = fu + 1 := ⟨fuel - 1, by omega⟩
    have h := hs p s (by omega) hI
    unfold pst
    by_cases c : P p
    · rw [if_pos c] at h ⊢
      obtain ⟨s', h1, h2⟩ := h
      obtain ⟨r, h3, h4⟩ := ih (p + 1) fu s' (by omega) (by omega) h2
      exact ⟨r, by rw [loopN, h1]; exact h3, h4⟩
    · rw [if_neg c] at h ⊢
      obtain ⟨r, h1, h2⟩ := h
      exact ⟨r, by rw [loopN, h1], h2⟩
abbrev blP (T : Nat → Int32) (q : Nat) : Prop := T q = 32
abbrev smP (T : Nat → Int32) (q : Nat) : Prop := 97 ≤ (T q).toInt ∧ (T q).toInt ≤ 122
abbrev dgP (T : Nat → Int32) (q : Nat) : Prop := 48 ≤ (T q).toInt ∧ (T q).toInt ≤ 57
abbrev bl (T : Nat → Int32) (n p : Nat) : Nat := pst (blP T) (n - p) p
abbrev sm' (T : Nat → Int32) (n p : Nat) : Nat := pst (smP T) (n - p) p
abbrev dg (T : Nat → Int32) (n p : Nat) : Nat := pst (dgP T) (n - p) p
theorem bl_bd (T : Nat → Int32) {n p : Nat} (h : p ≤ n) : p ≤ bl T n p ∧ bl T n p ≤ n := by
  have := pst_bd (blP T) (n - p) p
  show p ≤ pst (blP T) (n - p) p ∧ pst (blP T) (n - p) p ≤ n
  omega
theorem sm_bd (T : Nat → Int32) {n p : Nat} (h : p ≤ n) : p ≤ sm' T n p ∧ sm' T n p ≤ n := by
  have := pst_bd (smP T) (n - p) p
  show p ≤ pst (smP T) (n - p) p ∧ pst (smP T) (n - p) p ≤ n
  omega
theorem dg_bd (T : Nat → Int32) {n p : Nat} (h : p ≤ n) : p ≤ dg T n p ∧ dg T n p ≤ n := by
  have := pst_bd (dgP T) (n - p) p
  show p ≤ pst (dgP T) (n - p) p ∧ pst (dgP T) (n - p) p ≤ n
  omega
theorem bl_nb (T : Nat → Int32) {n p : Nat} (h : p ≤ n) (h2 : bl T n p < n) : ¬ T (bl T n p) = 32 := by
  rcases pst_stop (blP T) (n - p) p with e | e
  · have h3 : pst (blP T) (n - p) p < n := h2
    omega
  · exact e
/-- a word stands there -/
abbrev wdP (T : Nat → Int32) (s e k : Nat) : Prop := e - s = sLen k ∧ ∀ j, j < sLen k → T (s + j) = sByt k j
abbrev wd (T : Nat → Int32) (s e : Nat) : Nat := pst (fun k => ¬ wdP T s e k) 7 0
theorem sLen_7 : ∀ k, k < 7 → sLen (7 + k) = sLen k ∧ 3 ≤ sLen k ∧ sLen k ≤ 5 ∧ ∀ j, j < 5 → sByt (7 + k) j = sByt k j := by decide +kernel
section
variable {M : xM} {T : Nat → Int32} {n : Nat}
abbrev TpC (M : xM) (T : Nat → Int32) (n : Nat) : Prop := n ≤ 200 ∧ M 1 1 = nI n ∧ ∀ i, i < n → M 2 i = T i
theorem c_byteAt (h : TpC M T n) {q : Nat} (hq : q < n) : f_X7_byteAt M (nI q) = some (T q) := by
  have h0 := h.1
  unfold f_X7_byteAt b_X7_byteAt_0 b_X7_byteAt_22
  rw [if_neg (nI_pos (by omega)), h.2.1, if_neg (nI_ge hq (by omega)), gd_n (by omega) (by decide), clN (by omega), h.2.2 q hq]
theorem c_pastBlanks (h : TpC M T n) {p : Nat} (hp : p ≤ n) : f_X7_pastBlanks M (nI p) = some (nI (bl T n p)) := by
  have h0 := h.1
  unfold f_X7_pastBlanks b_X7_pastBlanks_0 b_X7_pastBlanks_2 b_X7_pastBlanks_26
  obtain ⟨r, h1, h2⟩ := pstL (body := fun s : Int32 => bl_X7_pastBlanks_2 M s) (blP T) n (fun q s => s = nI q) (fun q r => r = nI q) (fun q s hq hs => by
      subst hs
      try dsimp only
      unfold bl_X7_pastBlanks_2
      rw [h.2.1, if_neg (nI_ge hq (by omega)), c_byteAt h hq, bd_s, lt_d, nI_1]
      by_cases c : T q = 32
      · rw [if_pos c, if_pos c]; exact ⟨_, rfl, rfl⟩
      · rw [if_neg c, if_neg c]; exact ⟨_, rfl, rfl⟩) (fun s hs => by
      subst hs
      try dsimp only
      unfold bl_X7_pastBlanks_2
      rw [h.2.1, if_pos (Int32.le_refl _)]; exact ⟨_, rfl, rfl⟩) (n - p) p BG (nI p) (by omega) (BG_lt (by omega)) rfl
  rw [h1, bd_s, h2]
theorem c_pastRun (h : TpC M T n) {p : Nat} (hp : p ≤ n) (lo hi : Int32) : f_X7_pastRun M (nI p) lo hi = some (nI (pst (fun q => lo.toInt ≤ (T q).toInt ∧ (T q).toInt ≤ hi.toInt) (n - p) p)) := by
  have h0 := h.1
  unfold f_X7_pastRun b_X7_pastRun_0 b_X7_pastRun_3 b_X7_pastRun_38
  obtain ⟨r, h1, h2⟩ := pstL (body := fun s : Int32 => bl_X7_pastRun_3 M lo hi s) (fun q => lo.toInt ≤ (T q).toInt ∧ (T q).toInt ≤ hi.toInt) n (fun q s => s = nI q) (fun q r => r = nI q) (fun q s hq hs => by
      subst hs
      try dsimp only
      unfold bl_X7_pastRun_3
      rw [h.2.1, if_neg (nI_ge hq (by omega)), c_byteAt h hq, bd_s, bd_s, lt_d, nI_1]
      by_cases c : T q < lo
      · rw [if_pos c]
        rw [i_lt] at c
        rw [if_neg (fun z => by have := z.1; omega)]; exact ⟨_, rfl, rfl⟩
      · rw [if_neg c]
        rw [i_lt] at c
        by_cases c2 : hi < T q
        · rw [if_pos c2]
          rw [i_lt] at c2
          rw [if_neg (fun z => by have := z.2; omega)]; exact ⟨_, rfl, rfl⟩
        · rw [if_neg c2]
          rw [i_lt] at c2
          rw [if_pos ⟨by omega, by omega⟩]; exact ⟨_, rfl, rfl⟩) (fun s hs => by
      subst hs
      try dsimp only
      unfold bl_X7_pastRun_3
      rw [h.2.1, if_pos (Int32.le_refl _)]; exact ⟨_, rfl, rfl⟩) (n - p) p BG (nI p) (by omega) (BG_lt (by omega)) rfl
  rw [h1, bd_s, h2]
theorem c_small (h : TpC M T n) {p : Nat} (hp : p ≤ n) : f_X7_pastRun M (nI p) 97 122 = some (nI (sm' T n p)) := c_pastRun h hp 97 122
theorem c_digit (h : TpC M T n) {p : Nat} (hp : p ≤ n) : f_X7_pastRun M (nI p) 48 57 = some (nI (dg T n p)) := c_pastRun h hp 48 57
theorem c_isWord (h : TpC M T n) {s e k : Nat} (hse : s ≤ e) (he : e ≤ n) (hk : k < 7) : f_X7_isWord M (nI s) (nI e) k = some (pI (wdP T s e k)) := by
  have h0 := h.1
  obtain ⟨-, l3, l5, -⟩ := sLen_7 k hk
  unfold f_X7_isWord b_X7_isWord_0 b_X7_isWord_15
  rw [pk_sub hse]
  by_cases c : e - s = sLen k
  rotate_left
  · rw [if_neg (show ¬ nI (e - s) = Int32.ofNat (sLen k) from nI_ne' c (by omega) (by omega)), pI_f (fun z => c z.1)]
  rw [if_pos (show nI (e - s) = Int32.ofNat (sLen k) by rw [c]; rfl)]
  obtain ⟨r, h1, h2⟩ := pstL (body := fun x : Int32 => bl_X7_isWord_15 M (nI s) k x) (fun j => T (s + j) = sByt k j) (sLen k) (fun q x => x = nI q) (fun q r => r = if q < sLen k then .inl () else .inr ()) (fun q x hq hx => by
      subst hx
      try dsimp only
      unfold bl_X7_isWord_15
      rw [if_neg (show ¬ Int32.ofNat (sLen k) ≤ nI q from nI_ge hq (by omega)), nI_add, c_byteAt h (by omega), bd_s, gd_n hq (by omega), clN (by omega), lt_d, nI_1]
      by_cases c2 : T (s + q) = sByt k q
      · rw [if_pos c2, if_pos c2]; exact ⟨_, rfl, rfl⟩
      · rw [if_neg c2, if_neg c2]; exact ⟨_, rfl, (if_pos hq).symm⟩) (fun x hx => by
      subst hx
      try dsimp only
      unfold bl_X7_isWord_15
      rw [if_pos (show Int32.ofNat (sLen k) ≤ nI (sLen k) from Int32.le_refl _)]
      exact ⟨_, rfl, (if_neg (Nat.lt_irrefl _)).symm⟩) (sLen k) 0 BG (nI 0) (by omega) (BG_lt (by omega)) rfl
  have h1' : loopN (fun x : Int32 => bl_X7_isWord_15 M (nI s) k x) BG 0 = some r := h1
  rw [h1', bd_s, h2]
  by_cases c2 : pst (fun j => T (s + j) = sByt k j) (sLen k) 0 < sLen k
  · rw [if_pos c2, pI_f]
    · rfl
    · intro z
      rcases pst_stop (fun j => T (s + j) = sByt k j) (sLen k) 0 with e | e
      · omega
      · exact e (z.2 _ c2)
  · rw [if_neg c2, pI_t ⟨c, fun j hj => pst_in (fun j => T (s + j) = sByt k j) (sLen k) 0 j (by omega) (by omega)⟩]
    rfl
theorem c_ruleAt (h : TpC M T n) {s e : Nat} (hse : s ≤ e) (he : e ≤ n) : f_X6_ruleAt M (nI s) (nI e) = some (if wd T s e < 7 then nI (wd T s e) else -1) := by
  have h0 := h.1
  unfold f_X6_ruleAt b_X6_ruleAt_0 b_X6_ruleAt_3
  obtain ⟨r, h1, h2⟩ := pstL (body := fun x : Int32 => bl_X6_ruleAt_3 M (nI s) (nI e) x) (fun k => ¬ wdP T s e k) 7 (fun q x => x = nI q) (fun q r => r = if q < 7 then .inl (nI q) else .inr ()) (fun q x hq hx => by
      subst hx
      try dsimp only
      unfold bl_X6_ruleAt_3
      rw [if_neg (gE 7 7 rfl hq (by decide)), gd_n hq (by decide), clN (by omega), c_isWord h hse he hq, bd_s, lt_d, nI_1]
      by_cases c2 : wdP T s e q
      · rw [fp_t c2, if_neg (fun z => z c2)]; exact ⟨_, rfl, (if_pos hq).symm⟩
      · rw [fp_f c2, if_pos c2]; exact ⟨_, rfl, rfl⟩) (fun x hx => by
      subst hx
      try dsimp only
      unfold bl_X6_ruleAt_3
      rw [if_pos (by decide)]
      exact ⟨_, rfl, rfl⟩) 7 0 BG (nI 0) (by omega) (BG_lt (by omega)) rfl
  have h1' : loopN (fun x : Int32 => bl_X6_ruleAt_3 M (nI s) (nI e) x) BG 0 = some r := h1
  rw [h1', bd_s, h2]
  by_cases c2 : wd T s e < 7
  · rw [if_pos c2, if_pos c2]; rfl
  · rw [if_neg c2, if_neg c2]; rfl
/-- the number of k digits -/
def nC (T : Nat → Int32) (s : Nat) : Nat → Int32
  | 0 => 0
  | k + 1 => nC T s k * 10 + T (s + k) - 48
theorem c_numberIn (h : TpC M T n) {s e : Nat} (hse : s ≤ e) (he : e ≤ n) : f_X6_numberIn M (nI s) (nI e) = some (if e = s ∨ 4 < e - s then -1 else nC T s (e - s)) := by
  have h0 := h.1
  unfold f_X6_numberIn b_X6_numberIn_0 b_X6_numberIn_12 b_X6_numberIn_20
  by_cases c : e = s
  · subst c
    rw [if_pos rfl, if_pos (Or.inl rfl)]
  rw [if_neg (nI_ne' c (by omega) (by omega)), pk_sub hse]
  by_cases c2 : e - s ≤ 4
  rotate_left
  · rw [if_neg (show ¬ nI (e - s) ≤ (4 : Int32) from nI_ge (a := 4) (by omega) (by omega)), if_pos (Or.inr (by omega))]
  rw [if_pos (show nI (e - s) ≤ (4 : Int32) from nI_le (b := 4) c2 (by decide)), if_neg (fun z => by rcases z with z | z <;> omega)]
  have hl := loopN_up (body := fun x : Int32 × Int32 => bl_X6_numberIn_20 M (nI e) x.1 x.2) (r := nC T s (e - s)) (fun i => (nC T s i, nI (s + i))) (e - s) (fun i hi => by
      try dsimp only
      unfold bl_X6_numberIn_20
      rw [if_neg (nI_ge (by omega) (by omega)), c_byteAt h (by omega), bd_s, lt_d, lt_d, nI_1]
      rfl) (by
      try dsimp only
      unfold bl_X6_numberIn_20
      rw [if_pos (show nI e ≤ nI (s + (e - s)) by rw [show s + (e - s) = e by omega]; exact Int32.le_refl _)]) BG (BG_lt (by omega))
  have e0 : (nC T s 0, nI (s + 0)) = ((0 : Int32), nI s) := rfl
  rw [e0] at hl
  rw [hl, bd_s]
theorem c_lineEnd (h : TpC M T n) {p : Nat} (hp : p ≤ n) : f_X6_lineEnd M (nI p) = some (nI (bl T n (dg T n (bl T n (sm' T n p))))) := by
  have a1 := sm_bd T hp
  have a2 := bl_bd T a1.2
  have a3 := dg_bd T a2.2
  unfold f_X6_lineEnd b_X6_lineEnd_0
  rw [c_small h hp, bd_s, c_pastBlanks h a1.2, bd_s, c_digit h a2.2, bd_s, c_pastBlanks h a3.2, bd_s]
end
