/-! the rules' text by JDK code: rulesAsText, written (made by wip/whole/gen/sb2.py) -/
abbrev BS : Type := List va_E × Nat × (Nat → Int32) × Nat
def bWd (c : Nat → ClassId) (b : Nat) (s : BS) : List va_E := wB c b s.1 s.2.1 s.2.2.1 s.2.2.2
def bC (c : Nat → ClassId) (v : Nat) (s : BS) : BS := (eZ c s.1 s.2.1 s.2.2.1 (s.2.2.2 + 1), sb_cap (s.2.2.2 + 1) s.2.1, upd (eG s.2.2.1 s.2.1 (s.2.2.2 + 1)) s.2.2.2 (nI v), s.2.2.2 + 1)
def bS (c : Nat → ClassId) (i : Nat) (s : BS) : BS := (eZ c s.1 s.2.1 s.2.2.1 (s.2.2.2 + sLen i), sb_cap (s.2.2.2 + sLen i) s.2.1, va_cpy (sByt i) (eG s.2.2.1 s.2.1 (s.2.2.2 + sLen i)) 0 s.2.2.2 (sLen i), s.2.2.2 + sLen i)
def bI (c : Nat → ClassId) (v : Nat) (s : BS) : BS := (eZ c s.1 s.2.1 s.2.2.1 (s.2.2.2 + sb_dg v), sb_cap (s.2.2.2 + sb_dg v) s.2.1, gcF (eG s.2.2.1 s.2.1 (s.2.2.2 + sb_dg v)) (s.2.2.2 + sb_dg v) v, s.2.2.2 + sb_dg v)
def bSep (c : Nat → ClassId) (k : Nat) (s : BS) : BS := if k = 0 then s else bC c 59 s
def bLine (c : Nat → ClassId) (R : Nat → Nat) (k : Nat) (s : BS) : BS := bI c (R k) (bC c 32 (bS c k (bSep c k s)))
def bAll (c : Nat → ClassId) (R : Nat → Nat) : Nat → BS
  | 0 => ([], 16, fun _ => 0, 0)
  | k + 1 => bLine c R k (bAll c R k)
def eSz (e : va_E) : Nat := match e with
  | .inl a => a.2.1
  | .inr _ => 0
def zs (Z : List va_E) : Nat := (Z.map eSz).sum
/-- cells, slots -/
def k1 (s : BS) : Nat := s.1.length + 2
def k2 (s : BS) : Nat := 4 + zs s.1 + s.2.1
abbrev le2 (s t : BS) : Prop := k1 s ≤ k1 t ∧ k2 s ≤ k2 t
theorem le2_trans {s t u : BS} (h : le2 s t) (g : le2 t u) : le2 s u := ⟨Nat.le_trans h.1 g.1, Nat.le_trans h.2 g.2⟩
theorem k1_1 (s : BS) : 0 + 1 ≤ k1 s := by unfold k1; omega
theorem eZ_len {c : Nat → ClassId} {Z : List va_E} {m q : Nat} {g : Nat → Int32} : (eZ c Z m g q).length = Z.length + eK q m := by
  unfold eZ eK
  split
  · rfl
  · rw [List.length_append]; rfl
theorem eZ_zs {c : Nat → ClassId} {Z : List va_E} {m q : Nat} {g : Nat → Int32} : zs (eZ c Z m g q) + sb_cap q m = zs Z + m + eL q m := by
  unfold eZ eL zs sb_cap
  split
  · omega
  · rw [List.map_append, List.sum_append]
    show _ + (m + 0) + _ = _
    split <;> omega
theorem k2_4 (s : BS) : 0 + 4 ≤ k2 s := by unfold k2; omega
theorem len_k1C {c : Nat → ClassId} {v : Nat} {s : BS} : k1 (bC c v s) = k1 s + eK (s.2.2.2 + 1) s.2.1 := by
  show (eZ _ _ _ _ _).length + 2 = s.1.length + 2 + _
  rw [eZ_len]; omega
theorem len_k1S {c : Nat → ClassId} {i : Nat} {s : BS} : k1 (bS c i s) = k1 s + eK (s.2.2.2 + sLen i) s.2.1 := by
  show (eZ _ _ _ _ _).length + 2 = s.1.length + 2 + _
  rw [eZ_len]; omega
theorem len_k1I {c : Nat → ClassId} {v : Nat} {s : BS} : k1 (bI c v s) = k1 s + eK (s.2.2.2 + sb_dg v) s.2.1 := by
  show (eZ _ _ _ _ _).length + 2 = s.1.length + 2 + _
  rw [eZ_len]; omega
theorem len_k2C {c : Nat → ClassId} {v : Nat} {s : BS} : k2 (bC c v s) = k2 s + eL (s.2.2.2 + 1) s.2.1 := by
  have h := eZ_zs (c := c) (Z := s.1) (m := s.2.1) (q := s.2.2.2 + 1) (g := s.2.2.1)
  show 4 + zs (eZ _ _ _ _ _) + sb_cap _ _ = 4 + zs s.1 + s.2.1 + _
  omega
theorem len_k2S {c : Nat → ClassId} {i : Nat} {s : BS} : k2 (bS c i s) = k2 s + eL (s.2.2.2 + sLen i) s.2.1 := by
  have h := eZ_zs (c := c) (Z := s.1) (m := s.2.1) (q := s.2.2.2 + sLen i) (g := s.2.2.1)
  show 4 + zs (eZ _ _ _ _ _) + sb_cap _ _ = 4 + zs s.1 + s.2.1 + _
  omega
theorem len_k2I {c : Nat → ClassId} {v : Nat} {s : BS} : k2 (bI c v s) = k2 s + eL (s.2.2.2 + sb_dg v) s.2.1 := by
  have h := eZ_zs (c := c) (Z := s.1) (m := s.2.1) (q := s.2.2.2 + sb_dg v) (g := s.2.2.1)
  show 4 + zs (eZ _ _ _ _ _) + sb_cap _ _ = 4 + zs s.1 + s.2.1 + _
  omega
theorem bC_le (c : Nat → ClassId) (v : Nat) (s : BS) : le2 s (bC c v s) := ⟨by rw [len_k1C]; omega, by rw [len_k2C]; omega⟩
theorem bS_le (c : Nat → ClassId) (i : Nat) (s : BS) : le2 s (bS c i s) := ⟨by rw [len_k1S]; omega, by rw [len_k2S]; omega⟩
theorem bI_le (c : Nat → ClassId) (v : Nat) (s : BS) : le2 s (bI c v s) := ⟨by rw [len_k1I]; omega, by rw [len_k2I]; omega⟩
theorem bSep_le (c : Nat → ClassId) (k : Nat) (s : BS) : le2 s (bSep c k s) := by
  unfold bSep
  split
  · exact ⟨Nat.le_refl _, Nat.le_refl _⟩
  · exact bC_le c 59 s
theorem bAll_mono (c : Nat → ClassId) (R : Nat → Nat) {a b : Nat} (h : a ≤ b) : le2 (bAll c R a) (bAll c R b) := by
  obtain ⟨d, rfl⟩ := Nat.exists_eq_add_of_le h
  clear h
  induction d with
  | zero => exact ⟨Nat.le_refl _, Nat.le_refl _⟩
  | succ d ih => exact le2_trans ih (le2_trans (bSep_le c (a + d) _) (le2_trans (bS_le c (a + d) _) (le2_trans (bC_le c 32 _) (bI_le c _ _))))
/-- what holds of the builder: at most t letters .. -/
def bOk (t : Nat) (s : BS) : Prop := s.2.2.2 ≤ t ∧ s.2.2.2 ≤ s.2.1 ∧ s.2.1 ≤ 202 ∧ sb_Fit s.2.2.1 ∧ 18 * 2 ^ s.1.length ≤ s.2.1 + 2 ∧ zs s.1 ≤ 202 * s.1.length
theorem bOk.cap {t : Nat} {s : BS} (h : bOk t s) {q : Nat} (hq : q ≤ 100) : sb_cap q s.2.1 ≤ 65536 := by
  have := h.2.2.1
  unfold sb_cap
  split
  · omega
  · split <;> omega
theorem bOk.grow {t : Nat} {s : BS} (h : bOk t s) (c : Nat → ClassId) {q : Nat} (hq : q ≤ 100) : sb_cap q s.2.1 ≤ 202 ∧ 18 * 2 ^ (eZ c s.1 s.2.1 s.2.2.1 q).length ≤ sb_cap q s.2.1 + 2 ∧ zs (eZ c s.1 s.2.1 s.2.2.1 q) ≤ 202 * (eZ c s.1 s.2.1 s.2.2.1 q).length := by
  obtain ⟨-, -, h3, -, h5, h6⟩ := h
  by_cases g : q ≤ s.2.1
  · rw [show eZ c s.1 s.2.1 s.2.2.1 q = s.1 from if_pos g, show sb_cap q s.2.1 = s.2.1 from if_pos g]; exact ⟨h3, h5, h6⟩
  · rw [show eZ c s.1 s.2.1 s.2.2.1 q = s.1 ++ [.inl (c 106, s.2.1, .inl s.2.2.1)] from if_neg g]
    have e : 2 * s.2.1 + 2 ≤ sb_cap q s.2.1 ∧ sb_cap q s.2.1 ≤ 202 := by
      unfold sb_cap
      rw [if_neg g]
      split <;> omega
    refine ⟨e.2, ?_, ?_⟩
    · rw [List.length_append]
      show 18 * 2 ^ (s.1.length + 1) ≤ _
      rw [Nat.pow_succ]; omega
    · rw [List.length_append, zs, List.map_append, List.sum_append]
      show zs s.1 + (s.2.1 + 0) ≤ 202 * (s.1.length + 1)
      omega
theorem sByt_F (i : Nat) : sb_Fit (sByt i) := fun j => by
  by_cases h : i < 14
  · exact sByt_fit i h j
  · have e : sByt i j = sByt (i % 7) j := by unfold sByt sTx; rw [Nat.mod_mod]
    rw [e]; exact sByt_fit (i % 7) (by omega) j
theorem dFit : (∀ e, e < 100 → fits .byte (.int (dOne e)) = true) ∧ ∀ e, e < 100 → fits .byte (.int (dTen e)) = true := ⟨by decide +kernel, by decide +kernel⟩
theorem gcA_F {g : Nat → Int32} (h : sb_Fit g) (p : Nat) {u : Nat} (hu : u < 100) : sb_Fit (gcA g p u) := by
  unfold gcA
  split
  · exact sb_fitU h (dFit.1 u hu)
  · exact sb_fitU (sb_fitU h (dFit.1 u hu)) (dFit.2 u hu)
theorem gcF_F {g : Nat → Int32} (h : sb_Fit g) (p : Nat) {v : Nat} (hv : v < 10000) : sb_Fit (gcF g p v) := by
  unfold gcF
  split
  · exact gcA_F h p (by assumption)
  · exact gcA_F (sb_fitU (sb_fitU h (dFit.1 _ (by omega))) (dFit.2 _ (by omega))) _ (by omega)
theorem dg4 {v : Nat} (h : v < 10000) : sb_dg v ≤ 4 := by
  unfold sb_dg
  repeat' split
  all_goals omega
theorem bC_ok {t : Nat} (c : Nat → ClassId) (v : Nat) (hv : v < 128) {s : BS} (h : bOk t s) (ht : t + 1 ≤ 100 := by omega) : bOk (t + 1) (bC c v s) := by
  have g := h.grow c (q := s.2.2.2 + 1) (by have := h.1; omega)
  exact ⟨by have := h.1; show s.2.2.2 + 1 ≤ _; omega, sb_cap_ge _ _, g.1, sb_fitU (eFit h.2.2.2.1 _ _) (bV v hv).2.1, g.2.1, g.2.2⟩
theorem bS_ok {t : Nat} (c : Nat → ClassId) (i : Nat) (hi : i < 14) {s : BS} (h : bOk t s) (ht : t + 5 ≤ 100 := by omega) : bOk (t + 5) (bS c i s) := by
  have hl := (sLen_ok i hi).1
  have g := h.grow c (q := s.2.2.2 + sLen i) (by have := h.1; omega)
  exact ⟨by have := h.1; show s.2.2.2 + sLen i ≤ _; omega, sb_cap_ge _ _, g.1, sb_fitC (sByt_F i) (eFit h.2.2.2.1 _ _), g.2.1, g.2.2⟩
theorem bI_ok {t : Nat} (c : Nat → ClassId) {v : Nat} (hv : v < 10000) {s : BS} (h : bOk t s) (ht : t + 4 ≤ 100 := by omega) : bOk (t + 4) (bI c v s) := by
  have hl := dg4 hv
  have g := h.grow c (q := s.2.2.2 + sb_dg v) (by have := h.1; omega)
  exact ⟨by have := h.1; show s.2.2.2 + sb_dg v ≤ _; omega, sb_cap_ge _ _, g.1, gcF_F (eFit h.2.2.2.1 _ _) _ hv, g.2.1, g.2.2⟩
theorem bSep_ok {t : Nat} (c : Nat → ClassId) (k : Nat) {s : BS} (h : bOk t s) (ht : t + 1 ≤ 100 := by omega) : bOk (t + 1) (bSep c k s) := by
  unfold bSep
  split
  · exact ⟨Nat.le_succ_of_le h.1, h.2⟩
  · exact bC_ok c 59 (by decide) h ht
theorem bAll_ok (c : Nat → ClassId) (R : Nat → Nat) (hR : ∀ k, k < 7 → R k < 10000) : ∀ k, k ≤ 7 → bOk (11 * k) (bAll c R k) := by
  intro k
  induction k with
  | zero => exact fun _ => ⟨Nat.le_refl 0, (show 0 ≤ 16 by decide), (show 16 ≤ 202 by decide), sb_fit0, (show 18 * 2 ^ 0 ≤ 16 + 2 by decide), (show 0 ≤ 202 * 0 by decide)⟩
  | succ k ih =>
    intro hk
    rw [show 11 * (k + 1) = 11 * k + 1 + 5 + 1 + 4 by omega]
    exact bI_ok c (hR k (by omega)) (bC_ok c 32 (by decide) (bS_ok c k (by omega) (bSep_ok c k (ih (by omega)))))
theorem bAll_sz (c : Nat → ClassId) (R : Nat → Nat) (hR : ∀ k, k < 7 → R k < 10000) : k1 (bAll c R 7) ≤ 20 ∧ k2 (bAll c R 7) ≤ 2000 := by
  obtain ⟨-, -, h3, -, h5, h6⟩ := bAll_ok c R hR 7 (by decide)
  have h : (bAll c R 7).1.length ≤ 3 := by
    rcases Nat.lt_or_ge 3 (bAll c R 7).1.length with z | z
    · have := Nat.pow_le_pow_right (n := 2) (by decide) z
      omega
    · exact z
  unfold k1 k2
  omega
theorem len_C {c : Nat → ClassId} {b v : Nat} {s : BS} : (bWd c b (bC c v s)).length = (bWd c b s).length + eK (s.2.2.2 + 1) s.2.1 := eLen
theorem len_S {c : Nat → ClassId} {b i : Nat} {s : BS} : (bWd c b (bS c i s)).length = (bWd c b s).length + eK (s.2.2.2 + sLen i) s.2.1 := eLen
theorem len_I {c : Nat → ClassId} {b v : Nat} {s : BS} : (bWd c b (bI c v s)).length = (bWd c b s).length + eK (s.2.2.2 + sb_dg v) s.2.1 := eLen
theorem sw_4 : (Jvm.Cond.initialized "GuardRolls$Book") ∈ bW := bw_of 89 (by decide +kernel) (by decide +kernel)
theorem sw_24 : (Jvm.Cond.initialized "java/lang/StringBuilder") ∈ bW := bw_of 109 (by decide +kernel) (by decide +kernel)
theorem sw_208 : (Jvm.Cond.fieldLink "GuardRolls$Book" (13 : Nat) "GuardRolls$Book" "rule" "[I") ∈ bW := bw_of 293 (by decide +kernel) (by decide +kernel)
theorem sw_316 : (Jvm.Cond.fieldLink "GuardRolls" (26 : Nat) "GuardRolls" "book" "LGuardRolls$Book;") ∈ bW := bw_of 401 (by decide +kernel) (by decide +kernel)
theorem sw_934 : (Jvm.Cond.methodLink "GuardRolls" (364 : Nat) ({ cls := "GuardRolls$Book", name := "rulesAsText", desc := "()Ljava/lang/StringBuilder;" } : Jvm.MethodName)) ∈ bW := bw_of 1019 (by decide +kernel) (by decide +kernel)
theorem sw_935 : (Jvm.Cond.instanceMethod ({ cls := "GuardRolls$Book", name := "rulesAsText", desc := "()Ljava/lang/StringBuilder;" } : Jvm.MethodName)) ∈ bW := bw_of 1020 (by decide +kernel) (by decide +kernel)
theorem sw_936 : (Jvm.Cond.selects "GuardRolls$Book" ({ cls := "GuardRolls$Book", name := "rulesAsText", desc := "()Ljava/lang/StringBuilder;" } : Jvm.MethodName) ({ cls := "GuardRolls$Book", name := "rulesAsText", desc := "()Ljava/lang/StringBuilder;" } : Jvm.MethodName)) ∈ bW := bw_of 1021 (by decide +kernel) (by decide +kernel)
theorem sw_937 : (Jvm.Cond.code ({ cls := "GuardRolls$Book", name := "rulesAsText", desc := "()Ljava/lang/StringBuilder;" } : Jvm.MethodName) prog_3_method_4_code (3 : Nat) (Option.some (Jvm.ClassFile.FieldType.object "java/lang/StringBuilder"))) ∈ bW := bw_of 1022 (by decide +kernel) (by decide +kernel)
theorem sw_938 : (Jvm.Cond.classLink "GuardRolls$Book" (98 : Nat) "java/lang/StringBuilder") ∈ bW := bw_of 1023 (by decide +kernel) (by decide +kernel)
theorem sw_939 : (Jvm.Cond.instantiable "java/lang/StringBuilder" (4 : Nat)) ∈ bW := bw_of 1024 (by decide +kernel) (by decide +kernel)
theorem sw_940 : (Jvm.Cond.methodLink "GuardRolls$Book" (100 : Nat) ({ cls := "java/lang/StringBuilder", name := "<init>", desc := "()V" } : Jvm.MethodName)) ∈ bW := bw_of 1025 (by decide +kernel) (by decide +kernel)
theorem sw_941 : (Jvm.Cond.instanceMethod ({ cls := "java/lang/StringBuilder", name := "<init>", desc := "()V" } : Jvm.MethodName)) ∈ bW := bw_of 1026 (by decide +kernel) (by decide +kernel)
theorem sw_942 : (Jvm.Cond.code ({ cls := "java/lang/StringBuilder", name := "<init>", desc := "()V" } : Jvm.MethodName) prog_27_method_1_code (1 : Nat) (Option.none : Option Jvm.ClassFile.FieldType)) ∈ bW := bw_of 1027 (by decide +kernel) (by decide +kernel)
theorem sw_968 : (Jvm.Cond.methodLink "GuardRolls$Book" (101 : Nat) ({ cls := "java/lang/StringBuilder", name := "append", desc := "(C)Ljava/lang/StringBuilder;" } : Jvm.MethodName)) ∈ bW := bw_of 1053 (by decide +kernel) (by decide +kernel)
theorem sw_969 : (Jvm.Cond.instanceMethod ({ cls := "java/lang/StringBuilder", name := "append", desc := "(C)Ljava/lang/StringBuilder;" } : Jvm.MethodName)) ∈ bW := bw_of 1054 (by decide +kernel) (by decide +kernel)
theorem sw_970 : (Jvm.Cond.selects "java/lang/StringBuilder" ({ cls := "java/lang/StringBuilder", name := "append", desc := "(C)Ljava/lang/StringBuilder;" } : Jvm.MethodName) ({ cls := "java/lang/StringBuilder", name := "append", desc := "(C)Ljava/lang/StringBuilder;" } : Jvm.MethodName)) ∈ bW := bw_of 1055 (by decide +kernel) (by decide +kernel)
theorem sw_971 : (Jvm.Cond.code ({ cls := "java/lang/StringBuilder", name := "append", desc := "(C)Ljava/lang/StringBuilder;" } : Jvm.MethodName) prog_27_method_14_code (2 : Nat) (Option.some (Jvm.ClassFile.FieldType.object "java/lang/StringBuilder"))) ∈ bW := bw_of 1056 (by decide +kernel) (by decide +kernel)
theorem sw_1037 : (Jvm.Cond.methodLink "GuardRolls$Book" (109 : Nat) ({ cls := "java/lang/StringBuilder", name := "append", desc := "(Ljava/lang/String;)Ljava/lang/StringBuilder;" } : Jvm.MethodName)) ∈ bW := bw_of 1122 (by decide +kernel) (by decide +kernel)
theorem sw_1038 : (Jvm.Cond.instanceMethod ({ cls := "java/lang/StringBuilder", name := "append", desc := "(Ljava/lang/String;)Ljava/lang/StringBuilder;" } : Jvm.MethodName)) ∈ bW := bw_of 1123 (by decide +kernel) (by decide +kernel)
theorem sw_1039 : (Jvm.Cond.selects "java/lang/StringBuilder" ({ cls := "java/lang/StringBuilder", name := "append", desc := "(Ljava/lang/String;)Ljava/lang/StringBuilder;" } : Jvm.MethodName) ({ cls := "java/lang/StringBuilder", name := "append", desc := "(Ljava/lang/String;)Ljava/lang/StringBuilder;" } : Jvm.MethodName)) ∈ bW := bw_of 1124 (by decide +kernel) (by decide +kernel)
theorem sw_1040 : (Jvm.Cond.code ({ cls := "java/lang/StringBuilder", name := "append", desc := "(Ljava/lang/String;)Ljava/lang/StringBuilder;" } : Jvm.MethodName) prog_27_method_7_code (2 : Nat) (Option.some (Jvm.ClassFile.FieldType.object "java/lang/StringBuilder"))) ∈ bW := bw_of 1125 (by decide +kernel) (by decide +kernel)
theorem sw_1076 : (Jvm.Cond.methodLink "GuardRolls$Book" (112 : Nat) ({ cls := "java/lang/StringBuilder", name := "append", desc := "(I)Ljava/lang/StringBuilder;" } : Jvm.MethodName)) ∈ bW := bw_of 1161 (by decide +kernel) (by decide +kernel)
theorem sw_1077 : (Jvm.Cond.instanceMethod ({ cls := "java/lang/StringBuilder", name := "append", desc := "(I)Ljava/lang/StringBuilder;" } : Jvm.MethodName)) ∈ bW := bw_of 1162 (by decide +kernel) (by decide +kernel)
theorem sw_1078 : (Jvm.Cond.selects "java/lang/StringBuilder" ({ cls := "java/lang/StringBuilder", name := "append", desc := "(I)Ljava/lang/StringBuilder;" } : Jvm.MethodName) ({ cls := "java/lang/StringBuilder", name := "append", desc := "(I)Ljava/lang/StringBuilder;" } : Jvm.MethodName)) ∈ bW := bw_of 1163 (by decide +kernel) (by decide +kernel)
theorem sw_1079 : (Jvm.Cond.code ({ cls := "java/lang/StringBuilder", name := "append", desc := "(I)Ljava/lang/StringBuilder;" } : Jvm.MethodName) prog_27_method_15_code (2 : Nat) (Option.some (Jvm.ClassFile.FieldType.object "java/lang/StringBuilder"))) ∈ bW := bw_of 1164 (by decide +kernel) (by decide +kernel)
theorem sw_1101 : (Jvm.Cond.methodLink "GuardRolls" (368 : Nat) ({ cls := "java/lang/StringBuilder", name := "length", desc := "()I" } : Jvm.MethodName)) ∈ bW := bw_of 1186 (by decide +kernel) (by decide +kernel)
theorem sw_1102 : (Jvm.Cond.instanceMethod ({ cls := "java/lang/StringBuilder", name := "length", desc := "()I" } : Jvm.MethodName)) ∈ bW := bw_of 1187 (by decide +kernel) (by decide +kernel)
theorem sw_1103 : (Jvm.Cond.selects "java/lang/StringBuilder" ({ cls := "java/lang/StringBuilder", name := "length", desc := "()I" } : Jvm.MethodName) ({ cls := "java/lang/StringBuilder", name := "length", desc := "()I" } : Jvm.MethodName)) ∈ bW := bw_of 1188 (by decide +kernel) (by decide +kernel)
theorem sw_1104 : (Jvm.Cond.code ({ cls := "java/lang/StringBuilder", name := "length", desc := "()I" } : Jvm.MethodName) prog_27_method_93_code (1 : Nat) (Option.some Jvm.ClassFile.FieldType.int)) ∈ bW := bw_of 1189 (by decide +kernel) (by decide +kernel)
theorem sw_1108 : (Jvm.Cond.methodLink "GuardRolls" (372 : Nat) ({ cls := "java/lang/StringBuilder", name := "charAt", desc := "(I)C" } : Jvm.MethodName)) ∈ bW := bw_of 1193 (by decide +kernel) (by decide +kernel)
theorem sw_1109 : (Jvm.Cond.instanceMethod ({ cls := "java/lang/StringBuilder", name := "charAt", desc := "(I)C" } : Jvm.MethodName)) ∈ bW := bw_of 1194 (by decide +kernel) (by decide +kernel)
theorem sw_1110 : (Jvm.Cond.selects "java/lang/StringBuilder" ({ cls := "java/lang/StringBuilder", name := "charAt", desc := "(I)C" } : Jvm.MethodName) ({ cls := "java/lang/StringBuilder", name := "charAt", desc := "(I)C" } : Jvm.MethodName)) ∈ bW := bw_of 1195 (by decide +kernel) (by decide +kernel)
theorem sw_1111 : (Jvm.Cond.code ({ cls := "java/lang/StringBuilder", name := "charAt", desc := "(I)C" } : Jvm.MethodName) prog_27_method_88_code (2 : Nat) (Option.some Jvm.ClassFile.FieldType.char)) ∈ bW := bw_of 1196 (by decide +kernel) (by decide +kernel)
theorem sw_1876 : (Jvm.Cond.fieldLink "GuardRolls$Book" (105 : Nat) "GuardRolls$Rule" "word" "Ljava/lang/String;") ∈ bW := bw_of 1961 (by decide +kernel) (by decide +kernel)
