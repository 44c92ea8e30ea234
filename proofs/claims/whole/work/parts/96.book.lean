/-! the book's constructor (made by wip/whole/gen/book.py) -/
theorem cv_0 : Cond.methodLink RX1 3 Lib.objectInit ∈ bW := List.mem_filter.mpr ⟨by decide +kernel, by decide +kernel⟩
theorem cv_1 : Cond.instanceMethod Lib.objectInit ∈ bW := List.mem_filter.mpr ⟨by decide +kernel, by decide +kernel⟩
theorem cv_2 : Cond.code Lib.objectInit ⟨#[0xb1]⟩ 1 none ∈ bW := List.mem_filter.mpr ⟨by decide +kernel, by decide +kernel⟩
theorem cv_3 : Cond.arrayClass .int ∈ bW := List.mem_filter.mpr ⟨by decide +kernel, by decide +kernel⟩
theorem cv_4 : Cond.fieldLink RX1 13 RX1 "rule" "[I" ∈ bW := List.mem_filter.mpr ⟨by decide +kernel, by decide +kernel⟩
theorem cv_5 : Cond.fieldLink RX1 19 RX1 "guardians" "I" ∈ bW := List.mem_filter.mpr ⟨by decide +kernel, by decide +kernel⟩
theorem cv_6 : Cond.fieldLink RX1 23 RX1 "bonds" "[I" ∈ bW := List.mem_filter.mpr ⟨by decide +kernel, by decide +kernel⟩
theorem cv_7 : Cond.fieldLink RX1 26 RX1 "wards" "I" ∈ bW := List.mem_filter.mpr ⟨by decide +kernel, by decide +kernel⟩
theorem cv_8 : Cond.classLink RX1 29 RX8 ∈ bW := List.mem_filter.mpr ⟨by decide +kernel, by decide +kernel⟩
theorem cv_9 : Cond.fieldLink RX1 31 RX1 "ward" "[LGuardRolls$Ward;" ∈ bW := List.mem_filter.mpr ⟨by decide +kernel, by decide +kernel⟩
theorem cv_10 : Cond.fieldLink RX1 35 RX1 "entries" "I" ∈ bW := List.mem_filter.mpr ⟨by decide +kernel, by decide +kernel⟩
theorem cv_11 : Cond.classLink RX1 38 RX2 ∈ bW := List.mem_filter.mpr ⟨by decide +kernel, by decide +kernel⟩
theorem cv_12 : Cond.fieldLink RX1 40 RX1 "entry" "[LGuardRolls$Entry;" ∈ bW := List.mem_filter.mpr ⟨by decide +kernel, by decide +kernel⟩
theorem cv_13 : Cond.fieldLink RX1 44 RX1 "orders" "I" ∈ bW := List.mem_filter.mpr ⟨by decide +kernel, by decide +kernel⟩
theorem cv_14 : Cond.classLink RX1 47 RX3 ∈ bW := List.mem_filter.mpr ⟨by decide +kernel, by decide +kernel⟩
theorem cv_15 : Cond.fieldLink RX1 49 RX1 "order" "[LGuardRolls$Order;" ∈ bW := List.mem_filter.mpr ⟨by decide +kernel, by decide +kernel⟩
theorem cv_16 : Cond.fieldLink RX1 53 RX1 "left" "[I" ∈ bW := List.mem_filter.mpr ⟨by decide +kernel, by decide +kernel⟩
theorem cv_17 : Cond.fieldLink RX1 56 RX1 "turn" "[I" ∈ bW := List.mem_filter.mpr ⟨by decide +kernel, by decide +kernel⟩
theorem cv_18 : Cond.fieldLink RX1 59 RX5 "usual" "I" ∈ bW := List.mem_filter.mpr ⟨by decide +kernel, by decide +kernel⟩
theorem cv_19 : Cond.instantiable RX8 9 ∈ bW := List.mem_filter.mpr ⟨by decide +kernel, by decide +kernel⟩
theorem cv_20 : Cond.initialized RX8 ∈ bW := List.mem_filter.mpr ⟨by decide +kernel, by decide +kernel⟩
theorem cv_21 : Cond.instanceMethod yX8_init ∈ bW := List.mem_filter.mpr ⟨by decide +kernel, by decide +kernel⟩
theorem cv_22 : Cond.code yX8_init cX8_init 1 none ∈ bW := List.mem_filter.mpr ⟨by decide +kernel, by decide +kernel⟩
theorem cv_23 : Cond.instantiable RX2 9 ∈ bW := List.mem_filter.mpr ⟨by decide +kernel, by decide +kernel⟩
theorem cv_24 : Cond.initialized RX2 ∈ bW := List.mem_filter.mpr ⟨by decide +kernel, by decide +kernel⟩
theorem cv_25 : Cond.instanceMethod yX2_init ∈ bW := List.mem_filter.mpr ⟨by decide +kernel, by decide +kernel⟩
theorem cv_26 : Cond.code yX2_init cX2_init 1 none ∈ bW := List.mem_filter.mpr ⟨by decide +kernel, by decide +kernel⟩
theorem cv_27 : Cond.instantiable RX3 5 ∈ bW := List.mem_filter.mpr ⟨by decide +kernel, by decide +kernel⟩
theorem cv_28 : Cond.initialized RX3 ∈ bW := List.mem_filter.mpr ⟨by decide +kernel, by decide +kernel⟩
theorem cv_29 : Cond.instanceMethod yX3_init ∈ bW := List.mem_filter.mpr ⟨by decide +kernel, by decide +kernel⟩
theorem cv_30 : Cond.code yX3_init cX3_init 1 none ∈ bW := List.mem_filter.mpr ⟨by decide +kernel, by decide +kernel⟩
abbrev blk (f : Nat → List va_E) (n : Nat) : List va_E := (List.range n).flatMap f
theorem blk_s (f : Nat → List va_E) (n : Nat) : blk f (n + 1) = blk f n ++ f n := by simp [blk, List.range_succ]
theorem blk_l {f : Nat → List va_E} {s : Nat} (h : ∀ i, (f i).length = s) (n : Nat) : (blk f n).length = s * n := by
  induction n with
  | zero => rfl
  | succ n ih => rw [blk_s, List.length_append, ih, h, Nat.mul_succ]
def gN (n a s : Nat) : Nat → Option Nat := fun i => if i < n then some (a + s * i) else none
theorem gN_s (n a s : Nat) : va_up (gN n a s) n (some (a + s * n)) = gN (n + 1) a s := by
  funext i
  simp only [va_up, gN]
  by_cases h : i = n
  · subst h; rw [if_pos rfl, if_pos (by omega)]
  · rw [if_neg h]
    by_cases h2 : i < n
    · rw [if_pos h2, if_pos (by omega)]
    · rw [if_neg h2, if_neg (by omega)]
theorem gN_0 (a s : Nat) : gN 0 a s = fun _ => none := by funext i; simp [gN]
def fR (n : Nat) : Nat → Int32 := fun j => if j < n then fWi j else 0
theorem fR_0 : fR 0 = fun _ => 0 := by funext i; simp [fR]
theorem fR_s (n : Nat) : upd (fR n) n (fWi n) = fR (n + 1) := by
  funext i
  simp only [upd, fR]
  by_cases h : i = n
  · subst h; rw [if_pos rfl, if_pos (by omega)]
  · rw [if_neg h]
    by_cases h2 : i < n
    · rw [if_pos h2, if_pos (by omega)]
    · rw [if_neg h2, if_neg (by omega)]
def bkP (c : Nat → ClassId) (b : Nat) (f : Nat → Int32) (g3 g4 g5 : Nat → Option Nat) : List va_E :=
  [.inr (2, [.ref (b + 1), .int 0, .ref (b + 2), .int 0, .ref (b + 3), .int 0, .ref (b + 4), .int 0, .ref (b + 5), .ref (b + 6), .ref (b + 7)]), .inl (c 100, 7, .inl f), .inl (c 100, 3, .inl (fun _ => 0)), .inl (c 102, 4, .inr (.inr (.inr (.inr g3)))), .inl (c 103, 40, .inr (.inr (.inr (.inr g4)))), .inl (c 104, 12, .inr (.inr (.inr (.inr g5)))), .inl (c 100, 80, .inl (fun _ => 0)), .inl (c 100, 40, .inl (fun _ => 0))]
abbrev bkW (c : Nat → ClassId) (b : Nat) : Nat → List va_E := fun i => esX8 c (b + 8 + 5 * i)
abbrev bkE (c : Nat → ClassId) (b : Nat) : Nat → List va_E := fun i => esX2 c (b + 28 + 1 * i)
abbrev bkO (c : Nat → ClassId) (b : Nat) : Nat → List va_E := fun i => esX3 c (b + 68 + 1 * i)
abbrev bs2 (c : Nat → ClassId) (b n : Nat) : List va_E := bkP c b (fR 7) (gN n (b + 8) 5) (gN 0 (b + 28) 1) (gN 0 (b + 68) 1) ++ blk (bkW c b) n
abbrev bs3 (c : Nat → ClassId) (b n : Nat) : List va_E := bkP c b (fR 7) (gN 4 (b + 8) 5) (gN n (b + 28) 1) (gN 0 (b + 68) 1) ++ (blk (bkW c b) 4 ++ blk (bkE c b) n)
abbrev bs4 (c : Nat → ClassId) (b n : Nat) : List va_E := bkP c b (fR 7) (gN 4 (b + 8) 5) (gN 40 (b + 28) 1) (gN n (b + 68) 1) ++ (blk (bkW c b) 4 ++ (blk (bkE c b) 40 ++ blk (bkO c b) n))
def esX1 (c : Nat → ClassId) (b : Nat) : List va_E := bs4 c b 12
abbrev rmX1 : Room := { frames := 2, cells := 79, slots := 770, locals := 60 }
theorem blW (c : Nat → ClassId) (b n : Nat) : (blk (bkW c b) n).length = 5 * n := blk_l (s := 5) (fun _ => rfl) n
theorem blE (c : Nat → ClassId) (b n : Nat) : (blk (bkE c b) n).length = n := by rw [blk_l (s := 1) (fun _ => rfl) n]; omega
theorem blO (c : Nat → ClassId) (b n : Nat) : (blk (bkO c b) n).length = n := by rw [blk_l (s := 1) (fun _ => rfl) n]; omega
theorem bsl2 (c : Nat → ClassId) (b n : Nat) : (bs2 c b n).length = 8 + 5 * n := by rw [List.length_append, blW]; rfl
theorem bsl3 (c : Nat → ClassId) (b n : Nat) : (bs3 c b n).length = 28 + n := by rw [List.length_append, List.length_append, blW, blE]; show 8 + (20 + n) = _; omega
theorem bsl4 (c : Nat → ClassId) (b n : Nat) : (bs4 c b n).length = 68 + n := by rw [List.length_append, List.length_append, List.length_append, blW, blE, blO]; show 8 + (20 + (40 + n)) = _; omega
theorem lnX1 (c : Nat → ClassId) (b : Nat) : (esX1 c b).length = 80 := bsl4 c b 12
theorem nI_nl9 {a b : Nat} (h : a < b) (hb : b < 2 ^ 31) : ¬ nI b ≤ nI a := by
  intro z
  have := Int32.le_iff_toInt_le.mp z
  rw [nI_toInt (by omega), nI_toInt (by omega)] at this
  omega
section BLOOPS
variable {x : kC} {cs ss : Nat}
abbrev bs1 (c : Nat → ClassId) (b n : Nat) : List va_E := bkP c b (fR n) (gN 0 (b + 8) 5) (gN 0 (b + 28) 1) (gN 0 (b + 68) 1)
set_option maxRecDepth 20000 in
theorem bk_1 (C : CtK x RX1 cX1_init 2 rmX1) (kk : JK x cs ss (bs1 (k_D x).1 (k_b x) 7) 113 [(1, .int (nI 7)), (0, .ref (k_b x))] []) : ∀ r n : Nat, r + n = 7 → JK x cs ss (bs1 (k_D x).1 (k_b x) n) 85 [(1, .int (nI n)), (0, .ref (k_b x))] [] := by
  intro r
  induction r with
  | zero =>
    intro n hn
    obtain rfl : n = 7 := by omega
    refine k_iload_n C 0 dX1_init_85 rfl rfl ?_
    refine k_getsN C (host := RX10) (C.2.2.2.2.2.2.2.2.2.2.2.2.2.1.1) (by decide) rfl dX1_init_86 ?_
    refine k_tlen C (C.2.2.2.2.2.2.2.2.2.2.2.2.2.1.2) (v := 7) rfl dX1_init_89 ?_
    exact k_icmp_ge C 113 dX1_init_90 (by decide) (fun _ => kk) (fun q => absurd (by decide) q)
  | succ r ih =>
    intro n hn
    refine k_iload_n C 0 dX1_init_85 rfl rfl ?_
    refine k_getsN C (host := RX10) (C.2.2.2.2.2.2.2.2.2.2.2.2.2.1.1) (by decide) rfl dX1_init_86 ?_
    refine k_tlen C (C.2.2.2.2.2.2.2.2.2.2.2.2.2.1.2) (v := nI 7) rfl dX1_init_89 ?_
    refine k_icmp_ge C 113 dX1_init_90 (by decide) (fun q => absurd q (nI_nl9 (by omega) (by decide))) (fun _ => ?_)
    refine k_aload_n C 1 dX1_init_93 rfl rfl ?_
    refine k_get C (i := 0) rfl (hc := rfl) hin_X1 0 (by decide) cv_4 rfl rfl rfl dX1_init_94 ?_
    refine k_iload_n C 0 dX1_init_97 rfl rfl ?_
    refine k_getsN C (host := RX10) (C.2.2.2.2.2.2.2.2.2.2.2.2.2.1.1) (by decide) rfl dX1_init_98 ?_
    refine k_iload_n C 0 dX1_init_101 rfl rfl ?_
    have hc : (nI n).toNatClampNeg = n := clN (by omega)
    refine k_tq C (C.2.2.2.2.2.2.2.2.2.2.2.2.2.1.2) (vp_nI (by omega) (by decide)) (v := .ref (k_ad x (1010 + n))) (by rw [hc]) dX1_init_102 ?_
    refine k_getX C (i := n) (ad := fun j => k_ad x (1010 + j)) (C.2.2.2.2.2.2.2.2.2.2.2.2.2.2.2.2.1) (by omega) cv_18 rfl dX1_init_103 ?_
    refine k_iast C (i := 1) (n0 := 7) (f := fR n) rfl (vp_nI (by omega) (by decide)) rfl (es1 := bs1 (k_D x).1 (k_b x) (n + 1)) (by rw [hc, fR_s]; rfl) dX1_init_106 ?_
    refine k_iinc C 0 [(1, .int (nI (n + 1))), (0, .ref (k_b x))] dX1_init_107 rfl (w := nI (n + 1)) (by show nI n + nI 1 = _; rw [nI_p _ _ (by omega)]) (by decide) rfl ?_
    exact k_goto C 85 dX1_init_110 (by decide) (ih (n + 1) (by omega))
set_option maxRecDepth 20000 in
set_option maxHeartbeats 1000000 in
theorem bk_2 (C : CtK x RX1 cX1_init 2 rmX1) (kk : JK x 27 350 (bs2 (k_D x).1 (k_b x) 4) 139 [(1, .int (nI 4)), (0, .ref (k_b x))] []) : ∀ r n : Nat, r + n = 4 → JK x (7 + 5 * n) (186 + 41 * n) (bs2 (k_D x).1 (k_b x) n) 115 [(1, .int (nI n)), (0, .ref (k_b x))] [] := by
  intro r
  induction r with
  | zero =>
    intro n hn
    obtain rfl : n = 4 := by omega
    refine k_iload_n C 0 dX1_init_115 rfl rfl ?_
    refine k_iconst (v := nI 4) C dX1_init_116 rfl ?_
    exact k_icmp_ge C 139 dX1_init_117 (by decide) (fun _ => kk) (fun q => absurd (Int32.le_refl _) q)
  | succ r ih =>
    intro n hn
    refine k_iload_n C 0 dX1_init_115 rfl rfl ?_
    refine k_iconst (v := nI 4) C dX1_init_116 rfl ?_
    refine k_icmp_ge C 139 dX1_init_117 (by decide) (fun q => absurd q (nI_nl9 (by omega) (by decide))) (fun _ => ?_)
    refine k_aload_n C 1 dX1_init_120 rfl rfl ?_
    refine k_get C (i := 0) rfl (hc := rfl) hin_X1 4 (by decide) cv_9 rfl rfl rfl dX1_init_121 ?_
    refine k_iload_n C 0 dX1_init_124 rfl rfl ?_
    refine k_new C (ci := 8) (fs := [.int 0, .int 0, .int 0, .null, .null, .int 0, .int 0, .null, .null]) tyX8 tyX8_ok hin_X8 ⟨cv_8, cv_19, cv_20⟩ rfl (by decide) ⟨by show _ ≤ 79; omega, by show _ ≤ 770; omega⟩ dX1_init_125 ?_
    refine k_dup C dX1_init_128 ?_
    have hlen : (bs2 (k_D x).1 (k_b x) n).length = 8 + 5 * n := bsl2 _ _ n
    refine k_initN C (host := RX10) (es0 := bs2 (k_D x).1 (k_b x) n) (e0 := e0X8) (fe := esX8 (k_D x).1 (k_b x + (bs2 (k_D x).1 (k_b x) n).length)) (mc := 4) (ms := 32) rfl (mk_X8 _ _ _ _) ⟨by decide, cv_21, cv_20, cv_22⟩ rfl ⟨by decide +kernel, by decide +kernel, by decide +kernel⟩ ⟨rfl, rfl, Nat.le_of_ble_eq_true rfl, Nat.le_of_ble_eq_true rfl⟩ ⟨by show _ ≤ 79; omega, by show _ ≤ 770; omega⟩ rfl rfl (Nat.le_of_ble_eq_true rfl) dX1_init_129 ?_
    have hc : (nI n).toNatClampNeg = n := clN (by omega)
    refine k_astq C (i := 3) (qk := (bs2 (k_D x).1 (k_b x) n).length) (t0 := 2) (r := (RX8, TX8, 9)) (ci := 8) rfl rfl (by rw [List.getElem?_append_right (Nat.le_refl _), Nat.sub_self]; rfl) rfl (vp_nI (by omega) (by decide)) rfl rfl (es1 := bs2 (k_D x).1 (k_b x) (n + 1)) ?_ dX1_init_132 ?_
    · rw [hc, hlen, show k_b x + (8 + 5 * n) = k_b x + 8 + 5 * n by omega, gN_s]
      show (bkP _ _ _ _ _ _ ++ _ ++ _).set 3 _ = bkP _ _ _ _ _ _ ++ blk (bkW (k_D x).1 (k_b x)) (n + 1)
      rw [List.append_assoc, blk_s (bkW (k_D x).1 (k_b x)) n]
      rfl
    · refine k_iinc C 0 [(1, .int (nI (n + 1))), (0, .ref (k_b x))] dX1_init_133 rfl (w := nI (n + 1)) (by show nI n + nI 1 = _; rw [nI_p _ _ (by omega)]) (by decide) rfl ?_
      refine k_goto C 115 dX1_init_136 (by decide) ?_
      refine k_nm (es2 := bs2 (k_D x).1 (k_b x) (n + 1)) (st2 := []) (cs2 := 7 + 5 * (n + 1)) (ss2 := 186 + 41 * (n + 1)) rfl rfl (by omega) (by omega) (ih (n + 1) (by omega))
set_option maxRecDepth 20000 in
set_option maxHeartbeats 1000000 in
theorem bk_3 (C : CtK x RX1 cX1_init 2 rmX1) (kk : JK x 67 710 (bs3 (k_D x).1 (k_b x) 40) 166 [(1, .int (nI 40)), (0, .ref (k_b x))] []) : ∀ r n : Nat, r + n = 40 → JK x (27 + 1 * n) (350 + 9 * n) (bs3 (k_D x).1 (k_b x) n) 141 [(1, .int (nI n)), (0, .ref (k_b x))] [] := by
  intro r
  induction r with
  | zero =>
    intro n hn
    obtain rfl : n = 40 := by omega
    refine k_iload_n C 0 dX1_init_141 rfl rfl ?_
    refine k_bipush (v := nI 40) C dX1_init_142 rfl ?_
    exact k_icmp_ge C 166 dX1_init_144 (by decide) (fun _ => kk) (fun q => absurd (Int32.le_refl _) q)
  | succ r ih =>
    intro n hn
    refine k_iload_n C 0 dX1_init_141 rfl rfl ?_
    refine k_bipush (v := nI 40) C dX1_init_142 rfl ?_
    refine k_icmp_ge C 166 dX1_init_144 (by decide) (fun q => absurd q (nI_nl9 (by omega) (by decide))) (fun _ => ?_)
    refine k_aload_n C 1 dX1_init_147 rfl rfl ?_
    refine k_get C (i := 0) rfl (hc := rfl) hin_X1 6 (by decide) cv_12 rfl rfl rfl dX1_init_148 ?_
    refine k_iload_n C 0 dX1_init_151 rfl rfl ?_
    refine k_new C (ci := 3) (fs := [.int 0, .int 0, .int 0, .int 0, .int 0, .int 0, .int 0, .int 0, .int 0]) tyX2 tyX2_ok hin_X2 ⟨cv_11, cv_23, cv_24⟩ rfl (by decide) ⟨by show _ ≤ 79; omega, by show _ ≤ 770; omega⟩ dX1_init_152 ?_
    refine k_dup C dX1_init_155 ?_
    have hlen : (bs3 (k_D x).1 (k_b x) n).length = 28 + n := bsl3 _ _ n
    refine k_initN C (host := RX10) (es0 := bs3 (k_D x).1 (k_b x) n) (e0 := e0X2) (fe := esX2 (k_D x).1 (k_b x + (bs3 (k_D x).1 (k_b x) n).length)) (mc := 0) (ms := 0) rfl (mk_X2 _ _ _ _) ⟨by decide, cv_25, cv_24, cv_26⟩ rfl ⟨by decide +kernel, by decide +kernel, by decide +kernel⟩ ⟨rfl, rfl, Nat.le_of_ble_eq_true rfl, Nat.le_of_ble_eq_true rfl⟩ ⟨by show _ ≤ 79; omega, by show _ ≤ 770; omega⟩ rfl rfl (Nat.le_of_ble_eq_true rfl) dX1_init_156 ?_
    have hc : (nI n).toNatClampNeg = n := clN (by omega)
    refine k_astq C (i := 4) (qk := (bs3 (k_D x).1 (k_b x) n).length) (t0 := 3) (r := (RX2, TX2, 9)) (ci := 3) rfl rfl (by rw [List.getElem?_append_right (Nat.le_refl _), Nat.sub_self]; rfl) rfl (vp_nI (by omega) (by decide)) rfl rfl (es1 := bs3 (k_D x).1 (k_b x) (n + 1)) ?_ dX1_init_159 ?_
    · rw [hc, hlen, show k_b x + (28 + n) = k_b x + 28 + 1 * n by omega, gN_s]
      show (bkP _ _ _ _ _ _ ++ _ ++ _).set 4 _ = bkP _ _ _ _ _ _ ++ (blk (bkW (k_D x).1 (k_b x)) 4 ++ blk (bkE (k_D x).1 (k_b x)) (n + 1))
      rw [List.append_assoc, List.append_assoc, blk_s (bkE (k_D x).1 (k_b x)) n]
      rfl
    · refine k_iinc C 0 [(1, .int (nI (n + 1))), (0, .ref (k_b x))] dX1_init_160 rfl (w := nI (n + 1)) (by show nI n + nI 1 = _; rw [nI_p _ _ (by omega)]) (by decide) rfl ?_
      refine k_goto C 141 dX1_init_163 (by decide) ?_
      refine k_nm (es2 := bs3 (k_D x).1 (k_b x) (n + 1)) (st2 := []) (cs2 := 27 + 1 * (n + 1)) (ss2 := 350 + 9 * (n + 1)) rfl rfl (by omega) (by omega) (ih (n + 1) (by omega))
set_option maxRecDepth 20000 in
set_option maxHeartbeats 1000000 in
theorem bk_4 (C : CtK x RX1 cX1_init 2 rmX1) (kk : JK x 79 770 (bs4 (k_D x).1 (k_b x) 12) 193 [(1, .int (nI 12)), (0, .ref (k_b x))] []) : ∀ r n : Nat, r + n = 12 → JK x (67 + 1 * n) (710 + 5 * n) (bs4 (k_D x).1 (k_b x) n) 168 [(1, .int (nI n)), (0, .ref (k_b x))] [] := by
  intro r
  induction r with
  | zero =>
    intro n hn
    obtain rfl : n = 12 := by omega
    refine k_iload_n C 0 dX1_init_168 rfl rfl ?_
    refine k_bipush (v := nI 12) C dX1_init_169 rfl ?_
    exact k_icmp_ge C 193 dX1_init_171 (by decide) (fun _ => kk) (fun q => absurd (Int32.le_refl _) q)
  | succ r ih =>
    intro n hn
    refine k_iload_n C 0 dX1_init_168 rfl rfl ?_
    refine k_bipush (v := nI 12) C dX1_init_169 rfl ?_
    refine k_icmp_ge C 193 dX1_init_171 (by decide) (fun q => absurd q (nI_nl9 (by omega) (by decide))) (fun _ => ?_)
    refine k_aload_n C 1 dX1_init_174 rfl rfl ?_
    refine k_get C (i := 0) rfl (hc := rfl) hin_X1 8 (by decide) cv_15 rfl rfl rfl dX1_init_175 ?_
    refine k_iload_n C 0 dX1_init_178 rfl rfl ?_
    refine k_new C (ci := 4) (fs := [.int 0, .int 0, .int 0, .int 0, .int 0]) tyX3 tyX3_ok hin_X3 ⟨cv_14, cv_27, cv_28⟩ rfl (by decide) ⟨by show _ ≤ 79; omega, by show _ ≤ 770; omega⟩ dX1_init_179 ?_
    refine k_dup C dX1_init_182 ?_
    have hlen : (bs4 (k_D x).1 (k_b x) n).length = 68 + n := bsl4 _ _ n
    refine k_initN C (host := RX10) (es0 := bs4 (k_D x).1 (k_b x) n) (e0 := e0X3) (fe := esX3 (k_D x).1 (k_b x + (bs4 (k_D x).1 (k_b x) n).length)) (mc := 0) (ms := 0) rfl (mk_X3 _ _ _ _) ⟨by decide, cv_29, cv_28, cv_30⟩ rfl ⟨by decide +kernel, by decide +kernel, by decide +kernel⟩ ⟨rfl, rfl, Nat.le_of_ble_eq_true rfl, Nat.le_of_ble_eq_true rfl⟩ ⟨by show _ ≤ 79; omega, by show _ ≤ 770; omega⟩ rfl rfl (Nat.le_of_ble_eq_true rfl) dX1_init_183 ?_
    have hc : (nI n).toNatClampNeg = n := clN (by omega)
    refine k_astq C (i := 5) (qk := (bs4 (k_D x).1 (k_b x) n).length) (t0 := 4) (r := (RX3, TX3, 5)) (ci := 4) rfl rfl (by rw [List.getElem?_append_right (Nat.le_refl _), Nat.sub_self]; rfl) rfl (vp_nI (by omega) (by decide)) rfl rfl (es1 := bs4 (k_D x).1 (k_b x) (n + 1)) ?_ dX1_init_186 ?_
    · rw [hc, hlen, show k_b x + (68 + n) = k_b x + 68 + 1 * n by omega, gN_s]
      show (bkP _ _ _ _ _ _ ++ _ ++ _).set 5 _ = bkP _ _ _ _ _ _ ++ (blk (bkW (k_D x).1 (k_b x)) 4 ++ (blk (bkE (k_D x).1 (k_b x)) 40 ++ blk (bkO (k_D x).1 (k_b x)) (n + 1)))
      rw [List.append_assoc, List.append_assoc, List.append_assoc, blk_s (bkO (k_D x).1 (k_b x)) n]
      rfl
    · refine k_iinc C 0 [(1, .int (nI (n + 1))), (0, .ref (k_b x))] dX1_init_187 rfl (w := nI (n + 1)) (by show nI n + nI 1 = _; rw [nI_p _ _ (by omega)]) (by decide) rfl ?_
      refine k_goto C 168 dX1_init_190 (by decide) ?_
      refine k_nm (es2 := bs4 (k_D x).1 (k_b x) (n + 1)) (st2 := []) (cs2 := 67 + 1 * (n + 1)) (ss2 := 710 + 5 * (n + 1)) rfl rfl (by omega) (by omega) (ih (n + 1) (by omega))
end BLOOPS
abbrev e0X1 : va_E := .inr (2, [.null, .int 0, .null, .int 0, .null, .int 0, .null, .int 0, .null, .null, .null])
set_option maxRecDepth 20000 in
set_option maxHeartbeats 4000000 in
theorem mk_X1 (l : Launch) (D : va_G) (ad : Nat → Nat) (b : Nat) : kMet l yX1_init cX1_init 2 rmX1 D ad b e0X1 (esX1 D.1 b) 79 770 := by
  refine kMet_of (own := RX1) (by decide +kernel) rfl rfl (Nat.le_of_ble_eq_true rfl) ?_
  intro x C e1 e2 e3 e4 hin2 hr eQ
  subst e1; subst e2; subst e3; subst e4
  refine k_aload_n C 0 dX1_init_0 rfl rfl ?_
  refine k_obj C ⟨cv_0, cv_1, cv_2⟩ dX1_init_1 ⟨Nat.le_of_ble_eq_true rfl, Nat.le_of_ble_eq_true rfl⟩ (Nat.le_of_ble_eq_true rfl) ?_
  refine k_aload_n C 0 dX1_init_4 rfl rfl ?_
  refine k_getsN C (host := RX10) (C.2.2.2.2.2.2.2.2.2.2.2.2.2.1.1) (by decide) rfl dX1_init_5 ?_
  refine k_tlen C (C.2.2.2.2.2.2.2.2.2.2.2.2.2.1.2) (v := 7) rfl dX1_init_8 ?_
  refine k_newa C (ty := .int) rfl rfl 0 rfl (fun U h => h) cv_3 (N := 7) (by decide) (by decide) (by decide) ⟨Nat.le_of_ble_eq_true rfl, Nat.le_of_ble_eq_true rfl⟩ dX1_init_9 ?_
  refine k_nm (es2 := [.inr (2, [.null, .int 0, .null, .int 0, .null, .int 0, .null, .int 0, .null, .null, .null]), .inl ((k_D x).1 100, 7, .inl (fun _ => 0))]) (st2 := [.ref (k_b x + 1), .ref (k_b x)]) (cs2 := 1) (ss2 := 7) rfl rfl rfl rfl ?_
  refine k_putF C hin2 (i := 0) tyX1 tyX1_ok nmX1 rfl (hc := rfl) hin_X1 0 (by decide) cv_4 rfl rfl rfl (ht := rfl) rfl rfl (Nat.le_of_ble_eq_true rfl) rfl (es1 := [.inr (2, [.ref (k_b x + 1), .int 0, .null, .int 0, .null, .int 0, .null, .int 0, .null, .null, .null]), .inl ((k_D x).1 100, 7, .inl (fun _ => 0))]) rfl dX1_init_11 ?_
  refine k_aload_n C 0 dX1_init_14 rfl rfl ?_
  refine k_iconst (v := 0) C dX1_init_15 rfl ?_
  refine k_put C (i := 0) tyX1 tyX1_ok nmX1 rfl (hc := rfl) hin_X1 1 (by decide) cv_5 rfl rfl (ht := rfl) rfl rfl (Nat.le_of_ble_eq_true rfl) rfl (es1 := [.inr (2, [.ref (k_b x + 1), .int 0, .null, .int 0, .null, .int 0, .null, .int 0, .null, .null, .null]), .inl ((k_D x).1 100, 7, .inl (fun _ => 0))]) rfl dX1_init_16 ?_
  refine k_aload_n C 0 dX1_init_19 rfl rfl ?_
  refine k_iconst (v := 3) C dX1_init_20 rfl ?_
  refine k_newa C (ty := .int) rfl rfl 0 rfl (fun U h => h) cv_3 (N := 3) (by decide) (by decide) (by decide) ⟨Nat.le_of_ble_eq_true rfl, Nat.le_of_ble_eq_true rfl⟩ dX1_init_21 ?_
  refine k_nm (es2 := [.inr (2, [.ref (k_b x + 1), .int 0, .null, .int 0, .null, .int 0, .null, .int 0, .null, .null, .null]), .inl ((k_D x).1 100, 7, .inl (fun _ => 0)), .inl ((k_D x).1 100, 3, .inl (fun _ => 0))]) (st2 := [.ref (k_b x + 2), .ref (k_b x)]) (cs2 := 2) (ss2 := 10) rfl rfl rfl rfl ?_
  refine k_putF C hin2 (i := 0) tyX1 tyX1_ok nmX1 rfl (hc := rfl) hin_X1 2 (by decide) cv_6 rfl rfl rfl (ht := rfl) rfl rfl (Nat.le_of_ble_eq_true rfl) rfl (es1 := [.inr (2, [.ref (k_b x + 1), .int 0, .ref (k_b x + 2), .int 0, .null, .int 0, .null, .int 0, .null, .null, .null]), .inl ((k_D x).1 100, 7, .inl (fun _ => 0)), .inl ((k_D x).1 100, 3, .inl (fun _ => 0))]) rfl dX1_init_23 ?_
  refine k_aload_n C 0 dX1_init_26 rfl rfl ?_
  refine k_iconst (v := 0) C dX1_init_27 rfl ?_
  refine k_put C (i := 0) tyX1 tyX1_ok nmX1 rfl (hc := rfl) hin_X1 3 (by decide) cv_7 rfl rfl (ht := rfl) rfl rfl (Nat.le_of_ble_eq_true rfl) rfl (es1 := [.inr (2, [.ref (k_b x + 1), .int 0, .ref (k_b x + 2), .int 0, .null, .int 0, .null, .int 0, .null, .null, .null]), .inl ((k_D x).1 100, 7, .inl (fun _ => 0)), .inl ((k_D x).1 100, 3, .inl (fun _ => 0))]) rfl dX1_init_28 ?_
  refine k_aload_n C 0 dX1_init_31 rfl rfl ?_
  refine k_iconst (v := 4) C dX1_init_32 rfl ?_
  refine k_newq C 2 rfl cv_8 C.2.2.2.2.2.2.2.2.2.1.2.2.1 (N := 4) (by decide) (by decide) (by decide) ⟨Nat.le_of_ble_eq_true rfl, Nat.le_of_ble_eq_true rfl⟩ dX1_init_33 ?_
  refine k_nm (es2 := [.inr (2, [.ref (k_b x + 1), .int 0, .ref (k_b x + 2), .int 0, .null, .int 0, .null, .int 0, .null, .null, .null]), .inl ((k_D x).1 100, 7, .inl (fun _ => 0)), .inl ((k_D x).1 100, 3, .inl (fun _ => 0)), .inl ((k_D x).1 102, 4, .inr (.inr (.inr (.inr (fun _ => none)))))]) (st2 := [.ref (k_b x + 3), .ref (k_b x)]) (cs2 := 3) (ss2 := 14) rfl rfl rfl rfl ?_
  refine k_putF C hin2 (i := 0) tyX1 tyX1_ok nmX1 rfl (hc := rfl) hin_X1 4 (by decide) cv_9 rfl rfl rfl (ht := rfl) rfl rfl (Nat.le_of_ble_eq_true rfl) rfl (es1 := [.inr (2, [.ref (k_b x + 1), .int 0, .ref (k_b x + 2), .int 0, .ref (k_b x + 3), .int 0, .null, .int 0, .null, .null, .null]), .inl ((k_D x).1 100, 7, .inl (fun _ => 0)), .inl ((k_D x).1 100, 3, .inl (fun _ => 0)), .inl ((k_D x).1 102, 4, .inr (.inr (.inr (.inr (fun _ => none)))))]) rfl dX1_init_36 ?_
  refine k_aload_n C 0 dX1_init_39 rfl rfl ?_
  refine k_iconst (v := 0) C dX1_init_40 rfl ?_
  refine k_put C (i := 0) tyX1 tyX1_ok nmX1 rfl (hc := rfl) hin_X1 5 (by decide) cv_10 rfl rfl (ht := rfl) rfl rfl (Nat.le_of_ble_eq_true rfl) rfl (es1 := [.inr (2, [.ref (k_b x + 1), .int 0, .ref (k_b x + 2), .int 0, .ref (k_b x + 3), .int 0, .null, .int 0, .null, .null, .null]), .inl ((k_D x).1 100, 7, .inl (fun _ => 0)), .inl ((k_D x).1 100, 3, .inl (fun _ => 0)), .inl ((k_D x).1 102, 4, .inr (.inr (.inr (.inr (fun _ => none)))))]) rfl dX1_init_41 ?_
  refine k_aload_n C 0 dX1_init_44 rfl rfl ?_
  refine k_bipush (v := 40) C dX1_init_45 rfl ?_
  refine k_newq C 3 rfl cv_11 C.2.2.2.2.2.2.2.2.2.1.2.2.2.1 (N := 40) (by decide) (by decide) (by decide) ⟨Nat.le_of_ble_eq_true rfl, Nat.le_of_ble_eq_true rfl⟩ dX1_init_47 ?_
  refine k_nm (es2 := [.inr (2, [.ref (k_b x + 1), .int 0, .ref (k_b x + 2), .int 0, .ref (k_b x + 3), .int 0, .null, .int 0, .null, .null, .null]), .inl ((k_D x).1 100, 7, .inl (fun _ => 0)), .inl ((k_D x).1 100, 3, .inl (fun _ => 0)), .inl ((k_D x).1 102, 4, .inr (.inr (.inr (.inr (fun _ => none))))), .inl ((k_D x).1 103, 40, .inr (.inr (.inr (.inr (fun _ => none)))))]) (st2 := [.ref (k_b x + 4), .ref (k_b x)]) (cs2 := 4) (ss2 := 54) rfl rfl rfl rfl ?_
  refine k_putF C hin2 (i := 0) tyX1 tyX1_ok nmX1 rfl (hc := rfl) hin_X1 6 (by decide) cv_12 rfl rfl rfl (ht := rfl) rfl rfl (Nat.le_of_ble_eq_true rfl) rfl (es1 := [.inr (2, [.ref (k_b x + 1), .int 0, .ref (k_b x + 2), .int 0, .ref (k_b x + 3), .int 0, .ref (k_b x + 4), .int 0, .null, .null, .null]), .inl ((k_D x).1 100, 7, .inl (fun _ => 0)), .inl ((k_D x).1 100, 3, .inl (fun _ => 0)), .inl ((k_D x).1 102, 4, .inr (.inr (.inr (.inr (fun _ => none))))), .inl ((k_D x).1 103, 40, .inr (.inr (.inr (.inr (fun _ => none)))))]) rfl dX1_init_50 ?_
  refine k_aload_n C 0 dX1_init_53 rfl rfl ?_
  refine k_iconst (v := 0) C dX1_init_54 rfl ?_
  refine k_put C (i := 0) tyX1 tyX1_ok nmX1 rfl (hc := rfl) hin_X1 7 (by decide) cv_13 rfl rfl (ht := rfl) rfl rfl (Nat.le_of_ble_eq_true rfl) rfl (es1 := [.inr (2, [.ref (k_b x + 1), .int 0, .ref (k_b x + 2), .int 0, .ref (k_b x + 3), .int 0, .ref (k_b x + 4), .int 0, .null, .null, .null]), .inl ((k_D x).1 100, 7, .inl (fun _ => 0)), .inl ((k_D x).1 100, 3, .inl (fun _ => 0)), .inl ((k_D x).1 102, 4, .inr (.inr (.inr (.inr (fun _ => none))))), .inl ((k_D x).1 103, 40, .inr (.inr (.inr (.inr (fun _ => none)))))]) rfl dX1_init_55 ?_
  refine k_aload_n C 0 dX1_init_58 rfl rfl ?_
  refine k_bipush (v := 12) C dX1_init_59 rfl ?_
  refine k_newq C 4 rfl cv_14 C.2.2.2.2.2.2.2.2.2.1.2.2.2.2 (N := 12) (by decide) (by decide) (by decide) ⟨Nat.le_of_ble_eq_true rfl, Nat.le_of_ble_eq_true rfl⟩ dX1_init_61 ?_
  refine k_nm (es2 := [.inr (2, [.ref (k_b x + 1), .int 0, .ref (k_b x + 2), .int 0, .ref (k_b x + 3), .int 0, .ref (k_b x + 4), .int 0, .null, .null, .null]), .inl ((k_D x).1 100, 7, .inl (fun _ => 0)), .inl ((k_D x).1 100, 3, .inl (fun _ => 0)), .inl ((k_D x).1 102, 4, .inr (.inr (.inr (.inr (fun _ => none))))), .inl ((k_D x).1 103, 40, .inr (.inr (.inr (.inr (fun _ => none))))), .inl ((k_D x).1 104, 12, .inr (.inr (.inr (.inr (fun _ => none)))))]) (st2 := [.ref (k_b x + 5), .ref (k_b x)]) (cs2 := 5) (ss2 := 66) rfl rfl rfl rfl ?_
  refine k_putF C hin2 (i := 0) tyX1 tyX1_ok nmX1 rfl (hc := rfl) hin_X1 8 (by decide) cv_15 rfl rfl rfl (ht := rfl) rfl rfl (Nat.le_of_ble_eq_true rfl) rfl (es1 := [.inr (2, [.ref (k_b x + 1), .int 0, .ref (k_b x + 2), .int 0, .ref (k_b x + 3), .int 0, .ref (k_b x + 4), .int 0, .ref (k_b x + 5), .null, .null]), .inl ((k_D x).1 100, 7, .inl (fun _ => 0)), .inl ((k_D x).1 100, 3, .inl (fun _ => 0)), .inl ((k_D x).1 102, 4, .inr (.inr (.inr (.inr (fun _ => none))))), .inl ((k_D x).1 103, 40, .inr (.inr (.inr (.inr (fun _ => none))))), .inl ((k_D x).1 104, 12, .inr (.inr (.inr (.inr (fun _ => none)))))]) rfl dX1_init_64 ?_
  refine k_aload_n C 0 dX1_init_67 rfl rfl ?_
  refine k_bipush (v := 80) C dX1_init_68 rfl ?_
  refine k_newa C (ty := .int) rfl rfl 0 rfl (fun U h => h) cv_3 (N := 80) (by decide) (by decide) (by decide) ⟨Nat.le_of_ble_eq_true rfl, Nat.le_of_ble_eq_true rfl⟩ dX1_init_70 ?_
  refine k_nm (es2 := [.inr (2, [.ref (k_b x + 1), .int 0, .ref (k_b x + 2), .int 0, .ref (k_b x + 3), .int 0, .ref (k_b x + 4), .int 0, .ref (k_b x + 5), .null, .null]), .inl ((k_D x).1 100, 7, .inl (fun _ => 0)), .inl ((k_D x).1 100, 3, .inl (fun _ => 0)), .inl ((k_D x).1 102, 4, .inr (.inr (.inr (.inr (fun _ => none))))), .inl ((k_D x).1 103, 40, .inr (.inr (.inr (.inr (fun _ => none))))), .inl ((k_D x).1 104, 12, .inr (.inr (.inr (.inr (fun _ => none))))), .inl ((k_D x).1 100, 80, .inl (fun _ => 0))]) (st2 := [.ref (k_b x + 6), .ref (k_b x)]) (cs2 := 6) (ss2 := 146) rfl rfl rfl rfl ?_
  refine k_putF C hin2 (i := 0) tyX1 tyX1_ok nmX1 rfl (hc := rfl) hin_X1 9 (by decide) cv_16 rfl rfl rfl (ht := rfl) rfl rfl (Nat.le_of_ble_eq_true rfl) rfl (es1 := [.inr (2, [.ref (k_b x + 1), .int 0, .ref (k_b x + 2), .int 0, .ref (k_b x + 3), .int 0, .ref (k_b x + 4), .int 0, .ref (k_b x + 5), .ref (k_b x + 6), .null]), .inl ((k_D x).1 100, 7, .inl (fun _ => 0)), .inl ((k_D x).1 100, 3, .inl (fun _ => 0)), .inl ((k_D x).1 102, 4, .inr (.inr (.inr (.inr (fun _ => none))))), .inl ((k_D x).1 103, 40, .inr (.inr (.inr (.inr (fun _ => none))))), .inl ((k_D x).1 104, 12, .inr (.inr (.inr (.inr (fun _ => none))))), .inl ((k_D x).1 100, 80, .inl (fun _ => 0))]) rfl dX1_init_72 ?_
  refine k_aload_n C 0 dX1_init_75 rfl rfl ?_
  refine k_bipush (v := 40) C dX1_init_76 rfl ?_
  refine k_newa C (ty := .int) rfl rfl 0 rfl (fun U h => h) cv_3 (N := 40) (by decide) (by decide) (by decide) ⟨Nat.le_of_ble_eq_true rfl, Nat.le_of_ble_eq_true rfl⟩ dX1_init_78 ?_
  refine k_nm (es2 := [.inr (2, [.ref (k_b x + 1), .int 0, .ref (k_b x + 2), .int 0, .ref (k_b x + 3), .int 0, .ref (k_b x + 4), .int 0, .ref (k_b x + 5), .ref (k_b x + 6), .null]), .inl ((k_D x).1 100, 7, .inl (fun _ => 0)), .inl ((k_D x).1 100, 3, .inl (fun _ => 0)), .inl ((k_D x).1 102, 4, .inr (.inr (.inr (.inr (fun _ => none))))), .inl ((k_D x).1 103, 40, .inr (.inr (.inr (.inr (fun _ => none))))), .inl ((k_D x).1 104, 12, .inr (.inr (.inr (.inr (fun _ => none))))), .inl ((k_D x).1 100, 80, .inl (fun _ => 0)), .inl ((k_D x).1 100, 40, .inl (fun _ => 0))]) (st2 := [.ref (k_b x + 7), .ref (k_b x)]) (cs2 := 7) (ss2 := 186) rfl rfl rfl rfl ?_
  refine k_putF C hin2 (i := 0) tyX1 tyX1_ok nmX1 rfl (hc := rfl) hin_X1 10 (by decide) cv_17 rfl rfl rfl (ht := rfl) rfl rfl (Nat.le_of_ble_eq_true rfl) rfl (es1 := [.inr (2, [.ref (k_b x + 1), .int 0, .ref (k_b x + 2), .int 0, .ref (k_b x + 3), .int 0, .ref (k_b x + 4), .int 0, .ref (k_b x + 5), .ref (k_b x + 6), .ref (k_b x + 7)]), .inl ((k_D x).1 100, 7, .inl (fun _ => 0)), .inl ((k_D x).1 100, 3, .inl (fun _ => 0)), .inl ((k_D x).1 102, 4, .inr (.inr (.inr (.inr (fun _ => none))))), .inl ((k_D x).1 103, 40, .inr (.inr (.inr (.inr (fun _ => none))))), .inl ((k_D x).1 104, 12, .inr (.inr (.inr (.inr (fun _ => none))))), .inl ((k_D x).1 100, 80, .inl (fun _ => 0)), .inl ((k_D x).1 100, 40, .inl (fun _ => 0))]) rfl dX1_init_80 ?_
  refine k_iconst (v := nI 0) C dX1_init_83 rfl ?_
  refine k_istore_n C [(1, .int (nI 0)), (0, .ref (k_b x))] dX1_init_84 rfl (by decide) rfl ?_
  refine k_nm (es2 := bs1 (k_D x).1 (k_b x) 0) (st2 := []) (cs2 := 7) (ss2 := 186) (by rw [bs1, fR_0, gN_0, gN_0, gN_0]; rfl) rfl rfl rfl ?_
  refine bk_1 C ?_ 7 0 rfl
  refine k_iconst (v := nI 0) C dX1_init_113 rfl ?_
  refine k_istore_n C [(1, .int (nI 0)), (0, .ref (k_b x))] dX1_init_114 rfl (by decide) rfl ?_
  refine k_nm (es2 := bs2 (k_D x).1 (k_b x) 0) (st2 := []) (cs2 := 7 + 5 * 0) (ss2 := 186 + 41 * 0) (List.append_nil _).symm rfl rfl rfl ?_
  refine bk_2 C ?_ 4 0 rfl
  refine k_iconst (v := nI 0) C dX1_init_139 rfl ?_
  refine k_istore_n C [(1, .int (nI 0)), (0, .ref (k_b x))] dX1_init_140 rfl (by decide) rfl ?_
  refine k_nm (es2 := bs3 (k_D x).1 (k_b x) 0) (st2 := []) (cs2 := 27 + 1 * 0) (ss2 := 350 + 9 * 0) (by show _ = bkP _ _ _ _ _ _ ++ (_ ++ []); rw [List.append_nil]) rfl rfl rfl ?_
  refine bk_3 C ?_ 40 0 rfl
  refine k_iconst (v := nI 0) C dX1_init_166 rfl ?_
  refine k_istore_n C [(1, .int (nI 0)), (0, .ref (k_b x))] dX1_init_167 rfl (by decide) rfl ?_
  refine k_nm (es2 := bs4 (k_D x).1 (k_b x) 0) (st2 := []) (cs2 := 67 + 1 * 0) (ss2 := 710 + 5 * 0) (by show _ = bkP _ _ _ _ _ _ ++ (_ ++ (_ ++ [])); rw [List.append_nil]) rfl rfl rfl ?_
  refine bk_4 C ?_ 12 0 rfl
  exact k_vret C hr eQ dX1_init_193
