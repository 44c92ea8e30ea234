/-! GuardRolls() (made by wip/whole/gen/roll2.py) -/
theorem cu_0 : Cond.methodLink RX10 1 Lib.objectInit ∈ bW := List.mem_filter.mpr ⟨by decide +kernel, by decide +kernel⟩
theorem cu_1 : Cond.instanceMethod Lib.objectInit ∈ bW := List.mem_filter.mpr ⟨by decide +kernel, by decide +kernel⟩
theorem cu_2 : Cond.code Lib.objectInit ⟨#[0xb1]⟩ 1 none ∈ bW := List.mem_filter.mpr ⟨by decide +kernel, by decide +kernel⟩
theorem cu_3 : Cond.classLink RX10 7 RX7 ∈ bW := List.mem_filter.mpr ⟨by decide +kernel, by decide +kernel⟩
theorem cu_4 : Cond.instantiable RX7 2 ∈ bW := List.mem_filter.mpr ⟨by decide +kernel, by decide +kernel⟩
theorem cu_5 : Cond.initialized RX7 ∈ bW := List.mem_filter.mpr ⟨by decide +kernel, by decide +kernel⟩
theorem cu_6 : Cond.instanceMethod yX7_init ∈ bW := List.mem_filter.mpr ⟨by decide +kernel, by decide +kernel⟩
theorem cu_7 : Cond.code yX7_init cX7_init 1 none ∈ bW := List.mem_filter.mpr ⟨by decide +kernel, by decide +kernel⟩
theorem cu_8 : Cond.fieldLink RX10 10 RX10 "tape" "LGuardRolls$Tape;" ∈ bW := List.mem_filter.mpr ⟨by decide +kernel, by decide +kernel⟩
theorem cu_9 : Cond.classLink RX10 16 RX6 ∈ bW := List.mem_filter.mpr ⟨by decide +kernel, by decide +kernel⟩
theorem cu_10 : Cond.instantiable RX6 3 ∈ bW := List.mem_filter.mpr ⟨by decide +kernel, by decide +kernel⟩
theorem cu_11 : Cond.initialized RX6 ∈ bW := List.mem_filter.mpr ⟨by decide +kernel, by decide +kernel⟩
theorem cu_12 : Cond.instanceMethod yX6_init ∈ bW := List.mem_filter.mpr ⟨by decide +kernel, by decide +kernel⟩
theorem cu_13 : Cond.code yX6_init cX6_init 1 none ∈ bW := List.mem_filter.mpr ⟨by decide +kernel, by decide +kernel⟩
theorem cu_14 : Cond.fieldLink RX10 19 RX10 "reader" "LGuardRolls$RuleReader;" ∈ bW := List.mem_filter.mpr ⟨by decide +kernel, by decide +kernel⟩
theorem cu_15 : Cond.classLink RX10 23 RX1 ∈ bW := List.mem_filter.mpr ⟨by decide +kernel, by decide +kernel⟩
theorem cu_16 : Cond.instantiable RX1 11 ∈ bW := List.mem_filter.mpr ⟨by decide +kernel, by decide +kernel⟩
theorem cu_17 : Cond.initialized RX1 ∈ bW := List.mem_filter.mpr ⟨by decide +kernel, by decide +kernel⟩
theorem cu_18 : Cond.methodLink RX10 25 yX1_init ∈ bW := List.mem_filter.mpr ⟨by decide +kernel, by decide +kernel⟩
theorem cu_19 : Cond.instanceMethod yX1_init ∈ bW := List.mem_filter.mpr ⟨by decide +kernel, by decide +kernel⟩
theorem cu_20 : Cond.code yX1_init cX1_init 2 none ∈ bW := List.mem_filter.mpr ⟨by decide +kernel, by decide +kernel⟩
theorem cu_21 : Cond.fieldLink RX10 26 RX10 "book" "LGuardRolls$Book;" ∈ bW := List.mem_filter.mpr ⟨by decide +kernel, by decide +kernel⟩
theorem cu_22 : Cond.fieldLink RX10 30 RX10 "kept" "LGuardRolls$Book;" ∈ bW := List.mem_filter.mpr ⟨by decide +kernel, by decide +kernel⟩
theorem cu_23 : Cond.fieldLink RX10 33 RX10 "hasImage" "Z" ∈ bW := List.mem_filter.mpr ⟨by decide +kernel, by decide +kernel⟩
theorem cu_24 : Cond.classLink RX10 37 RX0 ∈ bW := List.mem_filter.mpr ⟨by decide +kernel, by decide +kernel⟩
theorem cu_25 : Cond.instantiable RX0 4 ∈ bW := List.mem_filter.mpr ⟨by decide +kernel, by decide +kernel⟩
theorem cu_26 : Cond.initialized RX0 ∈ bW := List.mem_filter.mpr ⟨by decide +kernel, by decide +kernel⟩
theorem cu_27 : Cond.instanceMethod yX0_init ∈ bW := List.mem_filter.mpr ⟨by decide +kernel, by decide +kernel⟩
theorem cu_28 : Cond.code yX0_init cX0_init 1 none ∈ bW := List.mem_filter.mpr ⟨by decide +kernel, by decide +kernel⟩
theorem cu_29 : Cond.fieldLink RX10 40 RX10 "acts" "LGuardRolls$Acts;" ∈ bW := List.mem_filter.mpr ⟨by decide +kernel, by decide +kernel⟩
theorem cu_30 : Cond.arrayClass .int ∈ bW := List.mem_filter.mpr ⟨by decide +kernel, by decide +kernel⟩
theorem cu_31 : Cond.fieldLink RX10 44 RX10 "refusals" "[I" ∈ bW := List.mem_filter.mpr ⟨by decide +kernel, by decide +kernel⟩
theorem cu_32 : Cond.classLink RX10 48 RX9 ∈ bW := List.mem_filter.mpr ⟨by decide +kernel, by decide +kernel⟩
theorem cu_33 : Cond.instantiable RX9 3 ∈ bW := List.mem_filter.mpr ⟨by decide +kernel, by decide +kernel⟩
theorem cu_34 : Cond.initialized RX9 ∈ bW := List.mem_filter.mpr ⟨by decide +kernel, by decide +kernel⟩
theorem cu_35 : Cond.instanceMethod yX9_init ∈ bW := List.mem_filter.mpr ⟨by decide +kernel, by decide +kernel⟩
theorem cu_36 : Cond.code yX9_init cX9_init 1 none ∈ bW := List.mem_filter.mpr ⟨by decide +kernel, by decide +kernel⟩
theorem cu_37 : Cond.fieldLink RX10 51 RX10 "view" "LGuardRolls$YearView;" ∈ bW := List.mem_filter.mpr ⟨by decide +kernel, by decide +kernel⟩
theorem cu_38 : Cond.classLink RX10 55 RX4 ∈ bW := List.mem_filter.mpr ⟨by decide +kernel, by decide +kernel⟩
theorem cu_39 : Cond.instantiable RX4 2 ∈ bW := List.mem_filter.mpr ⟨by decide +kernel, by decide +kernel⟩
theorem cu_40 : Cond.initialized RX4 ∈ bW := List.mem_filter.mpr ⟨by decide +kernel, by decide +kernel⟩
theorem cu_41 : Cond.instanceMethod yX4_init ∈ bW := List.mem_filter.mpr ⟨by decide +kernel, by decide +kernel⟩
theorem cu_42 : Cond.code yX4_init cX4_init 1 none ∈ bW := List.mem_filter.mpr ⟨by decide +kernel, by decide +kernel⟩
theorem cu_43 : Cond.fieldLink RX10 58 RX10 "peak" "LGuardRolls$Peak;" ∈ bW := List.mem_filter.mpr ⟨by decide +kernel, by decide +kernel⟩
theorem cu_44 : Cond.fieldLink RX10 62 RX10 "row" "[I" ∈ bW := List.mem_filter.mpr ⟨by decide +kernel, by decide +kernel⟩
theorem cu_45 : Cond.methodLink RX11 3 Lib.objectInit ∈ bW := List.mem_filter.mpr ⟨by decide +kernel, by decide +kernel⟩
theorem cu_46 : Cond.fieldLink RX11 9 RX11 "tape" "[I" ∈ bW := List.mem_filter.mpr ⟨by decide +kernel, by decide +kernel⟩
theorem cu_47 : Cond.fieldLink RX11 13 RX11 "read" "[I" ∈ bW := List.mem_filter.mpr ⟨by decide +kernel, by decide +kernel⟩
theorem cu_48 : Cond.fieldLink RX11 16 RX11 "rules" "[I" ∈ bW := List.mem_filter.mpr ⟨by decide +kernel, by decide +kernel⟩
theorem cu_49 : Cond.fieldLink RX11 19 RX11 "now" "[I" ∈ bW := List.mem_filter.mpr ⟨by decide +kernel, by decide +kernel⟩
theorem cu_50 : Cond.fieldLink RX11 22 RX11 "were" "[I" ∈ bW := List.mem_filter.mpr ⟨by decide +kernel, by decide +kernel⟩
theorem cu_51 : Cond.fieldLink RX11 25 RX11 "imaged" "[I" ∈ bW := List.mem_filter.mpr ⟨by decide +kernel, by decide +kernel⟩
theorem cu_52 : Cond.fieldLink RX11 28 RX11 "refused" "[I" ∈ bW := List.mem_filter.mpr ⟨by decide +kernel, by decide +kernel⟩
theorem cu_53 : Cond.fieldLink RX11 31 RX11 "allowed" "[I" ∈ bW := List.mem_filter.mpr ⟨by decide +kernel, by decide +kernel⟩
theorem cu_54 : Cond.fieldLink RX11 34 RX11 "money" "[I" ∈ bW := List.mem_filter.mpr ⟨by decide +kernel, by decide +kernel⟩
theorem cu_55 : Cond.fieldLink RX11 37 RX11 "idle" "[I" ∈ bW := List.mem_filter.mpr ⟨by decide +kernel, by decide +kernel⟩
theorem cu_56 : Cond.fieldLink RX11 40 RX11 "least" "[I" ∈ bW := List.mem_filter.mpr ⟨by decide +kernel, by decide +kernel⟩
theorem cu_57 : Cond.fieldLink RX11 43 RX11 "held" "[I" ∈ bW := List.mem_filter.mpr ⟨by decide +kernel, by decide +kernel⟩
theorem cu_58 : Cond.fieldLink RX11 46 RX11 "list" "[I" ∈ bW := List.mem_filter.mpr ⟨by decide +kernel, by decide +kernel⟩
theorem cu_59 : Cond.fieldLink RX11 49 RX11 "shorts" "[I" ∈ bW := List.mem_filter.mpr ⟨by decide +kernel, by decide +kernel⟩
abbrev e0X10 : va_E := .inr (10, [.null, .null, .null, .null, .int 0, .null, .null, .null, .null, .null])
def tl_0 : List va_E := []
theorem ln_0 : tl_0.length = 0 := rfl
def tl_1 (c : Nat → ClassId) (b : Nat) : List va_E := tl_0 ++ esX7 c (b + 1)
theorem ln_1 (c : Nat → ClassId) (b : Nat) : (tl_1 c b).length = 2 := by
  rw [tl_1, List.length_append, ln_0]
  all_goals rfl
def tl_2 (c : Nat → ClassId) (b : Nat) : List va_E := tl_1 c b ++ esX6 c (b + 3)
theorem ln_2 (c : Nat → ClassId) (b : Nat) : (tl_2 c b).length = 5 := by
  rw [tl_2, List.length_append, ln_1]
  all_goals rfl
def tl_3 (c : Nat → ClassId) (b : Nat) : List va_E := tl_2 c b ++ esX1 c (b + 6)
theorem ln_3 (c : Nat → ClassId) (b : Nat) : (tl_3 c b).length = 85 := by
  rw [tl_3, List.length_append, ln_2, lnX1]
def tl_4 (c : Nat → ClassId) (b : Nat) : List va_E := tl_3 c b ++ esX1 c (b + 86)
theorem ln_4 (c : Nat → ClassId) (b : Nat) : (tl_4 c b).length = 165 := by
  rw [tl_4, List.length_append, ln_3, lnX1]
def tl_5 (c : Nat → ClassId) (b : Nat) : List va_E := tl_4 c b ++ esX0 c (b + 166)
theorem ln_5 (c : Nat → ClassId) (b : Nat) : (tl_5 c b).length = 169 := by
  rw [tl_5, List.length_append, ln_4]
  all_goals rfl
def tl_6 (c : Nat → ClassId) (b : Nat) : List va_E := tl_5 c b ++ [.inl (c 100, 5, .inl (fun _ => 0))]
theorem ln_6 (c : Nat → ClassId) (b : Nat) : (tl_6 c b).length = 170 := by
  rw [tl_6, List.length_append, ln_5]
  all_goals rfl
def tl_7 (c : Nat → ClassId) (b : Nat) : List va_E := tl_6 c b ++ esX9 c (b + 171)
theorem ln_7 (c : Nat → ClassId) (b : Nat) : (tl_7 c b).length = 174 := by
  rw [tl_7, List.length_append, ln_6]
  all_goals rfl
def tl_8 (c : Nat → ClassId) (b : Nat) : List va_E := tl_7 c b ++ esX4 c (b + 175)
theorem ln_8 (c : Nat → ClassId) (b : Nat) : (tl_8 c b).length = 175 := by
  rw [tl_8, List.length_append, ln_7]
  all_goals rfl
def tl_9 (c : Nat → ClassId) (b : Nat) : List va_E := tl_8 c b ++ [.inl (c 100, 40, .inl (fun _ => 0))]
theorem ln_9 (c : Nat → ClassId) (b : Nat) : (tl_9 c b).length = 176 := by
  rw [tl_9, List.length_append, ln_8]
  all_goals rfl
abbrev obX10 (b : Nat) : va_E := .inr (10, [.ref (b + 1), .ref (b + 3), .ref (b + 6), .ref (b + 86), .int 0, .ref (b + 166), .ref (b + 170), .ref (b + 171), .ref (b + 175), .ref (b + 176)])
def esX10 (c : Nat → ClassId) (b : Nat) : List va_E := obX10 b :: tl_9 c b
abbrev rmX10 : Room := { frames := 3, cells := 176, slots := 3665, locals := 100 }
section ROLL
variable {x : kC}
set_option maxRecDepth 20000 in
set_option maxHeartbeats 2000000 in
theorem ro_0 (C : CtK x RX10 cX10_init 1 rmX10) (hin2 : (k_me x).name = "<init>") {X : List va_E} (hX : X.length = 0) {Z : List va_E} (hZ : Z = X ++ esX7 (k_D x).1 (k_b x + 1)) (k : JK x 2 202 (.inr (10, [.ref (k_b x + 1), .null, .null, .null, .int 0, .null, .null, .null, .null, .null]) :: Z) 15 [(0, .ref (k_b x))] []) : JK x 0 0 (.inr (10, [.null, .null, .null, .null, .int 0, .null, .null, .null, .null, .null]) :: X) 4 [(0, .ref (k_b x))] [] := by
  refine k_aload_n C 0 dX10_init_4 rfl rfl ?_
  refine k_new C (ci := 7) (fs := [.null, .int 0]) tyX7 tyX7_ok hin_X7 ⟨cu_3, cu_4, cu_5⟩ rfl (by decide) ⟨by show _ ≤ 176; omega, by show _ ≤ 3665; omega⟩ dX10_init_5 ?_
  refine k_dup C dX10_init_8 ?_
  have hl : ((.inr (10, [.null, .null, .null, .null, .int 0, .null, .null, .null, .null, .null]) :: X) : List va_E).length = 1 := by rw [List.length_cons, hX] <;> rfl
  refine k_initN C (host := RX10) (es0 := (.inr (10, [.null, .null, .null, .null, .int 0, .null, .null, .null, .null, .null]) :: X)) (e0 := e0X7) (fe := esX7 (k_D x).1 (k_b x + ((.inr (10, [.null, .null, .null, .null, .int 0, .null, .null, .null, .null, .null]) :: X) : List va_E).length)) (mc := 1) (ms := 200) rfl (mk_X7 _ _ _ _) ⟨by decide, cu_6, cu_5, cu_7⟩ rfl ⟨by decide +kernel, by decide +kernel, by decide +kernel⟩ ⟨rfl, rfl, Nat.le_of_ble_eq_true rfl, Nat.le_of_ble_eq_true rfl⟩ ⟨by show _ ≤ 176; omega, by show _ ≤ 3665; omega⟩ rfl rfl (Nat.le_of_ble_eq_true rfl) dX10_init_9 ?_
  generalize hY : esX7 (k_D x).1 (k_b x + 1) = Y at hZ
  refine k_nm (es2 := (.inr (10, [.null, .null, .null, .null, .int 0, .null, .null, .null, .null, .null]) :: Z)) (st2 := [.ref (k_b x + 1), .ref (k_b x)]) (cs2 := 2) (ss2 := 202) (by first | rw [hl, List.cons_append, hY, ← hZ] | rw [List.cons_append, hY, ← hZ] | rw [List.cons_append, ← hZ]) (by rw [hl]) rfl rfl ?_
  refine k_putF C hin2 (i := 0) tyX10 tyX10_ok nmX10 rfl (hc := rfl) hin_X10 0 (by decide) cu_8 rfl rfl rfl (ht := rfl) rfl rfl (Nat.le_of_ble_eq_true rfl) rfl (es1 := (.inr (10, [.ref (k_b x + 1), .null, .null, .null, .int 0, .null, .null, .null, .null, .null]) :: Z)) rfl dX10_init_12 ?_
  exact k
set_option maxRecDepth 20000 in
set_option maxHeartbeats 2000000 in
theorem ro_1 (C : CtK x RX10 cX10_init 1 rmX10) (hin2 : (k_me x).name = "<init>") {X : List va_E} (hX : X.length = 2) {Z : List va_E} (hZ : Z = X ++ esX6 (k_D x).1 (k_b x + 3)) (k : JK x 5 219 (.inr (10, [.ref (k_b x + 1), .ref (k_b x + 3), .null, .null, .int 0, .null, .null, .null, .null, .null]) :: Z) 26 [(0, .ref (k_b x))] []) : JK x 2 202 (.inr (10, [.ref (k_b x + 1), .null, .null, .null, .int 0, .null, .null, .null, .null, .null]) :: X) 15 [(0, .ref (k_b x))] [] := by
  refine k_aload_n C 0 dX10_init_15 rfl rfl ?_
  refine k_new C (ci := 6) (fs := [.null, .null, .int 0]) tyX6 tyX6_ok hin_X6 ⟨cu_9, cu_10, cu_11⟩ rfl (by decide) ⟨by show _ ≤ 176; omega, by show _ ≤ 3665; omega⟩ dX10_init_16 ?_
  refine k_dup C dX10_init_19 ?_
  have hl : ((.inr (10, [.ref (k_b x + 1), .null, .null, .null, .int 0, .null, .null, .null, .null, .null]) :: X) : List va_E).length = 3 := by rw [List.length_cons, hX] <;> rfl
  refine k_initN C (host := RX10) (es0 := (.inr (10, [.ref (k_b x + 1), .null, .null, .null, .int 0, .null, .null, .null, .null, .null]) :: X)) (e0 := e0X6) (fe := esX6 (k_D x).1 (k_b x + ((.inr (10, [.ref (k_b x + 1), .null, .null, .null, .int 0, .null, .null, .null, .null, .null]) :: X) : List va_E).length)) (mc := 2) (ms := 14) rfl (mk_X6 _ _ _ _) ⟨by decide, cu_12, cu_11, cu_13⟩ rfl ⟨by decide +kernel, by decide +kernel, by decide +kernel⟩ ⟨rfl, rfl, Nat.le_of_ble_eq_true rfl, Nat.le_of_ble_eq_true rfl⟩ ⟨by show _ ≤ 176; omega, by show _ ≤ 3665; omega⟩ rfl rfl (Nat.le_of_ble_eq_true rfl) dX10_init_20 ?_
  generalize hY : esX6 (k_D x).1 (k_b x + 3) = Y at hZ
  refine k_nm (es2 := (.inr (10, [.ref (k_b x + 1), .null, .null, .null, .int 0, .null, .null, .null, .null, .null]) :: Z)) (st2 := [.ref (k_b x + 3), .ref (k_b x)]) (cs2 := 5) (ss2 := 219) (by first | rw [hl, List.cons_append, hY, ← hZ] | rw [List.cons_append, hY, ← hZ] | rw [List.cons_append, ← hZ]) (by rw [hl]) rfl rfl ?_
  refine k_putF C hin2 (i := 0) tyX10 tyX10_ok nmX10 rfl (hc := rfl) hin_X10 1 (by decide) cu_14 rfl rfl rfl (ht := rfl) rfl rfl (Nat.le_of_ble_eq_true rfl) rfl (es1 := (.inr (10, [.ref (k_b x + 1), .ref (k_b x + 3), .null, .null, .int 0, .null, .null, .null, .null, .null]) :: Z)) rfl dX10_init_23 ?_
  exact k
set_option maxRecDepth 20000 in
set_option maxHeartbeats 2000000 in
theorem ro_2 (C : CtK x RX10 cX10_init 1 rmX10) (hin2 : (k_me x).name = "<init>") {X : List va_E} (hX : X.length = 5) {Z : List va_E} (hZ : Z = X ++ esX1 (k_D x).1 (k_b x + 6)) (k : JK x 85 1000 (.inr (10, [.ref (k_b x + 1), .ref (k_b x + 3), .ref (k_b x + 6), .null, .int 0, .null, .null, .null, .null, .null]) :: Z) 37 [(0, .ref (k_b x))] []) : JK x 5 219 (.inr (10, [.ref (k_b x + 1), .ref (k_b x + 3), .null, .null, .int 0, .null, .null, .null, .null, .null]) :: X) 26 [(0, .ref (k_b x))] [] := by
  refine k_aload_n C 0 dX10_init_26 rfl rfl ?_
  refine k_new C (ci := 2) (fs := [.null, .int 0, .null, .int 0, .null, .int 0, .null, .int 0, .null, .null, .null]) tyX1 tyX1_ok hin_X1 ⟨cu_15, cu_16, cu_17⟩ rfl (by decide) ⟨by show _ ≤ 176; omega, by show _ ≤ 3665; omega⟩ dX10_init_27 ?_
  refine k_dup C dX10_init_30 ?_
  have hl : ((.inr (10, [.ref (k_b x + 1), .ref (k_b x + 3), .null, .null, .int 0, .null, .null, .null, .null, .null]) :: X) : List va_E).length = 6 := by rw [List.length_cons, hX] <;> rfl
  refine k_init C (es0 := (.inr (10, [.ref (k_b x + 1), .ref (k_b x + 3), .null, .null, .int 0, .null, .null, .null, .null, .null]) :: X)) (e0 := e0X1) (fe := esX1 (k_D x).1 (k_b x + ((.inr (10, [.ref (k_b x + 1), .ref (k_b x + 3), .null, .null, .int 0, .null, .null, .null, .null, .null]) :: X) : List va_E).length)) (mc := 79) (ms := 770) (lnX1 _ _) (mk_X1 _ _ _ _) ⟨cu_18, cu_19, cu_17, cu_20⟩ rfl ⟨by decide +kernel, by decide +kernel, by decide +kernel⟩ ⟨rfl, rfl, Nat.le_of_ble_eq_true rfl, Nat.le_of_ble_eq_true rfl⟩ ⟨by show _ ≤ 176; omega, by show _ ≤ 3665; omega⟩ rfl rfl (Nat.le_of_ble_eq_true rfl) dX10_init_31 ?_
  generalize hY : esX1 (k_D x).1 (k_b x + 6) = Y at hZ
  refine k_nm (es2 := (.inr (10, [.ref (k_b x + 1), .ref (k_b x + 3), .null, .null, .int 0, .null, .null, .null, .null, .null]) :: Z)) (st2 := [.ref (k_b x + 6), .ref (k_b x)]) (cs2 := 85) (ss2 := 1000) (by first | rw [hl, List.cons_append, hY, ← hZ] | rw [List.cons_append, hY, ← hZ] | rw [List.cons_append, ← hZ]) (by rw [hl]) rfl rfl ?_
  refine k_putF C hin2 (i := 0) tyX10 tyX10_ok nmX10 rfl (hc := rfl) hin_X10 2 (by decide) cu_21 rfl rfl rfl (ht := rfl) rfl rfl (Nat.le_of_ble_eq_true rfl) rfl (es1 := (.inr (10, [.ref (k_b x + 1), .ref (k_b x + 3), .ref (k_b x + 6), .null, .int 0, .null, .null, .null, .null, .null]) :: Z)) rfl dX10_init_34 ?_
  exact k
set_option maxRecDepth 20000 in
set_option maxHeartbeats 2000000 in
theorem ro_3 (C : CtK x RX10 cX10_init 1 rmX10) (hin2 : (k_me x).name = "<init>") {X : List va_E} (hX : X.length = 85) {Z : List va_E} (hZ : Z = X ++ esX1 (k_D x).1 (k_b x + 86)) (k : JK x 165 1781 (.inr (10, [.ref (k_b x + 1), .ref (k_b x + 3), .ref (k_b x + 6), .ref (k_b x + 86), .int 0, .null, .null, .null, .null, .null]) :: Z) 48 [(0, .ref (k_b x))] []) : JK x 85 1000 (.inr (10, [.ref (k_b x + 1), .ref (k_b x + 3), .ref (k_b x + 6), .null, .int 0, .null, .null, .null, .null, .null]) :: X) 37 [(0, .ref (k_b x))] [] := by
  refine k_aload_n C 0 dX10_init_37 rfl rfl ?_
  refine k_new C (ci := 2) (fs := [.null, .int 0, .null, .int 0, .null, .int 0, .null, .int 0, .null, .null, .null]) tyX1 tyX1_ok hin_X1 ⟨cu_15, cu_16, cu_17⟩ rfl (by decide) ⟨by show _ ≤ 176; omega, by show _ ≤ 3665; omega⟩ dX10_init_38 ?_
  refine k_dup C dX10_init_41 ?_
  have hl : ((.inr (10, [.ref (k_b x + 1), .ref (k_b x + 3), .ref (k_b x + 6), .null, .int 0, .null, .null, .null, .null, .null]) :: X) : List va_E).length = 86 := by rw [List.length_cons, hX] <;> rfl
  refine k_init C (es0 := (.inr (10, [.ref (k_b x + 1), .ref (k_b x + 3), .ref (k_b x + 6), .null, .int 0, .null, .null, .null, .null, .null]) :: X)) (e0 := e0X1) (fe := esX1 (k_D x).1 (k_b x + ((.inr (10, [.ref (k_b x + 1), .ref (k_b x + 3), .ref (k_b x + 6), .null, .int 0, .null, .null, .null, .null, .null]) :: X) : List va_E).length)) (mc := 79) (ms := 770) (lnX1 _ _) (mk_X1 _ _ _ _) ⟨cu_18, cu_19, cu_17, cu_20⟩ rfl ⟨by decide +kernel, by decide +kernel, by decide +kernel⟩ ⟨rfl, rfl, Nat.le_of_ble_eq_true rfl, Nat.le_of_ble_eq_true rfl⟩ ⟨by show _ ≤ 176; omega, by show _ ≤ 3665; omega⟩ rfl rfl (Nat.le_of_ble_eq_true rfl) dX10_init_42 ?_
  generalize hY : esX1 (k_D x).1 (k_b x + 86) = Y at hZ
  refine k_nm (es2 := (.inr (10, [.ref (k_b x + 1), .ref (k_b x + 3), .ref (k_b x + 6), .null, .int 0, .null, .null, .null, .null, .null]) :: Z)) (st2 := [.ref (k_b x + 86), .ref (k_b x)]) (cs2 := 165) (ss2 := 1781) (by first | rw [hl, List.cons_append, hY, ← hZ] | rw [List.cons_append, hY, ← hZ] | rw [List.cons_append, ← hZ]) (by rw [hl]) rfl rfl ?_
  refine k_putF C hin2 (i := 0) tyX10 tyX10_ok nmX10 rfl (hc := rfl) hin_X10 3 (by decide) cu_22 rfl rfl rfl (ht := rfl) rfl rfl (Nat.le_of_ble_eq_true rfl) rfl (es1 := (.inr (10, [.ref (k_b x + 1), .ref (k_b x + 3), .ref (k_b x + 6), .ref (k_b x + 86), .int 0, .null, .null, .null, .null, .null]) :: Z)) rfl dX10_init_45 ?_
  exact k
set_option maxRecDepth 20000 in
set_option maxHeartbeats 2000000 in
theorem ro_4 (C : CtK x RX10 cX10_init 1 rmX10) (hin2 : (k_me x).name = "<init>") {X : List va_E} (hX : X.length = 165) (k : JK x 165 1781 (.inr (10, [.ref (k_b x + 1), .ref (k_b x + 3), .ref (k_b x + 6), .ref (k_b x + 86), .int 0, .null, .null, .null, .null, .null]) :: X) 53 [(0, .ref (k_b x))] []) : JK x 165 1781 (.inr (10, [.ref (k_b x + 1), .ref (k_b x + 3), .ref (k_b x + 6), .ref (k_b x + 86), .int 0, .null, .null, .null, .null, .null]) :: X) 48 [(0, .ref (k_b x))] [] := by
  refine k_aload_n C 0 dX10_init_48 rfl rfl ?_
  refine k_iconst (v := 0) C dX10_init_49 rfl ?_
  refine k_put C (i := 0) tyX10 tyX10_ok nmX10 rfl (hc := rfl) hin_X10 4 (by decide) cu_23 rfl rfl (ht := rfl) rfl rfl (Nat.le_of_ble_eq_true rfl) rfl (es1 := (.inr (10, [.ref (k_b x + 1), .ref (k_b x + 3), .ref (k_b x + 6), .ref (k_b x + 86), .int 0, .null, .null, .null, .null, .null]) :: X)) rfl dX10_init_50 ?_
  exact k
set_option maxRecDepth 20000 in
set_option maxHeartbeats 2000000 in
theorem ro_5 (C : CtK x RX10 cX10_init 1 rmX10) (hin2 : (k_me x).name = "<init>") {X : List va_E} (hX : X.length = 165) {Z : List va_E} (hZ : Z = X ++ esX0 (k_D x).1 (k_b x + 166)) (k : JK x 169 1815 (.inr (10, [.ref (k_b x + 1), .ref (k_b x + 3), .ref (k_b x + 6), .ref (k_b x + 86), .int 0, .ref (k_b x + 166), .null, .null, .null, .null]) :: Z) 64 [(0, .ref (k_b x))] []) : JK x 165 1781 (.inr (10, [.ref (k_b x + 1), .ref (k_b x + 3), .ref (k_b x + 6), .ref (k_b x + 86), .int 0, .null, .null, .null, .null, .null]) :: X) 53 [(0, .ref (k_b x))] [] := by
  refine k_aload_n C 0 dX10_init_53 rfl rfl ?_
  refine k_new C (ci := 1) (fs := [.int 0, .null, .null, .null]) tyX0 tyX0_ok hin_X0 ⟨cu_24, cu_25, cu_26⟩ rfl (by decide) ⟨by show _ ≤ 176; omega, by show _ ≤ 3665; omega⟩ dX10_init_54 ?_
  refine k_dup C dX10_init_57 ?_
  have hl : ((.inr (10, [.ref (k_b x + 1), .ref (k_b x + 3), .ref (k_b x + 6), .ref (k_b x + 86), .int 0, .null, .null, .null, .null, .null]) :: X) : List va_E).length = 166 := by rw [List.length_cons, hX] <;> rfl
  refine k_initN C (host := RX10) (es0 := (.inr (10, [.ref (k_b x + 1), .ref (k_b x + 3), .ref (k_b x + 6), .ref (k_b x + 86), .int 0, .null, .null, .null, .null, .null]) :: X)) (e0 := e0X0) (fe := esX0 (k_D x).1 (k_b x + ((.inr (10, [.ref (k_b x + 1), .ref (k_b x + 3), .ref (k_b x + 6), .ref (k_b x + 86), .int 0, .null, .null, .null, .null, .null]) :: X) : List va_E).length)) (mc := 3) (ms := 30) rfl (mk_X0 _ _ _ _) ⟨by decide, cu_27, cu_26, cu_28⟩ rfl ⟨by decide +kernel, by decide +kernel, by decide +kernel⟩ ⟨rfl, rfl, Nat.le_of_ble_eq_true rfl, Nat.le_of_ble_eq_true rfl⟩ ⟨by show _ ≤ 176; omega, by show _ ≤ 3665; omega⟩ rfl rfl (Nat.le_of_ble_eq_true rfl) dX10_init_58 ?_
  generalize hY : esX0 (k_D x).1 (k_b x + 166) = Y at hZ
  refine k_nm (es2 := (.inr (10, [.ref (k_b x + 1), .ref (k_b x + 3), .ref (k_b x + 6), .ref (k_b x + 86), .int 0, .null, .null, .null, .null, .null]) :: Z)) (st2 := [.ref (k_b x + 166), .ref (k_b x)]) (cs2 := 169) (ss2 := 1815) (by first | rw [hl, List.cons_append, hY, ← hZ] | rw [List.cons_append, hY, ← hZ] | rw [List.cons_append, ← hZ]) (by rw [hl]) rfl rfl ?_
  refine k_putF C hin2 (i := 0) tyX10 tyX10_ok nmX10 rfl (hc := rfl) hin_X10 5 (by decide) cu_29 rfl rfl rfl (ht := rfl) rfl rfl (Nat.le_of_ble_eq_true rfl) rfl (es1 := (.inr (10, [.ref (k_b x + 1), .ref (k_b x + 3), .ref (k_b x + 6), .ref (k_b x + 86), .int 0, .ref (k_b x + 166), .null, .null, .null, .null]) :: Z)) rfl dX10_init_61 ?_
  exact k
set_option maxRecDepth 20000 in
set_option maxHeartbeats 2000000 in
theorem ro_6 (C : CtK x RX10 cX10_init 1 rmX10) (hin2 : (k_me x).name = "<init>") {X : List va_E} (hX : X.length = 169) {Z : List va_E} (hZ : Z = X ++ [.inl ((k_D x).1 100, 5, .inl (fun _ => 0))]) (k : JK x 170 1820 (.inr (10, [.ref (k_b x + 1), .ref (k_b x + 3), .ref (k_b x + 6), .ref (k_b x + 86), .int 0, .ref (k_b x + 166), .ref (k_b x + 170), .null, .null, .null]) :: Z) 71 [(0, .ref (k_b x))] []) : JK x 169 1815 (.inr (10, [.ref (k_b x + 1), .ref (k_b x + 3), .ref (k_b x + 6), .ref (k_b x + 86), .int 0, .ref (k_b x + 166), .null, .null, .null, .null]) :: X) 64 [(0, .ref (k_b x))] [] := by
  refine k_aload_n C 0 dX10_init_64 rfl rfl ?_
  refine k_iconst (v := 5) C dX10_init_65 rfl ?_
  have hl : ((.inr (10, [.ref (k_b x + 1), .ref (k_b x + 3), .ref (k_b x + 6), .ref (k_b x + 86), .int 0, .ref (k_b x + 166), .null, .null, .null, .null]) :: X) : List va_E).length = 170 := by rw [List.length_cons, hX] <;> rfl
  refine k_newa C (ty := .int) rfl rfl 0 rfl (fun U h => h) cu_30 (N := 5) (by decide) (by decide) (by decide) ⟨by show _ ≤ 176; omega, by show _ ≤ 3665; omega⟩ dX10_init_66 ?_
  refine k_nm (es2 := (.inr (10, [.ref (k_b x + 1), .ref (k_b x + 3), .ref (k_b x + 6), .ref (k_b x + 86), .int 0, .ref (k_b x + 166), .null, .null, .null, .null]) :: Z)) (st2 := [.ref (k_b x + 170), .ref (k_b x)]) (cs2 := 170) (ss2 := 1820) (by rw [List.cons_append, ← hZ]) (by rw [hl]) rfl rfl ?_
  refine k_putF C hin2 (i := 0) tyX10 tyX10_ok nmX10 rfl (hc := rfl) hin_X10 6 (by decide) cu_31 rfl rfl rfl (ht := rfl) rfl rfl (Nat.le_of_ble_eq_true rfl) rfl (es1 := (.inr (10, [.ref (k_b x + 1), .ref (k_b x + 3), .ref (k_b x + 6), .ref (k_b x + 86), .int 0, .ref (k_b x + 166), .ref (k_b x + 170), .null, .null, .null]) :: Z)) rfl dX10_init_68 ?_
  exact k
set_option maxRecDepth 20000 in
set_option maxHeartbeats 2000000 in
theorem ro_7 (C : CtK x RX10 cX10_init 1 rmX10) (hin2 : (k_me x).name = "<init>") {X : List va_E} (hX : X.length = 170) {Z : List va_E} (hZ : Z = X ++ esX9 (k_D x).1 (k_b x + 171)) (k : JK x 174 3623 (.inr (10, [.ref (k_b x + 1), .ref (k_b x + 3), .ref (k_b x + 6), .ref (k_b x + 86), .int 0, .ref (k_b x + 166), .ref (k_b x + 170), .ref (k_b x + 171), .null, .null]) :: Z) 82 [(0, .ref (k_b x))] []) : JK x 170 1820 (.inr (10, [.ref (k_b x + 1), .ref (k_b x + 3), .ref (k_b x + 6), .ref (k_b x + 86), .int 0, .ref (k_b x + 166), .ref (k_b x + 170), .null, .null, .null]) :: X) 71 [(0, .ref (k_b x))] [] := by
  refine k_aload_n C 0 dX10_init_71 rfl rfl ?_
  refine k_new C (ci := 9) (fs := [.null, .null, .null]) tyX9 tyX9_ok hin_X9 ⟨cu_32, cu_33, cu_34⟩ rfl (by decide) ⟨by show _ ≤ 176; omega, by show _ ≤ 3665; omega⟩ dX10_init_72 ?_
  refine k_dup C dX10_init_75 ?_
  have hl : ((.inr (10, [.ref (k_b x + 1), .ref (k_b x + 3), .ref (k_b x + 6), .ref (k_b x + 86), .int 0, .ref (k_b x + 166), .ref (k_b x + 170), .null, .null, .null]) :: X) : List va_E).length = 171 := by rw [List.length_cons, hX] <;> rfl
  refine k_initN C (host := RX10) (es0 := (.inr (10, [.ref (k_b x + 1), .ref (k_b x + 3), .ref (k_b x + 6), .ref (k_b x + 86), .int 0, .ref (k_b x + 166), .ref (k_b x + 170), .null, .null, .null]) :: X)) (e0 := e0X9) (fe := esX9 (k_D x).1 (k_b x + ((.inr (10, [.ref (k_b x + 1), .ref (k_b x + 3), .ref (k_b x + 6), .ref (k_b x + 86), .int 0, .ref (k_b x + 166), .ref (k_b x + 170), .null, .null, .null]) :: X) : List va_E).length)) (mc := 3) (ms := 1800) rfl (mk_X9 _ _ _ _) ⟨by decide, cu_35, cu_34, cu_36⟩ rfl ⟨by decide +kernel, by decide +kernel, by decide +kernel⟩ ⟨rfl, rfl, Nat.le_of_ble_eq_true rfl, Nat.le_of_ble_eq_true rfl⟩ ⟨by show _ ≤ 176; omega, by show _ ≤ 3665; omega⟩ rfl rfl (Nat.le_of_ble_eq_true rfl) dX10_init_76 ?_
  generalize hY : esX9 (k_D x).1 (k_b x + 171) = Y at hZ
  refine k_nm (es2 := (.inr (10, [.ref (k_b x + 1), .ref (k_b x + 3), .ref (k_b x + 6), .ref (k_b x + 86), .int 0, .ref (k_b x + 166), .ref (k_b x + 170), .null, .null, .null]) :: Z)) (st2 := [.ref (k_b x + 171), .ref (k_b x)]) (cs2 := 174) (ss2 := 3623) (by first | rw [hl, List.cons_append, hY, ← hZ] | rw [List.cons_append, hY, ← hZ] | rw [List.cons_append, ← hZ]) (by rw [hl]) rfl rfl ?_
  refine k_putF C hin2 (i := 0) tyX10 tyX10_ok nmX10 rfl (hc := rfl) hin_X10 7 (by decide) cu_37 rfl rfl rfl (ht := rfl) rfl rfl (Nat.le_of_ble_eq_true rfl) rfl (es1 := (.inr (10, [.ref (k_b x + 1), .ref (k_b x + 3), .ref (k_b x + 6), .ref (k_b x + 86), .int 0, .ref (k_b x + 166), .ref (k_b x + 170), .ref (k_b x + 171), .null, .null]) :: Z)) rfl dX10_init_79 ?_
  exact k
set_option maxRecDepth 20000 in
set_option maxHeartbeats 2000000 in
theorem ro_8 (C : CtK x RX10 cX10_init 1 rmX10) (hin2 : (k_me x).name = "<init>") {X : List va_E} (hX : X.length = 174) {Z : List va_E} (hZ : Z = X ++ esX4 (k_D x).1 (k_b x + 175)) (k : JK x 175 3625 (.inr (10, [.ref (k_b x + 1), .ref (k_b x + 3), .ref (k_b x + 6), .ref (k_b x + 86), .int 0, .ref (k_b x + 166), .ref (k_b x + 170), .ref (k_b x + 171), .ref (k_b x + 175), .null]) :: Z) 93 [(0, .ref (k_b x))] []) : JK x 174 3623 (.inr (10, [.ref (k_b x + 1), .ref (k_b x + 3), .ref (k_b x + 6), .ref (k_b x + 86), .int 0, .ref (k_b x + 166), .ref (k_b x + 170), .ref (k_b x + 171), .null, .null]) :: X) 82 [(0, .ref (k_b x))] [] := by
  refine k_aload_n C 0 dX10_init_82 rfl rfl ?_
  refine k_new C (ci := 5) (fs := [.int 0, .int 0]) tyX4 tyX4_ok hin_X4 ⟨cu_38, cu_39, cu_40⟩ rfl (by decide) ⟨by show _ ≤ 176; omega, by show _ ≤ 3665; omega⟩ dX10_init_83 ?_
  refine k_dup C dX10_init_86 ?_
  have hl : ((.inr (10, [.ref (k_b x + 1), .ref (k_b x + 3), .ref (k_b x + 6), .ref (k_b x + 86), .int 0, .ref (k_b x + 166), .ref (k_b x + 170), .ref (k_b x + 171), .null, .null]) :: X) : List va_E).length = 175 := by rw [List.length_cons, hX] <;> rfl
  refine k_initN C (host := RX10) (es0 := (.inr (10, [.ref (k_b x + 1), .ref (k_b x + 3), .ref (k_b x + 6), .ref (k_b x + 86), .int 0, .ref (k_b x + 166), .ref (k_b x + 170), .ref (k_b x + 171), .null, .null]) :: X)) (e0 := e0X4) (fe := esX4 (k_D x).1 (k_b x + ((.inr (10, [.ref (k_b x + 1), .ref (k_b x + 3), .ref (k_b x + 6), .ref (k_b x + 86), .int 0, .ref (k_b x + 166), .ref (k_b x + 170), .ref (k_b x + 171), .null, .null]) :: X) : List va_E).length)) (mc := 0) (ms := 0) rfl (mk_X4 _ _ _ _) ⟨by decide, cu_41, cu_40, cu_42⟩ rfl ⟨by decide +kernel, by decide +kernel, by decide +kernel⟩ ⟨rfl, rfl, Nat.le_of_ble_eq_true rfl, Nat.le_of_ble_eq_true rfl⟩ ⟨by show _ ≤ 176; omega, by show _ ≤ 3665; omega⟩ rfl rfl (Nat.le_of_ble_eq_true rfl) dX10_init_87 ?_
  generalize hY : esX4 (k_D x).1 (k_b x + 175) = Y at hZ
  refine k_nm (es2 := (.inr (10, [.ref (k_b x + 1), .ref (k_b x + 3), .ref (k_b x + 6), .ref (k_b x + 86), .int 0, .ref (k_b x + 166), .ref (k_b x + 170), .ref (k_b x + 171), .null, .null]) :: Z)) (st2 := [.ref (k_b x + 175), .ref (k_b x)]) (cs2 := 175) (ss2 := 3625) (by first | rw [hl, List.cons_append, hY, ← hZ] | rw [List.cons_append, hY, ← hZ] | rw [List.cons_append, ← hZ]) (by rw [hl]) rfl rfl ?_
  refine k_putF C hin2 (i := 0) tyX10 tyX10_ok nmX10 rfl (hc := rfl) hin_X10 8 (by decide) cu_43 rfl rfl rfl (ht := rfl) rfl rfl (Nat.le_of_ble_eq_true rfl) rfl (es1 := (.inr (10, [.ref (k_b x + 1), .ref (k_b x + 3), .ref (k_b x + 6), .ref (k_b x + 86), .int 0, .ref (k_b x + 166), .ref (k_b x + 170), .ref (k_b x + 171), .ref (k_b x + 175), .null]) :: Z)) rfl dX10_init_90 ?_
  exact k
set_option maxRecDepth 20000 in
set_option maxHeartbeats 2000000 in
theorem ro_9 (C : CtK x RX10 cX10_init 1 rmX10) (hin2 : (k_me x).name = "<init>") {X : List va_E} (hX : X.length = 175) {Z : List va_E} (hZ : Z = X ++ [.inl ((k_D x).1 100, 40, .inl (fun _ => 0))]) (k : JK x 176 3665 (.inr (10, [.ref (k_b x + 1), .ref (k_b x + 3), .ref (k_b x + 6), .ref (k_b x + 86), .int 0, .ref (k_b x + 166), .ref (k_b x + 170), .ref (k_b x + 171), .ref (k_b x + 175), .ref (k_b x + 176)]) :: Z) 101 [(0, .ref (k_b x))] []) : JK x 175 3625 (.inr (10, [.ref (k_b x + 1), .ref (k_b x + 3), .ref (k_b x + 6), .ref (k_b x + 86), .int 0, .ref (k_b x + 166), .ref (k_b x + 170), .ref (k_b x + 171), .ref (k_b x + 175), .null]) :: X) 93 [(0, .ref (k_b x))] [] := by
  refine k_aload_n C 0 dX10_init_93 rfl rfl ?_
  refine k_bipush (v := 40) C dX10_init_94 rfl ?_
  have hl : ((.inr (10, [.ref (k_b x + 1), .ref (k_b x + 3), .ref (k_b x + 6), .ref (k_b x + 86), .int 0, .ref (k_b x + 166), .ref (k_b x + 170), .ref (k_b x + 171), .ref (k_b x + 175), .null]) :: X) : List va_E).length = 176 := by rw [List.length_cons, hX] <;> rfl
  refine k_newa C (ty := .int) rfl rfl 0 rfl (fun U h => h) cu_30 (N := 40) (by decide) (by decide) (by decide) ⟨by show _ ≤ 176; omega, by show _ ≤ 3665; omega⟩ dX10_init_96 ?_
  refine k_nm (es2 := (.inr (10, [.ref (k_b x + 1), .ref (k_b x + 3), .ref (k_b x + 6), .ref (k_b x + 86), .int 0, .ref (k_b x + 166), .ref (k_b x + 170), .ref (k_b x + 171), .ref (k_b x + 175), .null]) :: Z)) (st2 := [.ref (k_b x + 176), .ref (k_b x)]) (cs2 := 176) (ss2 := 3665) (by rw [List.cons_append, ← hZ]) (by rw [hl]) rfl rfl ?_
  refine k_putF C hin2 (i := 0) tyX10 tyX10_ok nmX10 rfl (hc := rfl) hin_X10 9 (by decide) cu_44 rfl rfl rfl (ht := rfl) rfl rfl (Nat.le_of_ble_eq_true rfl) rfl (es1 := (.inr (10, [.ref (k_b x + 1), .ref (k_b x + 3), .ref (k_b x + 6), .ref (k_b x + 86), .int 0, .ref (k_b x + 166), .ref (k_b x + 170), .ref (k_b x + 171), .ref (k_b x + 175), .ref (k_b x + 176)]) :: Z)) rfl dX10_init_98 ?_
  exact k
end ROLL
set_option maxRecDepth 20000 in
set_option maxHeartbeats 4000000 in
theorem mk_X10 (l : Launch) (D : va_G) (ad : Nat → Nat) (b : Nat) : kMet l yX10_init cX10_init 1 rmX10 D ad b e0X10 (esX10 D.1 b) 176 3665 := by
  refine kMet_of (own := RX10) (by decide +kernel) rfl rfl (Nat.le_of_ble_eq_true rfl) ?_
  intro x C e1 e2 e3 e4 hin2 hr eQ
  subst e1; subst e2; subst e3; subst e4
  refine k_aload_n C 0 dX10_init_0 rfl rfl ?_
  refine k_obj C ⟨cu_0, cu_1, cu_2⟩ dX10_init_1 ⟨Nat.le_of_ble_eq_true rfl, Nat.le_of_ble_eq_true rfl⟩ (Nat.le_of_ble_eq_true rfl) ?_
  refine ro_0 C hin2 ln_0 (Z := tl_1 (k_D x).1 (k_b x)) rfl ?_
  refine ro_1 C hin2 (ln_1 (k_D x).1 (k_b x)) (Z := tl_2 (k_D x).1 (k_b x)) rfl ?_
  refine ro_2 C hin2 (ln_2 (k_D x).1 (k_b x)) (Z := tl_3 (k_D x).1 (k_b x)) rfl ?_
  refine ro_3 C hin2 (ln_3 (k_D x).1 (k_b x)) (Z := tl_4 (k_D x).1 (k_b x)) rfl ?_
  refine ro_4 C hin2 (ln_4 (k_D x).1 (k_b x)) ?_
  refine ro_5 C hin2 (ln_4 (k_D x).1 (k_b x)) (Z := tl_5 (k_D x).1 (k_b x)) rfl ?_
  refine ro_6 C hin2 (ln_5 (k_D x).1 (k_b x)) (Z := tl_6 (k_D x).1 (k_b x)) rfl ?_
  refine ro_7 C hin2 (ln_6 (k_D x).1 (k_b x)) (Z := tl_7 (k_D x).1 (k_b x)) rfl ?_
  refine ro_8 C hin2 (ln_7 (k_D x).1 (k_b x)) (Z := tl_8 (k_D x).1 (k_b x)) rfl ?_
  refine ro_9 C hin2 (ln_8 (k_D x).1 (k_b x)) (Z := tl_9 (k_D x).1 (k_b x)) rfl ?_
  exact k_vret C hr eQ dX10_init_101
