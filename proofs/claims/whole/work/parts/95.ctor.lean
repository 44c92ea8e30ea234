/-! constructors: straight code (made by wip/whole/gen/ctor.py) -/
theorem k_nm {x : kC} {cs ss cs2 ss2 : Nat} {es es2 : List va_E} {pc : Nat} {L : List (Nat × Value)} {st st2 : List Value} (h1 : es = es2) (h2 : st = st2) (h3 : cs = cs2) (h4 : ss = ss2) (k : JK x cs2 ss2 es2 pc L st2) : JK x cs ss es pc L st := by
  subst h1; subst h2; subst h3; subst h4; exact k
theorem cw_0 : Cond.methodLink RX7 3 Lib.objectInit ∈ bW := List.mem_filter.mpr ⟨by decide +kernel, by decide +kernel⟩
theorem cw_1 : Cond.instanceMethod Lib.objectInit ∈ bW := List.mem_filter.mpr ⟨by decide +kernel, by decide +kernel⟩
theorem cw_2 : Cond.code Lib.objectInit ⟨#[0xb1]⟩ 1 none ∈ bW := List.mem_filter.mpr ⟨by decide +kernel, by decide +kernel⟩
theorem cw_3 : Cond.arrayClass .int ∈ bW := List.mem_filter.mpr ⟨by decide +kernel, by decide +kernel⟩
theorem cw_4 : Cond.fieldLink RX7 9 RX7 "bytes" "[I" ∈ bW := List.mem_filter.mpr ⟨by decide +kernel, by decide +kernel⟩
theorem cw_5 : Cond.fieldLink RX7 15 RX7 "length" "I" ∈ bW := List.mem_filter.mpr ⟨by decide +kernel, by decide +kernel⟩
theorem cw_6 : Cond.methodLink RX0 3 Lib.objectInit ∈ bW := List.mem_filter.mpr ⟨by decide +kernel, by decide +kernel⟩
theorem cw_7 : Cond.fieldLink RX0 9 RX0 "count" "I" ∈ bW := List.mem_filter.mpr ⟨by decide +kernel, by decide +kernel⟩
theorem cw_8 : Cond.fieldLink RX0 15 RX0 "sort" "[I" ∈ bW := List.mem_filter.mpr ⟨by decide +kernel, by decide +kernel⟩
theorem cw_9 : Cond.fieldLink RX0 19 RX0 "number" "[I" ∈ bW := List.mem_filter.mpr ⟨by decide +kernel, by decide +kernel⟩
theorem cw_10 : Cond.fieldLink RX0 22 RX0 "before" "[I" ∈ bW := List.mem_filter.mpr ⟨by decide +kernel, by decide +kernel⟩
theorem cw_11 : Cond.methodLink RX6 3 Lib.objectInit ∈ bW := List.mem_filter.mpr ⟨by decide +kernel, by decide +kernel⟩
theorem cw_12 : Cond.fieldLink RX6 13 RX6 "told" "[I" ∈ bW := List.mem_filter.mpr ⟨by decide +kernel, by decide +kernel⟩
theorem cw_13 : Cond.arrayClass .boolean ∈ bW := List.mem_filter.mpr ⟨by decide +kernel, by decide +kernel⟩
theorem cw_14 : Cond.fieldLink RX6 19 RX6 "was" "[Z" ∈ bW := List.mem_filter.mpr ⟨by decide +kernel, by decide +kernel⟩
theorem cw_15 : Cond.fieldLink RX6 23 RX6 "lines" "I" ∈ bW := List.mem_filter.mpr ⟨by decide +kernel, by decide +kernel⟩
theorem cw_16 : Cond.methodLink RX4 3 Lib.objectInit ∈ bW := List.mem_filter.mpr ⟨by decide +kernel, by decide +kernel⟩
theorem cw_17 : Cond.fieldLink RX4 9 RX4 "day" "I" ∈ bW := List.mem_filter.mpr ⟨by decide +kernel, by decide +kernel⟩
theorem cw_18 : Cond.fieldLink RX4 15 RX4 "sum" "I" ∈ bW := List.mem_filter.mpr ⟨by decide +kernel, by decide +kernel⟩
theorem cw_19 : Cond.methodLink RX9 3 Lib.objectInit ∈ bW := List.mem_filter.mpr ⟨by decide +kernel, by decide +kernel⟩
theorem cw_20 : Cond.fieldLink RX9 9 RX9 "money" "[I" ∈ bW := List.mem_filter.mpr ⟨by decide +kernel, by decide +kernel⟩
theorem cw_21 : Cond.fieldLink RX9 15 RX9 "idle" "[I" ∈ bW := List.mem_filter.mpr ⟨by decide +kernel, by decide +kernel⟩
theorem cw_22 : Cond.fieldLink RX9 18 RX9 "waiting" "[I" ∈ bW := List.mem_filter.mpr ⟨by decide +kernel, by decide +kernel⟩
theorem cw_23 : Cond.methodLink RX2 3 Lib.objectInit ∈ bW := List.mem_filter.mpr ⟨by decide +kernel, by decide +kernel⟩
theorem cw_24 : Cond.fieldLink RX2 9 RX2 "sort" "I" ∈ bW := List.mem_filter.mpr ⟨by decide +kernel, by decide +kernel⟩
theorem cw_25 : Cond.fieldLink RX2 15 RX2 "ward" "I" ∈ bW := List.mem_filter.mpr ⟨by decide +kernel, by decide +kernel⟩
theorem cw_26 : Cond.fieldLink RX2 18 RX2 "day" "I" ∈ bW := List.mem_filter.mpr ⟨by decide +kernel, by decide +kernel⟩
theorem cw_27 : Cond.fieldLink RX2 21 RX2 "amount" "I" ∈ bW := List.mem_filter.mpr ⟨by decide +kernel, by decide +kernel⟩
theorem cw_28 : Cond.fieldLink RX2 24 RX2 "kind" "I" ∈ bW := List.mem_filter.mpr ⟨by decide +kernel, by decide +kernel⟩
theorem cw_29 : Cond.fieldLink RX2 27 RX2 "voucher" "I" ∈ bW := List.mem_filter.mpr ⟨by decide +kernel, by decide +kernel⟩
theorem cw_30 : Cond.fieldLink RX2 30 RX2 "good" "Z" ∈ bW := List.mem_filter.mpr ⟨by decide +kernel, by decide +kernel⟩
theorem cw_31 : Cond.fieldLink RX2 34 RX2 "ratified" "Z" ∈ bW := List.mem_filter.mpr ⟨by decide +kernel, by decide +kernel⟩
theorem cw_32 : Cond.fieldLink RX2 37 RX2 "allowed" "I" ∈ bW := List.mem_filter.mpr ⟨by decide +kernel, by decide +kernel⟩
theorem cw_33 : Cond.methodLink RX3 3 Lib.objectInit ∈ bW := List.mem_filter.mpr ⟨by decide +kernel, by decide +kernel⟩
theorem cw_34 : Cond.fieldLink RX3 9 RX3 "ward" "I" ∈ bW := List.mem_filter.mpr ⟨by decide +kernel, by decide +kernel⟩
theorem cw_35 : Cond.fieldLink RX3 15 RX3 "kind" "I" ∈ bW := List.mem_filter.mpr ⟨by decide +kernel, by decide +kernel⟩
theorem cw_36 : Cond.fieldLink RX3 18 RX3 "first" "I" ∈ bW := List.mem_filter.mpr ⟨by decide +kernel, by decide +kernel⟩
theorem cw_37 : Cond.fieldLink RX3 21 RX3 "last" "I" ∈ bW := List.mem_filter.mpr ⟨by decide +kernel, by decide +kernel⟩
theorem cw_38 : Cond.fieldLink RX3 24 RX3 "amount" "I" ∈ bW := List.mem_filter.mpr ⟨by decide +kernel, by decide +kernel⟩
theorem cw_39 : Cond.methodLink RX8 3 Lib.objectInit ∈ bW := List.mem_filter.mpr ⟨by decide +kernel, by decide +kernel⟩
theorem cw_40 : Cond.fieldLink RX8 9 RX8 "born" "I" ∈ bW := List.mem_filter.mpr ⟨by decide +kernel, by decide +kernel⟩
theorem cw_41 : Cond.fieldLink RX8 15 RX8 "guardian" "I" ∈ bW := List.mem_filter.mpr ⟨by decide +kernel, by decide +kernel⟩
theorem cw_42 : Cond.fieldLink RX8 18 RX8 "changes" "I" ∈ bW := List.mem_filter.mpr ⟨by decide +kernel, by decide +kernel⟩
theorem cw_43 : Cond.fieldLink RX8 21 RX8 "changeDay" "[I" ∈ bW := List.mem_filter.mpr ⟨by decide +kernel, by decide +kernel⟩
theorem cw_44 : Cond.fieldLink RX8 25 RX8 "changeTo" "[I" ∈ bW := List.mem_filter.mpr ⟨by decide +kernel, by decide +kernel⟩
theorem cw_45 : Cond.fieldLink RX8 28 RX8 "closed" "I" ∈ bW := List.mem_filter.mpr ⟨by decide +kernel, by decide +kernel⟩
theorem cw_46 : Cond.fieldLink RX8 31 RX8 "settled" "Z" ∈ bW := List.mem_filter.mpr ⟨by decide +kernel, by decide +kernel⟩
theorem cw_47 : Cond.fieldLink RX8 35 RX8 "charge" "[I" ∈ bW := List.mem_filter.mpr ⟨by decide +kernel, by decide +kernel⟩
theorem cw_48 : Cond.fieldLink RX8 38 RX8 "commission" "[I" ∈ bW := List.mem_filter.mpr ⟨by decide +kernel, by decide +kernel⟩
abbrev e0X7 : va_E := .inr (7, [.null, .int 0])
abbrev esX7 (c : Nat → ClassId) (b : Nat) : List va_E := [.inr (7, [.ref (b + 1), .int 0]), .inl (c 100, 200, .inl (fun _ => 0))]
abbrev rmX7 : Room := { frames := 1, cells := 1, slots := 200, locals := 20 }
set_option maxRecDepth 20000 in
set_option maxHeartbeats 4000000 in
theorem mk_X7 (l : Launch) (D : va_G) (ad : Nat → Nat) (b : Nat) : kMet l yX7_init cX7_init 1 rmX7 D ad b e0X7 (esX7 D.1 b) 1 200 := by
  refine kMet_of (own := RX7) (by decide +kernel) rfl rfl (Nat.le_of_ble_eq_true rfl) ?_
  intro x C e1 e2 e3 e4 hin2 hr eQ
  subst e1; subst e2; subst e3; subst e4
  refine k_aload_n C 0 dX7_init_0 rfl rfl ?_
  refine k_obj C ⟨cw_0, cw_1, cw_2⟩ dX7_init_1 ⟨Nat.le_of_ble_eq_true rfl, Nat.le_of_ble_eq_true rfl⟩ (Nat.le_of_ble_eq_true rfl) ?_
  refine k_aload_n C 0 dX7_init_4 rfl rfl ?_
  refine k_sipush (v := 200) C dX7_init_5 rfl ?_
  refine k_newa C (ty := .int) rfl rfl 0 rfl (fun U h => h) cw_3 (N := 200) (by decide) (by decide) (by decide) ⟨Nat.le_of_ble_eq_true rfl, Nat.le_of_ble_eq_true rfl⟩ dX7_init_8 ?_
  refine k_nm (es2 := [.inr (7, [.null, .int 0]), .inl ((k_D x).1 100, 200, .inl (fun _ => 0))]) (st2 := [.ref (k_b x + 1), .ref (k_b x)]) (cs2 := 1) (ss2 := 200) rfl rfl rfl rfl ?_
  refine k_putF C hin2 (i := 0) tyX7 tyX7_ok nmX7 rfl (hc := rfl) hin_X7 0 (by decide) cw_4 rfl rfl rfl (ht := rfl) rfl rfl (Nat.le_of_ble_eq_true rfl) rfl (es1 := [.inr (7, [.ref (k_b x + 1), .int 0]), .inl ((k_D x).1 100, 200, .inl (fun _ => 0))]) rfl dX7_init_10 ?_
  refine k_aload_n C 0 dX7_init_13 rfl rfl ?_
  refine k_iconst (v := 0) C dX7_init_14 rfl ?_
  refine k_put C (i := 0) tyX7 tyX7_ok nmX7 rfl (hc := rfl) hin_X7 1 (by decide) cw_5 rfl rfl (ht := rfl) rfl rfl (Nat.le_of_ble_eq_true rfl) rfl (es1 := [.inr (7, [.ref (k_b x + 1), .int 0]), .inl ((k_D x).1 100, 200, .inl (fun _ => 0))]) rfl dX7_init_15 ?_
  exact k_vret C hr eQ dX7_init_18
abbrev e0X0 : va_E := .inr (1, [.int 0, .null, .null, .null])
abbrev esX0 (c : Nat → ClassId) (b : Nat) : List va_E := [.inr (1, [.int 0, .ref (b + 1), .ref (b + 2), .ref (b + 3)]), .inl (c 100, 10, .inl (fun _ => 0)), .inl (c 100, 10, .inl (fun _ => 0)), .inl (c 100, 10, .inl (fun _ => 0))]
abbrev rmX0 : Room := { frames := 1, cells := 3, slots := 30, locals := 20 }
set_option maxRecDepth 20000 in
set_option maxHeartbeats 4000000 in
theorem mk_X0 (l : Launch) (D : va_G) (ad : Nat → Nat) (b : Nat) : kMet l yX0_init cX0_init 1 rmX0 D ad b e0X0 (esX0 D.1 b) 3 30 := by
  refine kMet_of (own := RX0) (by decide +kernel) rfl rfl (Nat.le_of_ble_eq_true rfl) ?_
  intro x C e1 e2 e3 e4 hin2 hr eQ
  subst e1; subst e2; subst e3; subst e4
  refine k_aload_n C 0 dX0_init_0 rfl rfl ?_
  refine k_obj C ⟨cw_6, cw_1, cw_2⟩ dX0_init_1 ⟨Nat.le_of_ble_eq_true rfl, Nat.le_of_ble_eq_true rfl⟩ (Nat.le_of_ble_eq_true rfl) ?_
  refine k_aload_n C 0 dX0_init_4 rfl rfl ?_
  refine k_iconst (v := 0) C dX0_init_5 rfl ?_
  refine k_put C (i := 0) tyX0 tyX0_ok nmX0 rfl (hc := rfl) hin_X0 0 (by decide) cw_7 rfl rfl (ht := rfl) rfl rfl (Nat.le_of_ble_eq_true rfl) rfl (es1 := [.inr (1, [.int 0, .null, .null, .null])]) rfl dX0_init_6 ?_
  refine k_aload_n C 0 dX0_init_9 rfl rfl ?_
  refine k_bipush (v := 10) C dX0_init_10 rfl ?_
  refine k_newa C (ty := .int) rfl rfl 0 rfl (fun U h => h) cw_3 (N := 10) (by decide) (by decide) (by decide) ⟨Nat.le_of_ble_eq_true rfl, Nat.le_of_ble_eq_true rfl⟩ dX0_init_12 ?_
  refine k_nm (es2 := [.inr (1, [.int 0, .null, .null, .null]), .inl ((k_D x).1 100, 10, .inl (fun _ => 0))]) (st2 := [.ref (k_b x + 1), .ref (k_b x)]) (cs2 := 1) (ss2 := 10) rfl rfl rfl rfl ?_
  refine k_putF C hin2 (i := 0) tyX0 tyX0_ok nmX0 rfl (hc := rfl) hin_X0 1 (by decide) cw_8 rfl rfl rfl (ht := rfl) rfl rfl (Nat.le_of_ble_eq_true rfl) rfl (es1 := [.inr (1, [.int 0, .ref (k_b x + 1), .null, .null]), .inl ((k_D x).1 100, 10, .inl (fun _ => 0))]) rfl dX0_init_14 ?_
  refine k_aload_n C 0 dX0_init_17 rfl rfl ?_
  refine k_bipush (v := 10) C dX0_init_18 rfl ?_
  refine k_newa C (ty := .int) rfl rfl 0 rfl (fun U h => h) cw_3 (N := 10) (by decide) (by decide) (by decide) ⟨Nat.le_of_ble_eq_true rfl, Nat.le_of_ble_eq_true rfl⟩ dX0_init_20 ?_
  refine k_nm (es2 := [.inr (1, [.int 0, .ref (k_b x + 1), .null, .null]), .inl ((k_D x).1 100, 10, .inl (fun _ => 0)), .inl ((k_D x).1 100, 10, .inl (fun _ => 0))]) (st2 := [.ref (k_b x + 2), .ref (k_b x)]) (cs2 := 2) (ss2 := 20) rfl rfl rfl rfl ?_
  refine k_putF C hin2 (i := 0) tyX0 tyX0_ok nmX0 rfl (hc := rfl) hin_X0 2 (by decide) cw_9 rfl rfl rfl (ht := rfl) rfl rfl (Nat.le_of_ble_eq_true rfl) rfl (es1 := [.inr (1, [.int 0, .ref (k_b x + 1), .ref (k_b x + 2), .null]), .inl ((k_D x).1 100, 10, .inl (fun _ => 0)), .inl ((k_D x).1 100, 10, .inl (fun _ => 0))]) rfl dX0_init_22 ?_
  refine k_aload_n C 0 dX0_init_25 rfl rfl ?_
  refine k_bipush (v := 10) C dX0_init_26 rfl ?_
  refine k_newa C (ty := .int) rfl rfl 0 rfl (fun U h => h) cw_3 (N := 10) (by decide) (by decide) (by decide) ⟨Nat.le_of_ble_eq_true rfl, Nat.le_of_ble_eq_true rfl⟩ dX0_init_28 ?_
  refine k_nm (es2 := [.inr (1, [.int 0, .ref (k_b x + 1), .ref (k_b x + 2), .null]), .inl ((k_D x).1 100, 10, .inl (fun _ => 0)), .inl ((k_D x).1 100, 10, .inl (fun _ => 0)), .inl ((k_D x).1 100, 10, .inl (fun _ => 0))]) (st2 := [.ref (k_b x + 3), .ref (k_b x)]) (cs2 := 3) (ss2 := 30) rfl rfl rfl rfl ?_
  refine k_putF C hin2 (i := 0) tyX0 tyX0_ok nmX0 rfl (hc := rfl) hin_X0 3 (by decide) cw_10 rfl rfl rfl (ht := rfl) rfl rfl (Nat.le_of_ble_eq_true rfl) rfl (es1 := [.inr (1, [.int 0, .ref (k_b x + 1), .ref (k_b x + 2), .ref (k_b x + 3)]), .inl ((k_D x).1 100, 10, .inl (fun _ => 0)), .inl ((k_D x).1 100, 10, .inl (fun _ => 0)), .inl ((k_D x).1 100, 10, .inl (fun _ => 0))]) rfl dX0_init_30 ?_
  exact k_vret C hr eQ dX0_init_33
abbrev e0X6 : va_E := .inr (6, [.null, .null, .int 0])
abbrev esX6 (c : Nat → ClassId) (b : Nat) : List va_E := [.inr (6, [.ref (b + 1), .ref (b + 2), .int 0]), .inl (c 100, 7, .inl (fun _ => 0)), .inl (c 101, 7, .inl (fun _ => 0))]
abbrev rmX6 : Room := { frames := 1, cells := 2, slots := 14, locals := 20 }
set_option maxRecDepth 20000 in
set_option maxHeartbeats 4000000 in
theorem mk_X6 (l : Launch) (D : va_G) (ad : Nat → Nat) (b : Nat) : kMet l yX6_init cX6_init 1 rmX6 D ad b e0X6 (esX6 D.1 b) 2 14 := by
  refine kMet_of (own := RX6) (by decide +kernel) rfl rfl (Nat.le_of_ble_eq_true rfl) ?_
  intro x C e1 e2 e3 e4 hin2 hr eQ
  subst e1; subst e2; subst e3; subst e4
  refine k_aload_n C 0 dX6_init_0 rfl rfl ?_
  refine k_obj C ⟨cw_11, cw_1, cw_2⟩ dX6_init_1 ⟨Nat.le_of_ble_eq_true rfl, Nat.le_of_ble_eq_true rfl⟩ (Nat.le_of_ble_eq_true rfl) ?_
  refine k_aload_n C 0 dX6_init_4 rfl rfl ?_
  refine k_getsN C (host := RX10) (C.2.2.2.2.2.2.2.2.2.2.2.2.2.1.1) (by decide) rfl dX6_init_5 ?_
  refine k_tlen C (C.2.2.2.2.2.2.2.2.2.2.2.2.2.1.2) (v := 7) rfl dX6_init_8 ?_
  refine k_newa C (ty := .int) rfl rfl 0 rfl (fun U h => h) cw_3 (N := 7) (by decide) (by decide) (by decide) ⟨Nat.le_of_ble_eq_true rfl, Nat.le_of_ble_eq_true rfl⟩ dX6_init_9 ?_
  refine k_nm (es2 := [.inr (6, [.null, .null, .int 0]), .inl ((k_D x).1 100, 7, .inl (fun _ => 0))]) (st2 := [.ref (k_b x + 1), .ref (k_b x)]) (cs2 := 1) (ss2 := 7) rfl rfl rfl rfl ?_
  refine k_putF C hin2 (i := 0) tyX6 tyX6_ok nmX6 rfl (hc := rfl) hin_X6 0 (by decide) cw_12 rfl rfl rfl (ht := rfl) rfl rfl (Nat.le_of_ble_eq_true rfl) rfl (es1 := [.inr (6, [.ref (k_b x + 1), .null, .int 0]), .inl ((k_D x).1 100, 7, .inl (fun _ => 0))]) rfl dX6_init_11 ?_
  refine k_aload_n C 0 dX6_init_14 rfl rfl ?_
  refine k_getsN C (host := RX10) (C.2.2.2.2.2.2.2.2.2.2.2.2.2.1.1) (by decide) rfl dX6_init_15 ?_
  refine k_tlen C (C.2.2.2.2.2.2.2.2.2.2.2.2.2.1.2) (v := 7) rfl dX6_init_18 ?_
  refine k_newa C (ty := .boolean) rfl rfl 1 rfl (fun U h => h) cw_13 (N := 7) (by decide) (by decide) (by decide) ⟨Nat.le_of_ble_eq_true rfl, Nat.le_of_ble_eq_true rfl⟩ dX6_init_19 ?_
  refine k_nm (es2 := [.inr (6, [.ref (k_b x + 1), .null, .int 0]), .inl ((k_D x).1 100, 7, .inl (fun _ => 0)), .inl ((k_D x).1 101, 7, .inl (fun _ => 0))]) (st2 := [.ref (k_b x + 2), .ref (k_b x)]) (cs2 := 2) (ss2 := 14) rfl rfl rfl rfl ?_
  refine k_putF C hin2 (i := 0) tyX6 tyX6_ok nmX6 rfl (hc := rfl) hin_X6 1 (by decide) cw_14 rfl rfl rfl (ht := rfl) rfl rfl (Nat.le_of_ble_eq_true rfl) rfl (es1 := [.inr (6, [.ref (k_b x + 1), .ref (k_b x + 2), .int 0]), .inl ((k_D x).1 100, 7, .inl (fun _ => 0)), .inl ((k_D x).1 101, 7, .inl (fun _ => 0))]) rfl dX6_init_21 ?_
  refine k_aload_n C 0 dX6_init_24 rfl rfl ?_
  refine k_iconst (v := 0) C dX6_init_25 rfl ?_
  refine k_put C (i := 0) tyX6 tyX6_ok nmX6 rfl (hc := rfl) hin_X6 2 (by decide) cw_15 rfl rfl (ht := rfl) rfl rfl (Nat.le_of_ble_eq_true rfl) rfl (es1 := [.inr (6, [.ref (k_b x + 1), .ref (k_b x + 2), .int 0]), .inl ((k_D x).1 100, 7, .inl (fun _ => 0)), .inl ((k_D x).1 101, 7, .inl (fun _ => 0))]) rfl dX6_init_26 ?_
  exact k_vret C hr eQ dX6_init_29
abbrev e0X4 : va_E := .inr (5, [.int 0, .int 0])
abbrev esX4 (c : Nat → ClassId) (b : Nat) : List va_E := [.inr (5, [.int (-1), .int 0])]
abbrev rmX4 : Room := { frames := 1, cells := 0, slots := 0, locals := 20 }
set_option maxRecDepth 20000 in
set_option maxHeartbeats 4000000 in
theorem mk_X4 (l : Launch) (D : va_G) (ad : Nat → Nat) (b : Nat) : kMet l yX4_init cX4_init 1 rmX4 D ad b e0X4 (esX4 D.1 b) 0 0 := by
  refine kMet_of (own := RX4) (by decide +kernel) rfl rfl (Nat.le_of_ble_eq_true rfl) ?_
  intro x C e1 e2 e3 e4 hin2 hr eQ
  subst e1; subst e2; subst e3; subst e4
  refine k_aload_n C 0 dX4_init_0 rfl rfl ?_
  refine k_obj C ⟨cw_16, cw_1, cw_2⟩ dX4_init_1 ⟨Nat.le_of_ble_eq_true rfl, Nat.le_of_ble_eq_true rfl⟩ (Nat.le_of_ble_eq_true rfl) ?_
  refine k_aload_n C 0 dX4_init_4 rfl rfl ?_
  refine k_iconst (v := (-1)) C dX4_init_5 rfl ?_
  refine k_put C (i := 0) tyX4 tyX4_ok nmX4 rfl (hc := rfl) hin_X4 0 (by decide) cw_17 rfl rfl (ht := rfl) rfl rfl (Nat.le_of_ble_eq_true rfl) rfl (es1 := [.inr (5, [.int (-1), .int 0])]) rfl dX4_init_6 ?_
  refine k_aload_n C 0 dX4_init_9 rfl rfl ?_
  refine k_iconst (v := 0) C dX4_init_10 rfl ?_
  refine k_put C (i := 0) tyX4 tyX4_ok nmX4 rfl (hc := rfl) hin_X4 1 (by decide) cw_18 rfl rfl (ht := rfl) rfl rfl (Nat.le_of_ble_eq_true rfl) rfl (es1 := [.inr (5, [.int (-1), .int 0])]) rfl dX4_init_11 ?_
  exact k_vret C hr eQ dX4_init_14
abbrev e0X9 : va_E := .inr (9, [.null, .null, .null])
abbrev esX9 (c : Nat → ClassId) (b : Nat) : List va_E := [.inr (9, [.ref (b + 1), .ref (b + 2), .ref (b + 3)]), .inl (c 100, 720, .inl (fun _ => 0)), .inl (c 100, 360, .inl (fun _ => 0)), .inl (c 100, 720, .inl (fun _ => 0))]
abbrev rmX9 : Room := { frames := 1, cells := 3, slots := 1800, locals := 20 }
set_option maxRecDepth 20000 in
set_option maxHeartbeats 4000000 in
theorem mk_X9 (l : Launch) (D : va_G) (ad : Nat → Nat) (b : Nat) : kMet l yX9_init cX9_init 1 rmX9 D ad b e0X9 (esX9 D.1 b) 3 1800 := by
  refine kMet_of (own := RX9) (by decide +kernel) rfl rfl (Nat.le_of_ble_eq_true rfl) ?_
  intro x C e1 e2 e3 e4 hin2 hr eQ
  subst e1; subst e2; subst e3; subst e4
  refine k_aload_n C 0 dX9_init_0 rfl rfl ?_
  refine k_obj C ⟨cw_19, cw_1, cw_2⟩ dX9_init_1 ⟨Nat.le_of_ble_eq_true rfl, Nat.le_of_ble_eq_true rfl⟩ (Nat.le_of_ble_eq_true rfl) ?_
  refine k_aload_n C 0 dX9_init_4 rfl rfl ?_
  refine k_sipush (v := 720) C dX9_init_5 rfl ?_
  refine k_newa C (ty := .int) rfl rfl 0 rfl (fun U h => h) cw_3 (N := 720) (by decide) (by decide) (by decide) ⟨Nat.le_of_ble_eq_true rfl, Nat.le_of_ble_eq_true rfl⟩ dX9_init_8 ?_
  refine k_nm (es2 := [.inr (9, [.null, .null, .null]), .inl ((k_D x).1 100, 720, .inl (fun _ => 0))]) (st2 := [.ref (k_b x + 1), .ref (k_b x)]) (cs2 := 1) (ss2 := 720) rfl rfl rfl rfl ?_
  refine k_putF C hin2 (i := 0) tyX9 tyX9_ok nmX9 rfl (hc := rfl) hin_X9 0 (by decide) cw_20 rfl rfl rfl (ht := rfl) rfl rfl (Nat.le_of_ble_eq_true rfl) rfl (es1 := [.inr (9, [.ref (k_b x + 1), .null, .null]), .inl ((k_D x).1 100, 720, .inl (fun _ => 0))]) rfl dX9_init_10 ?_
  refine k_aload_n C 0 dX9_init_13 rfl rfl ?_
  refine k_sipush (v := 360) C dX9_init_14 rfl ?_
  refine k_newa C (ty := .int) rfl rfl 0 rfl (fun U h => h) cw_3 (N := 360) (by decide) (by decide) (by decide) ⟨Nat.le_of_ble_eq_true rfl, Nat.le_of_ble_eq_true rfl⟩ dX9_init_17 ?_
  refine k_nm (es2 := [.inr (9, [.ref (k_b x + 1), .null, .null]), .inl ((k_D x).1 100, 720, .inl (fun _ => 0)), .inl ((k_D x).1 100, 360, .inl (fun _ => 0))]) (st2 := [.ref (k_b x + 2), .ref (k_b x)]) (cs2 := 2) (ss2 := 1080) rfl rfl rfl rfl ?_
  refine k_putF C hin2 (i := 0) tyX9 tyX9_ok nmX9 rfl (hc := rfl) hin_X9 1 (by decide) cw_21 rfl rfl rfl (ht := rfl) rfl rfl (Nat.le_of_ble_eq_true rfl) rfl (es1 := [.inr (9, [.ref (k_b x + 1), .ref (k_b x + 2), .null]), .inl ((k_D x).1 100, 720, .inl (fun _ => 0)), .inl ((k_D x).1 100, 360, .inl (fun _ => 0))]) rfl dX9_init_19 ?_
  refine k_aload_n C 0 dX9_init_22 rfl rfl ?_
  refine k_sipush (v := 720) C dX9_init_23 rfl ?_
  refine k_newa C (ty := .int) rfl rfl 0 rfl (fun U h => h) cw_3 (N := 720) (by decide) (by decide) (by decide) ⟨Nat.le_of_ble_eq_true rfl, Nat.le_of_ble_eq_true rfl⟩ dX9_init_26 ?_
  refine k_nm (es2 := [.inr (9, [.ref (k_b x + 1), .ref (k_b x + 2), .null]), .inl ((k_D x).1 100, 720, .inl (fun _ => 0)), .inl ((k_D x).1 100, 360, .inl (fun _ => 0)), .inl ((k_D x).1 100, 720, .inl (fun _ => 0))]) (st2 := [.ref (k_b x + 3), .ref (k_b x)]) (cs2 := 3) (ss2 := 1800) rfl rfl rfl rfl ?_
  refine k_putF C hin2 (i := 0) tyX9 tyX9_ok nmX9 rfl (hc := rfl) hin_X9 2 (by decide) cw_22 rfl rfl rfl (ht := rfl) rfl rfl (Nat.le_of_ble_eq_true rfl) rfl (es1 := [.inr (9, [.ref (k_b x + 1), .ref (k_b x + 2), .ref (k_b x + 3)]), .inl ((k_D x).1 100, 720, .inl (fun _ => 0)), .inl ((k_D x).1 100, 360, .inl (fun _ => 0)), .inl ((k_D x).1 100, 720, .inl (fun _ => 0))]) rfl dX9_init_28 ?_
  exact k_vret C hr eQ dX9_init_31
abbrev e0X2 : va_E := .inr (3, [.int 0, .int 0, .int 0, .int 0, .int 0, .int 0, .int 0, .int 0, .int 0])
abbrev esX2 (c : Nat → ClassId) (b : Nat) : List va_E := [.inr (3, [.int 0, .int 0, .int 0, .int 0, .int 0, .int 0, .int 0, .int 0, .int 0])]
abbrev rmX2 : Room := { frames := 1, cells := 0, slots := 0, locals := 20 }
set_option maxRecDepth 20000 in
set_option maxHeartbeats 4000000 in
theorem mk_X2 (l : Launch) (D : va_G) (ad : Nat → Nat) (b : Nat) : kMet l yX2_init cX2_init 1 rmX2 D ad b e0X2 (esX2 D.1 b) 0 0 := by
  refine kMet_of (own := RX2) (by decide +kernel) rfl rfl (Nat.le_of_ble_eq_true rfl) ?_
  intro x C e1 e2 e3 e4 hin2 hr eQ
  subst e1; subst e2; subst e3; subst e4
  refine k_aload_n C 0 dX2_init_0 rfl rfl ?_
  refine k_obj C ⟨cw_23, cw_1, cw_2⟩ dX2_init_1 ⟨Nat.le_of_ble_eq_true rfl, Nat.le_of_ble_eq_true rfl⟩ (Nat.le_of_ble_eq_true rfl) ?_
  refine k_aload_n C 0 dX2_init_4 rfl rfl ?_
  refine k_iconst (v := 0) C dX2_init_5 rfl ?_
  refine k_put C (i := 0) tyX2 tyX2_ok nmX2 rfl (hc := rfl) hin_X2 0 (by decide) cw_24 rfl rfl (ht := rfl) rfl rfl (Nat.le_of_ble_eq_true rfl) rfl (es1 := [.inr (3, [.int 0, .int 0, .int 0, .int 0, .int 0, .int 0, .int 0, .int 0, .int 0])]) rfl dX2_init_6 ?_
  refine k_aload_n C 0 dX2_init_9 rfl rfl ?_
  refine k_iconst (v := 0) C dX2_init_10 rfl ?_
  refine k_put C (i := 0) tyX2 tyX2_ok nmX2 rfl (hc := rfl) hin_X2 1 (by decide) cw_25 rfl rfl (ht := rfl) rfl rfl (Nat.le_of_ble_eq_true rfl) rfl (es1 := [.inr (3, [.int 0, .int 0, .int 0, .int 0, .int 0, .int 0, .int 0, .int 0, .int 0])]) rfl dX2_init_11 ?_
  refine k_aload_n C 0 dX2_init_14 rfl rfl ?_
  refine k_iconst (v := 0) C dX2_init_15 rfl ?_
  refine k_put C (i := 0) tyX2 tyX2_ok nmX2 rfl (hc := rfl) hin_X2 2 (by decide) cw_26 rfl rfl (ht := rfl) rfl rfl (Nat.le_of_ble_eq_true rfl) rfl (es1 := [.inr (3, [.int 0, .int 0, .int 0, .int 0, .int 0, .int 0, .int 0, .int 0, .int 0])]) rfl dX2_init_16 ?_
  refine k_aload_n C 0 dX2_init_19 rfl rfl ?_
  refine k_iconst (v := 0) C dX2_init_20 rfl ?_
  refine k_put C (i := 0) tyX2 tyX2_ok nmX2 rfl (hc := rfl) hin_X2 3 (by decide) cw_27 rfl rfl (ht := rfl) rfl rfl (Nat.le_of_ble_eq_true rfl) rfl (es1 := [.inr (3, [.int 0, .int 0, .int 0, .int 0, .int 0, .int 0, .int 0, .int 0, .int 0])]) rfl dX2_init_21 ?_
  refine k_aload_n C 0 dX2_init_24 rfl rfl ?_
  refine k_iconst (v := 0) C dX2_init_25 rfl ?_
  refine k_put C (i := 0) tyX2 tyX2_ok nmX2 rfl (hc := rfl) hin_X2 4 (by decide) cw_28 rfl rfl (ht := rfl) rfl rfl (Nat.le_of_ble_eq_true rfl) rfl (es1 := [.inr (3, [.int 0, .int 0, .int 0, .int 0, .int 0, .int 0, .int 0, .int 0, .int 0])]) rfl dX2_init_26 ?_
  refine k_aload_n C 0 dX2_init_29 rfl rfl ?_
  refine k_iconst (v := 0) C dX2_init_30 rfl ?_
  refine k_put C (i := 0) tyX2 tyX2_ok nmX2 rfl (hc := rfl) hin_X2 5 (by decide) cw_29 rfl rfl (ht := rfl) rfl rfl (Nat.le_of_ble_eq_true rfl) rfl (es1 := [.inr (3, [.int 0, .int 0, .int 0, .int 0, .int 0, .int 0, .int 0, .int 0, .int 0])]) rfl dX2_init_31 ?_
  refine k_aload_n C 0 dX2_init_34 rfl rfl ?_
  refine k_iconst (v := 0) C dX2_init_35 rfl ?_
  refine k_put C (i := 0) tyX2 tyX2_ok nmX2 rfl (hc := rfl) hin_X2 6 (by decide) cw_30 rfl rfl (ht := rfl) rfl rfl (Nat.le_of_ble_eq_true rfl) rfl (es1 := [.inr (3, [.int 0, .int 0, .int 0, .int 0, .int 0, .int 0, .int 0, .int 0, .int 0])]) rfl dX2_init_36 ?_
  refine k_aload_n C 0 dX2_init_39 rfl rfl ?_
  refine k_iconst (v := 0) C dX2_init_40 rfl ?_
  refine k_put C (i := 0) tyX2 tyX2_ok nmX2 rfl (hc := rfl) hin_X2 7 (by decide) cw_31 rfl rfl (ht := rfl) rfl rfl (Nat.le_of_ble_eq_true rfl) rfl (es1 := [.inr (3, [.int 0, .int 0, .int 0, .int 0, .int 0, .int 0, .int 0, .int 0, .int 0])]) rfl dX2_init_41 ?_
  refine k_aload_n C 0 dX2_init_44 rfl rfl ?_
  refine k_iconst (v := 0) C dX2_init_45 rfl ?_
  refine k_put C (i := 0) tyX2 tyX2_ok nmX2 rfl (hc := rfl) hin_X2 8 (by decide) cw_32 rfl rfl (ht := rfl) rfl rfl (Nat.le_of_ble_eq_true rfl) rfl (es1 := [.inr (3, [.int 0, .int 0, .int 0, .int 0, .int 0, .int 0, .int 0, .int 0, .int 0])]) rfl dX2_init_46 ?_
  exact k_vret C hr eQ dX2_init_49
abbrev e0X3 : va_E := .inr (4, [.int 0, .int 0, .int 0, .int 0, .int 0])
abbrev esX3 (c : Nat → ClassId) (b : Nat) : List va_E := [.inr (4, [.int 0, .int 0, .int 0, .int 0, .int 0])]
abbrev rmX3 : Room := { frames := 1, cells := 0, slots := 0, locals := 20 }
set_option maxRecDepth 20000 in
set_option maxHeartbeats 4000000 in
theorem mk_X3 (l : Launch) (D : va_G) (ad : Nat → Nat) (b : Nat) : kMet l yX3_init cX3_init 1 rmX3 D ad b e0X3 (esX3 D.1 b) 0 0 := by
  refine kMet_of (own := RX3) (by decide +kernel) rfl rfl (Nat.le_of_ble_eq_true rfl) ?_
  intro x C e1 e2 e3 e4 hin2 hr eQ
  subst e1; subst e2; subst e3; subst e4
  refine k_aload_n C 0 dX3_init_0 rfl rfl ?_
  refine k_obj C ⟨cw_33, cw_1, cw_2⟩ dX3_init_1 ⟨Nat.le_of_ble_eq_true rfl, Nat.le_of_ble_eq_true rfl⟩ (Nat.le_of_ble_eq_true rfl) ?_
  refine k_aload_n C 0 dX3_init_4 rfl rfl ?_
  refine k_iconst (v := 0) C dX3_init_5 rfl ?_
  refine k_put C (i := 0) tyX3 tyX3_ok nmX3 rfl (hc := rfl) hin_X3 0 (by decide) cw_34 rfl rfl (ht := rfl) rfl rfl (Nat.le_of_ble_eq_true rfl) rfl (es1 := [.inr (4, [.int 0, .int 0, .int 0, .int 0, .int 0])]) rfl dX3_init_6 ?_
  refine k_aload_n C 0 dX3_init_9 rfl rfl ?_
  refine k_iconst (v := 0) C dX3_init_10 rfl ?_
  refine k_put C (i := 0) tyX3 tyX3_ok nmX3 rfl (hc := rfl) hin_X3 1 (by decide) cw_35 rfl rfl (ht := rfl) rfl rfl (Nat.le_of_ble_eq_true rfl) rfl (es1 := [.inr (4, [.int 0, .int 0, .int 0, .int 0, .int 0])]) rfl dX3_init_11 ?_
  refine k_aload_n C 0 dX3_init_14 rfl rfl ?_
  refine k_iconst (v := 0) C dX3_init_15 rfl ?_
  refine k_put C (i := 0) tyX3 tyX3_ok nmX3 rfl (hc := rfl) hin_X3 2 (by decide) cw_36 rfl rfl (ht := rfl) rfl rfl (Nat.le_of_ble_eq_true rfl) rfl (es1 := [.inr (4, [.int 0, .int 0, .int 0, .int 0, .int 0])]) rfl dX3_init_16 ?_
  refine k_aload_n C 0 dX3_init_19 rfl rfl ?_
  refine k_iconst (v := 0) C dX3_init_20 rfl ?_
  refine k_put C (i := 0) tyX3 tyX3_ok nmX3 rfl (hc := rfl) hin_X3 3 (by decide) cw_37 rfl rfl (ht := rfl) rfl rfl (Nat.le_of_ble_eq_true rfl) rfl (es1 := [.inr (4, [.int 0, .int 0, .int 0, .int 0, .int 0])]) rfl dX3_init_21 ?_
  refine k_aload_n C 0 dX3_init_24 rfl rfl ?_
  refine k_iconst (v := 0) C dX3_init_25 rfl ?_
  refine k_put C (i := 0) tyX3 tyX3_ok nmX3 rfl (hc := rfl) hin_X3 4 (by decide) cw_38 rfl rfl (ht := rfl) rfl rfl (Nat.le_of_ble_eq_true rfl) rfl (es1 := [.inr (4, [.int 0, .int 0, .int 0, .int 0, .int 0])]) rfl dX3_init_26 ?_
  exact k_vret C hr eQ dX3_init_29
abbrev e0X8 : va_E := .inr (8, [.int 0, .int 0, .int 0, .null, .null, .int 0, .int 0, .null, .null])
abbrev esX8 (c : Nat → ClassId) (b : Nat) : List va_E := [.inr (8, [.int 0, .int 0, .int 0, .ref (b + 1), .ref (b + 2), .int 0, .int 0, .ref (b + 3), .ref (b + 4)]), .inl (c 100, 6, .inl (fun _ => 0)), .inl (c 100, 6, .inl (fun _ => 0)), .inl (c 100, 10, .inl (fun _ => 0)), .inl (c 100, 10, .inl (fun _ => 0))]
abbrev rmX8 : Room := { frames := 1, cells := 4, slots := 32, locals := 20 }
set_option maxRecDepth 20000 in
set_option maxHeartbeats 4000000 in
theorem mk_X8 (l : Launch) (D : va_G) (ad : Nat → Nat) (b : Nat) : kMet l yX8_init cX8_init 1 rmX8 D ad b e0X8 (esX8 D.1 b) 4 32 := by
  refine kMet_of (own := RX8) (by decide +kernel) rfl rfl (Nat.le_of_ble_eq_true rfl) ?_
  intro x C e1 e2 e3 e4 hin2 hr eQ
  subst e1; subst e2; subst e3; subst e4
  refine k_aload_n C 0 dX8_init_0 rfl rfl ?_
  refine k_obj C ⟨cw_39, cw_1, cw_2⟩ dX8_init_1 ⟨Nat.le_of_ble_eq_true rfl, Nat.le_of_ble_eq_true rfl⟩ (Nat.le_of_ble_eq_true rfl) ?_
  refine k_aload_n C 0 dX8_init_4 rfl rfl ?_
  refine k_iconst (v := 0) C dX8_init_5 rfl ?_
  refine k_put C (i := 0) tyX8 tyX8_ok nmX8 rfl (hc := rfl) hin_X8 0 (by decide) cw_40 rfl rfl (ht := rfl) rfl rfl (Nat.le_of_ble_eq_true rfl) rfl (es1 := [.inr (8, [.int 0, .int 0, .int 0, .null, .null, .int 0, .int 0, .null, .null])]) rfl dX8_init_6 ?_
  refine k_aload_n C 0 dX8_init_9 rfl rfl ?_
  refine k_iconst (v := 0) C dX8_init_10 rfl ?_
  refine k_put C (i := 0) tyX8 tyX8_ok nmX8 rfl (hc := rfl) hin_X8 1 (by decide) cw_41 rfl rfl (ht := rfl) rfl rfl (Nat.le_of_ble_eq_true rfl) rfl (es1 := [.inr (8, [.int 0, .int 0, .int 0, .null, .null, .int 0, .int 0, .null, .null])]) rfl dX8_init_11 ?_
  refine k_aload_n C 0 dX8_init_14 rfl rfl ?_
  refine k_iconst (v := 0) C dX8_init_15 rfl ?_
  refine k_put C (i := 0) tyX8 tyX8_ok nmX8 rfl (hc := rfl) hin_X8 2 (by decide) cw_42 rfl rfl (ht := rfl) rfl rfl (Nat.le_of_ble_eq_true rfl) rfl (es1 := [.inr (8, [.int 0, .int 0, .int 0, .null, .null, .int 0, .int 0, .null, .null])]) rfl dX8_init_16 ?_
  refine k_aload_n C 0 dX8_init_19 rfl rfl ?_
  refine k_bipush (v := 6) C dX8_init_20 rfl ?_
  refine k_newa C (ty := .int) rfl rfl 0 rfl (fun U h => h) cw_3 (N := 6) (by decide) (by decide) (by decide) ⟨Nat.le_of_ble_eq_true rfl, Nat.le_of_ble_eq_true rfl⟩ dX8_init_22 ?_
  refine k_nm (es2 := [.inr (8, [.int 0, .int 0, .int 0, .null, .null, .int 0, .int 0, .null, .null]), .inl ((k_D x).1 100, 6, .inl (fun _ => 0))]) (st2 := [.ref (k_b x + 1), .ref (k_b x)]) (cs2 := 1) (ss2 := 6) rfl rfl rfl rfl ?_
  refine k_putF C hin2 (i := 0) tyX8 tyX8_ok nmX8 rfl (hc := rfl) hin_X8 3 (by decide) cw_43 rfl rfl rfl (ht := rfl) rfl rfl (Nat.le_of_ble_eq_true rfl) rfl (es1 := [.inr (8, [.int 0, .int 0, .int 0, .ref (k_b x + 1), .null, .int 0, .int 0, .null, .null]), .inl ((k_D x).1 100, 6, .inl (fun _ => 0))]) rfl dX8_init_24 ?_
  refine k_aload_n C 0 dX8_init_27 rfl rfl ?_
  refine k_bipush (v := 6) C dX8_init_28 rfl ?_
  refine k_newa C (ty := .int) rfl rfl 0 rfl (fun U h => h) cw_3 (N := 6) (by decide) (by decide) (by decide) ⟨Nat.le_of_ble_eq_true rfl, Nat.le_of_ble_eq_true rfl⟩ dX8_init_30 ?_
  refine k_nm (es2 := [.inr (8, [.int 0, .int 0, .int 0, .ref (k_b x + 1), .null, .int 0, .int 0, .null, .null]), .inl ((k_D x).1 100, 6, .inl (fun _ => 0)), .inl ((k_D x).1 100, 6, .inl (fun _ => 0))]) (st2 := [.ref (k_b x + 2), .ref (k_b x)]) (cs2 := 2) (ss2 := 12) rfl rfl rfl rfl ?_
  refine k_putF C hin2 (i := 0) tyX8 tyX8_ok nmX8 rfl (hc := rfl) hin_X8 4 (by decide) cw_44 rfl rfl rfl (ht := rfl) rfl rfl (Nat.le_of_ble_eq_true rfl) rfl (es1 := [.inr (8, [.int 0, .int 0, .int 0, .ref (k_b x + 1), .ref (k_b x + 2), .int 0, .int 0, .null, .null]), .inl ((k_D x).1 100, 6, .inl (fun _ => 0)), .inl ((k_D x).1 100, 6, .inl (fun _ => 0))]) rfl dX8_init_32 ?_
  refine k_aload_n C 0 dX8_init_35 rfl rfl ?_
  refine k_iconst (v := 0) C dX8_init_36 rfl ?_
  refine k_put C (i := 0) tyX8 tyX8_ok nmX8 rfl (hc := rfl) hin_X8 5 (by decide) cw_45 rfl rfl (ht := rfl) rfl rfl (Nat.le_of_ble_eq_true rfl) rfl (es1 := [.inr (8, [.int 0, .int 0, .int 0, .ref (k_b x + 1), .ref (k_b x + 2), .int 0, .int 0, .null, .null]), .inl ((k_D x).1 100, 6, .inl (fun _ => 0)), .inl ((k_D x).1 100, 6, .inl (fun _ => 0))]) rfl dX8_init_37 ?_
  refine k_aload_n C 0 dX8_init_40 rfl rfl ?_
  refine k_iconst (v := 0) C dX8_init_41 rfl ?_
  refine k_put C (i := 0) tyX8 tyX8_ok nmX8 rfl (hc := rfl) hin_X8 6 (by decide) cw_46 rfl rfl (ht := rfl) rfl rfl (Nat.le_of_ble_eq_true rfl) rfl (es1 := [.inr (8, [.int 0, .int 0, .int 0, .ref (k_b x + 1), .ref (k_b x + 2), .int 0, .int 0, .null, .null]), .inl ((k_D x).1 100, 6, .inl (fun _ => 0)), .inl ((k_D x).1 100, 6, .inl (fun _ => 0))]) rfl dX8_init_42 ?_
  refine k_aload_n C 0 dX8_init_45 rfl rfl ?_
  refine k_bipush (v := 10) C dX8_init_46 rfl ?_
  refine k_newa C (ty := .int) rfl rfl 0 rfl (fun U h => h) cw_3 (N := 10) (by decide) (by decide) (by decide) ⟨Nat.le_of_ble_eq_true rfl, Nat.le_of_ble_eq_true rfl⟩ dX8_init_48 ?_
  refine k_nm (es2 := [.inr (8, [.int 0, .int 0, .int 0, .ref (k_b x + 1), .ref (k_b x + 2), .int 0, .int 0, .null, .null]), .inl ((k_D x).1 100, 6, .inl (fun _ => 0)), .inl ((k_D x).1 100, 6, .inl (fun _ => 0)), .inl ((k_D x).1 100, 10, .inl (fun _ => 0))]) (st2 := [.ref (k_b x + 3), .ref (k_b x)]) (cs2 := 3) (ss2 := 22) rfl rfl rfl rfl ?_
  refine k_putF C hin2 (i := 0) tyX8 tyX8_ok nmX8 rfl (hc := rfl) hin_X8 7 (by decide) cw_47 rfl rfl rfl (ht := rfl) rfl rfl (Nat.le_of_ble_eq_true rfl) rfl (es1 := [.inr (8, [.int 0, .int 0, .int 0, .ref (k_b x + 1), .ref (k_b x + 2), .int 0, .int 0, .ref (k_b x + 3), .null]), .inl ((k_D x).1 100, 6, .inl (fun _ => 0)), .inl ((k_D x).1 100, 6, .inl (fun _ => 0)), .inl ((k_D x).1 100, 10, .inl (fun _ => 0))]) rfl dX8_init_50 ?_
  refine k_aload_n C 0 dX8_init_53 rfl rfl ?_
  refine k_bipush (v := 10) C dX8_init_54 rfl ?_
  refine k_newa C (ty := .int) rfl rfl 0 rfl (fun U h => h) cw_3 (N := 10) (by decide) (by decide) (by decide) ⟨Nat.le_of_ble_eq_true rfl, Nat.le_of_ble_eq_true rfl⟩ dX8_init_56 ?_
  refine k_nm (es2 := [.inr (8, [.int 0, .int 0, .int 0, .ref (k_b x + 1), .ref (k_b x + 2), .int 0, .int 0, .ref (k_b x + 3), .null]), .inl ((k_D x).1 100, 6, .inl (fun _ => 0)), .inl ((k_D x).1 100, 6, .inl (fun _ => 0)), .inl ((k_D x).1 100, 10, .inl (fun _ => 0)), .inl ((k_D x).1 100, 10, .inl (fun _ => 0))]) (st2 := [.ref (k_b x + 4), .ref (k_b x)]) (cs2 := 4) (ss2 := 32) rfl rfl rfl rfl ?_
  refine k_putF C hin2 (i := 0) tyX8 tyX8_ok nmX8 rfl (hc := rfl) hin_X8 8 (by decide) cw_48 rfl rfl rfl (ht := rfl) rfl rfl (Nat.le_of_ble_eq_true rfl) rfl (es1 := [.inr (8, [.int 0, .int 0, .int 0, .ref (k_b x + 1), .ref (k_b x + 2), .int 0, .int 0, .ref (k_b x + 3), .ref (k_b x + 4)]), .inl ((k_D x).1 100, 6, .inl (fun _ => 0)), .inl ((k_D x).1 100, 6, .inl (fun _ => 0)), .inl ((k_D x).1 100, 10, .inl (fun _ => 0)), .inl ((k_D x).1 100, 10, .inl (fun _ => 0))]) rfl dX8_init_58 ?_
  exact k_vret C hr eQ dX8_init_61
