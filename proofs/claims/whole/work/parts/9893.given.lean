/-! what the Statement gives of the start: the statics, the strings, the classes of arrays -/
def FL : List Cond := flatC (Jvm.Cond.and given_1 narrow_1)
theorem chF {P : Nat → Nat → Prop} {n : Nat} (h : ∀ j, j < n → ∃ a, P j a) : ∃ f : Nat → Nat, ∀ j, j < n → P j (f j) :=
  ⟨fun j => if h' : j < n then Classical.choose (h j h') else 0, fun j hj => by
    show P j (if h' : j < n then Classical.choose (h j h') else 0)
    rw [dif_pos hj]
    exact Classical.choose_spec (h j hj)⟩
abbrev sValue (t : Term) : Term := .field t "java/lang/String" "value" "[B"
def tmS (i : Nat) : Term := if i < 7 then .string RX5 ([59, 65, 68, 71, 74, 77, 80].getD i 0) else .string RX11 (114 + 2 * (i - 7))
def nmR (j : Nat) : String := ["AGE_RULE", "SMALL_RULE", "GRACE_RULE", "FLOOR_RULE", "RATE_RULE", "FEE_RULE", "COVER_RULE"].getD j ""
def tmR (j : Nat) : Term := .static RX5 (nmR j) "LGuardRolls$Rule;"
def iS (i : Nat) : Nat := [507, 523, 542, 562, 583, 604, 625, 414, 423, 435, 448, 462, 476, 490].getD i 0
def iR (j : Nat) : Nat := [259, 265, 272, 280, 289, 299, 310].getD j 0
theorem fl_S1_i : ∀ i, i < 14 → FL[iS i]? = some (Cond.exactly (tmS i) "java/lang/String") := by decide +kernel
theorem fl_S1 : ∀ i, i < 14 → Cond.exactly (tmS i) "java/lang/String" ∈ FL := fun i h => List.mem_of_getElem? (fl_S1_i i h)
theorem fl_S2_i : ∀ i, i < 14 → FL[iS i + 1]? = some (Cond.eq (.field (tmS i) "java/lang/String" "coder" "B") (.int 0)) := by decide +kernel
theorem fl_S2 : ∀ i, i < 14 → Cond.eq (.field (tmS i) "java/lang/String" "coder" "B") (.int 0) ∈ FL := fun i h => List.mem_of_getElem? (fl_S2_i i h)
theorem fl_S3_i : ∀ i, i < 14 → FL[iS i + 2]? = some (Cond.arrayOf (sValue (tmS i)) .byte) := by decide +kernel
theorem fl_S3 : ∀ i, i < 14 → Cond.arrayOf (sValue (tmS i)) .byte ∈ FL := fun i h => List.mem_of_getElem? (fl_S3_i i h)
theorem fl_S4_i : ∀ i, i < 14 → FL[iS i + 3]? = some (Cond.eq (.length (sValue (tmS i))) (.int (Int32.ofNat (sLen i)))) := by decide +kernel
theorem fl_S4 : ∀ i, i < 14 → Cond.eq (.length (sValue (tmS i))) (.int (Int32.ofNat (sLen i))) ∈ FL := fun i h => List.mem_of_getElem? (fl_S4_i i h)
theorem fl_S5_i : ∀ i, i < 14 → (List.range (sLen i)).map (fun j => Cond.eq (.elem (sValue (tmS i)) (.int (Int32.ofNat j))) (.int (sByt i j))) = (FL.drop (iS i + 4)).take (sLen i) := by decide +kernel
theorem fl_S5 : ∀ i, i < 14 → ∀ j, j < sLen i → Cond.eq (.elem (sValue (tmS i)) (.int (Int32.ofNat j))) (.int (sByt i j)) ∈ FL := fun i hi j hj => va_run (fl_S5_i i hi) j hj
theorem fl_R1_i : ∀ j, j < 7 → FL[iR j]? = some (Cond.exactly (tmR j) RX5) := by decide +kernel
theorem fl_R1 : ∀ j, j < 7 → Cond.exactly (tmR j) RX5 ∈ FL := fun j h => List.mem_of_getElem? (fl_R1_i j h)
theorem fl_R2_i : ∀ j, j < 7 → FL[iR j + 2]? = some (Cond.eq (.field (tmR j) RX5 "word" "Ljava/lang/String;") (tmS j)) := by decide +kernel
theorem fl_R2 : ∀ j, j < 7 → Cond.eq (.field (tmR j) RX5 "word" "Ljava/lang/String;") (tmS j) ∈ FL := fun j h => List.mem_of_getElem? (fl_R2_i j h)
theorem fl_R3_i : ∀ j, j < 7 → FL[iR j + 3]? = some (Cond.eq (.field (tmR j) RX5 "least" "I") (.int (fLo j))) := by decide +kernel
theorem fl_R3 : ∀ j, j < 7 → Cond.eq (.field (tmR j) RX5 "least" "I") (.int (fLo j)) ∈ FL := fun j h => List.mem_of_getElem? (fl_R3_i j h)
theorem fl_R4_i : ∀ j, j < 7 → FL[iR j + 4]? = some (Cond.eq (.field (tmR j) RX5 "greatest" "I") (.int (fHi j))) := by decide +kernel
theorem fl_R4 : ∀ j, j < 7 → Cond.eq (.field (tmR j) RX5 "greatest" "I") (.int (fHi j)) ∈ FL := fun j h => List.mem_of_getElem? (fl_R4_i j h)
theorem fl_R5_i : ∀ j, j < 7 → FL[iR j + 5]? = some (Cond.eq (.field (tmR j) RX5 "usual" "I") (.int (fWi j))) := by decide +kernel
theorem fl_R5 : ∀ j, j < 7 → Cond.eq (.field (tmR j) RX5 "usual" "I") (.int (fWi j)) ∈ FL := fun j h => List.mem_of_getElem? (fl_R5_i j h)
theorem fl_L1 : Cond.arrayOf (.static RX10 "RULES" "[LGuardRolls$Rule;") (.object "GuardRolls$Rule") ∈ FL := by decide +kernel
theorem fl_L2 : Cond.eq (.length (.static RX10 "RULES" "[LGuardRolls$Rule;")) (.int (Int32.ofNat 7)) ∈ FL := by decide +kernel
theorem fl_L3 : ∀ j, j < 7 → Cond.eq (.elem (.static RX10 "RULES" "[LGuardRolls$Rule;") (.int (Int32.ofNat j))) (tmR j) ∈ FL := by decide +kernel
theorem fl_w1 : Cond.arrayOf (.static RX11 "WITHOUT" "[I") .int ∈ FL ∧ Cond.eq (.length (.static RX11 "WITHOUT" "[I")) (.int (Int32.ofNat 7)) ∈ FL ∧ ∀ j, j < 7 → Cond.eq (.elem (.static RX11 "WITHOUT" "[I") (.int (Int32.ofNat j))) (.int (fWi j)) ∈ FL := by decide +kernel
theorem fl_w2 : Cond.arrayOf (.static RX11 "LOW" "[I") .int ∈ FL ∧ Cond.eq (.length (.static RX11 "LOW" "[I")) (.int (Int32.ofNat 7)) ∈ FL ∧ ∀ j, j < 7 → Cond.eq (.elem (.static RX11 "LOW" "[I") (.int (Int32.ofNat j))) (.int (fLo j)) ∈ FL := by decide +kernel
theorem fl_w3 : Cond.arrayOf (.static RX11 "HIGH" "[I") .int ∈ FL ∧ Cond.eq (.length (.static RX11 "HIGH" "[I")) (.int (Int32.ofNat 7)) ∈ FL ∧ ∀ j, j < 7 → Cond.eq (.elem (.static RX11 "HIGH" "[I") (.int (Int32.ofNat j))) (.int (fHi j)) ∈ FL := by decide +kernel
theorem fl_d1 : Cond.arrayOf (.static RJ6 "DigitOnes" "[B") .byte ∈ FL ∧ Cond.eq (.length (.static RJ6 "DigitOnes" "[B")) (.int (Int32.ofNat 100)) ∈ FL := by decide +kernel
theorem fl_d1e : (List.range 100).map (fun j => Cond.eq (.elem (.static RJ6 "DigitOnes" "[B") (.int (Int32.ofNat j))) (.int (dOne j))) = (FL.drop 24).take 100 := by decide +kernel
theorem fl_d2 : Cond.arrayOf (.static RJ6 "DigitTens" "[B") .byte ∈ FL ∧ Cond.eq (.length (.static RJ6 "DigitTens" "[B")) (.int (Int32.ofNat 100)) ∈ FL := by decide +kernel
theorem fl_d2e : (List.range 100).map (fun j => Cond.eq (.elem (.static RJ6 "DigitTens" "[B") (.int (Int32.ofNat j))) (.int (dTen j))) = (FL.drop 127).take 100 := by decide +kernel
theorem fl_c : Cond.eq (.static "java/lang/String" "COMPACT_STRINGS" "Z") (.int 1) ∈ FL ∧ Cond.isRef (.static "jdk/internal/util/Preconditions" "SIOOBE_FORMATTER" "Ljava/util/function/BiFunction;") ∈ FL := by decide +kernel
theorem fl_t : Cond.isRef (.static Bundle.tN "UNASSIGNED_STACK" Bundle.steD) ∈ FL ∧ Cond.isRef (.static Bundle.tN "SUPPRESSED_SENTINEL" Bundle.listD) ∈ FL := by decide +kernel
theorem fl_e : Cond.exactly (.string RX10 251) "java/lang/String" ∈ FL ∧ Cond.exactly (.string RX10 268) "java/lang/String" ∈ FL := by decide +kernel
theorem lt_z : (∀ q ∈ [(RX11, "WITHOUT", "[I"), (RX11, "LOW", "[I"), (RX11, "HIGH", "[I"), (RX10, "RULES", "[LGuardRolls$Rule;"), ("java/lang/String", "COMPACT_STRINGS", "Z"), ("jdk/internal/util/Preconditions", "SIOOBE_FORMATTER", "Ljava/util/function/BiFunction;"), (RJ6, "DigitOnes", "[B"), (RJ6, "DigitTens", "[B"), (Bundle.tN, "UNASSIGNED_STACK", Bundle.steD), (Bundle.tN, "SUPPRESSED_SENTINEL", Bundle.listD)], Cond.laysStatic q.1 q.2.1 q.2.2 ∈ lw_tbl ∧ Cond.initialized q.1 ∈ lw_tbl) := by decide +kernel
theorem ltb_s : ∀ j, j < 7 → Cond.stringRef RX11 (114 + 2 * j) (["age", "small", "grace", "floor", "rate", "fee", "cover"].getD j "") ∈ lw_tbl := by decide +kernel
theorem lt_e : Cond.stringRef RX10 251 "no such ENTRY" ∈ lw_tbl ∧ Cond.stringRef RX10 268 "no such what" ∈ lw_tbl := by decide +kernel
theorem lt_n : (∀ q ∈ nW, Cond.methodLinkNest q.1 q.2.1 q.2.2.1 q.2.2.2 ∈ lw_tbl) ∧ (∀ q ∈ nF, Cond.fieldLinkNest q.1 q.2.1 q.2.2.1 q.2.2.2.1 q.2.2.2.2.1 q.2.2.2.2.2 ∈ lw_tbl) ∧ ∀ q ∈ nI8, Cond.methodLinkNest q.1 q.2.1 q.2.2.1 q.2.2.2 ∈ lw_tbl := by decide +kernel
theorem lt_a : Cond.arrayOver (.object RX8) ∈ lw_tbl ∧ Cond.arrayOver (.object RX2) ∈ lw_tbl ∧ Cond.arrayOver (.object RX3) ∈ lw_tbl ∧ Cond.arrayClass .int ∈ lw_tbl ∧ Cond.arrayClass .boolean ∈ lw_tbl ∧ Cond.arrayClass .byte ∈ lw_tbl ∧ Cond.arrayClass .long ∈ lw_tbl := by decide +kernel
theorem lt_x : ∀ w ∈ xeW, w ∈ lw_tbl ∧ w.onTables = true := by decide +kernel
theorem lt_g : ∀ y ∈ [yJ5_ensureCapacityInternal_d00df, yJ5_newCapacity_0f7a4, yJ5_putStringAt_47b60, yJ5_inflateIfNeededFor_a7421], Cond.sameMethod y.cls y.cls y.name y.desc ∈ lw_tbl ∧ Cond.privateMethod y ∈ lw_tbl ∧ Cond.instanceMethod y ∈ lw_tbl := by decide +kernel
theorem lt_i : ∀ q ∈ vwCl, Cond.instantiable q.1 q.2.2 ∈ lw_tbl ∧ ∀ w ∈ u_ws q.1 q.2.1 q.2.2, w ∈ lw_tbl := by decide +kernel
