/-! the class's world: 177 cells: 0 the object, 1 tape, 2 its bytes, 3 reader (4 told, 5 was), 6 acts (7, 8, 9), 10 refusals, 11 view (12 money, 13 idle, 14 waiting), 15 peak, 16 row, 17 book, 97 kept; in a book b: b+1 rule, b+2 bonds, b+3 wards, b+4 entries, b+5 orders, b+6 left, b+7 turn, b+8+5w a ward (+1 changeDay, +2 changeTo, +3 charge, +4 commission), b+28+i an entry, b+68+o an order; printed by gen/shape.py -/
def shWd (ad : Nat → Nat) (c : Nat → ClassId) (k r : Nat) (f : Nat → Int32) : va_E := if r = 0 then .inr (8, [.int (f 0), .int (f 1), .int (f 2), .ref (ad (k + 1)), .ref (ad (k + 2)), .int (f 5), .int (f 6), .ref (ad (k + 3)), .ref (ad (k + 4))]) else if r = 1 then .inl (c 100, 6, .inl f) else if r = 2 then .inl (c 100, 6, .inl f) else if r = 3 then .inl (c 100, 10, .inl f) else .inl (c 100, 10, .inl f)
def shEn (f : Nat → Int32) : va_E := .inr (3, [.int (f 0), .int (f 1), .int (f 2), .int (f 3), .int (f 4), .int (f 5), .int (f 6), .int (f 7), .int (f 8)])
def shOr (f : Nat → Int32) : va_E := .inr (4, [.int (f 0), .int (f 1), .int (f 2), .int (f 3), .int (f 4)])
def shBk (ad : Nat → Nat) (c : Nat → ClassId) (b o : Nat) (f : Nat → Int32) : va_E := if o < 8 then (if o = 0 then .inr (2, [.ref (ad (b + 1)), .int (f 1), .ref (ad (b + 2)), .int (f 3), .ref (ad (b + 3)), .int (f 5), .ref (ad (b + 4)), .int (f 7), .ref (ad (b + 5)), .ref (ad (b + 6)), .ref (ad (b + 7))]) else if o = 1 then .inl (c 100, 7, .inl f) else if o = 2 then .inl (c 100, 3, .inl f) else if o = 3 then .inl (c 102, 4, .inr (.inr (.inr (.inr (fun i => some (ad (b + 8 + 5 * i))))))) else if o = 4 then .inl (c 103, 40, .inr (.inr (.inr (.inr (fun i => some (ad (b + 28 + i))))))) else if o = 5 then .inl (c 104, 12, .inr (.inr (.inr (.inr (fun i => some (ad (b + 68 + i))))))) else if o = 6 then .inl (c 100, 80, .inl f) else .inl (c 100, 40, .inl f)) else if o < 28 then shWd ad c (b + o - (o - 8) % 5) ((o - 8) % 5) f else if o < 68 then shEn f else shOr f
def shSi (ad : Nat → Nat) (c : Nat → ClassId) (k : Nat) (f : Nat → Int32) : va_E := if k = 0 then .inr (10, [.ref (ad (1)), .ref (ad (3)), .ref (ad (17)), .ref (ad (97)), .int (f 4), .ref (ad (6)), .ref (ad (10)), .ref (ad (11)), .ref (ad (15)), .ref (ad (16))]) else if k = 1 then .inr (7, [.ref (ad (2)), .int (f 1)]) else if k = 2 then .inl (c 100, 200, .inl f) else if k = 3 then .inr (6, [.ref (ad (4)), .ref (ad (5)), .int (f 2)]) else if k = 4 then .inl (c 100, 7, .inl f) else if k = 5 then .inl (c 101, 7, .inl f) else if k = 6 then .inr (1, [.int (f 0), .ref (ad (7)), .ref (ad (8)), .ref (ad (9))]) else if k = 7 then .inl (c 100, 10, .inl f) else if k = 8 then .inl (c 100, 10, .inl f) else if k = 9 then .inl (c 100, 10, .inl f) else if k = 10 then .inl (c 100, 5, .inl f) else if k = 11 then .inr (9, [.ref (ad (12)), .ref (ad (13)), .ref (ad (14))]) else if k = 12 then .inl (c 100, 720, .inl f) else if k = 13 then .inl (c 100, 360, .inl f) else if k = 14 then .inl (c 100, 720, .inl f) else if k = 15 then .inr (5, [.int (f 0), .int (f 1)]) else .inl (c 100, 40, .inl f)
def shC (ad : Nat → Nat) (c : Nat → ClassId) : xH := fun k f => if k < 17 then shSi ad c k f else if k < 97 then shBk ad c 17 (k - 17) f else shBk ad c 97 (k - 97) f
def tyC (c : Nat → ClassId) : List (ClassId × FieldType) := [(c 100, .int), (c 101, .boolean), (c 102, .object RX8), (c 103, .object RX2), (c 104, .object RX3)]
abbrev KB (b : Nat) : Prop := b = 17 ∨ b = 97
def KW (k : Nat) : Prop := ∃ b w, KB b ∧ w < 4 ∧ k = b + 8 + 5 * w
def KE (k : Nat) : Prop := ∃ b i, KB b ∧ i < 40 ∧ k = b + 28 + i
def KO (k : Nat) : Prop := ∃ b i, KB b ∧ i < 12 ∧ k = b + 68 + i
theorem sh_0 {ad : Nat → Nat} {c : Nat → ClassId} (f : Nat → Int32) : shC ad c 0 f = .inr (10, [.ref (ad (1)), .ref (ad (3)), .ref (ad (17)), .ref (ad (97)), .int (f 4), .ref (ad (6)), .ref (ad (10)), .ref (ad (11)), .ref (ad (15)), .ref (ad (16))]) := rfl
theorem sh_1 {ad : Nat → Nat} {c : Nat → ClassId} (f : Nat → Int32) : shC ad c 1 f = .inr (7, [.ref (ad (2)), .int (f 1)]) := rfl
theorem sh_2 {ad : Nat → Nat} {c : Nat → ClassId} (f : Nat → Int32) : shC ad c 2 f = .inl (c 100, 200, .inl f) := rfl
theorem sh_3 {ad : Nat → Nat} {c : Nat → ClassId} (f : Nat → Int32) : shC ad c 3 f = .inr (6, [.ref (ad (4)), .ref (ad (5)), .int (f 2)]) := rfl
theorem sh_4 {ad : Nat → Nat} {c : Nat → ClassId} (f : Nat → Int32) : shC ad c 4 f = .inl (c 100, 7, .inl f) := rfl
theorem sh_5 {ad : Nat → Nat} {c : Nat → ClassId} (f : Nat → Int32) : shC ad c 5 f = .inl (c 101, 7, .inl f) := rfl
theorem sh_6 {ad : Nat → Nat} {c : Nat → ClassId} (f : Nat → Int32) : shC ad c 6 f = .inr (1, [.int (f 0), .ref (ad (7)), .ref (ad (8)), .ref (ad (9))]) := rfl
theorem sh_7 {ad : Nat → Nat} {c : Nat → ClassId} (f : Nat → Int32) : shC ad c 7 f = .inl (c 100, 10, .inl f) := rfl
theorem sh_8 {ad : Nat → Nat} {c : Nat → ClassId} (f : Nat → Int32) : shC ad c 8 f = .inl (c 100, 10, .inl f) := rfl
theorem sh_9 {ad : Nat → Nat} {c : Nat → ClassId} (f : Nat → Int32) : shC ad c 9 f = .inl (c 100, 10, .inl f) := rfl
theorem sh_10 {ad : Nat → Nat} {c : Nat → ClassId} (f : Nat → Int32) : shC ad c 10 f = .inl (c 100, 5, .inl f) := rfl
theorem sh_11 {ad : Nat → Nat} {c : Nat → ClassId} (f : Nat → Int32) : shC ad c 11 f = .inr (9, [.ref (ad (12)), .ref (ad (13)), .ref (ad (14))]) := rfl
theorem sh_12 {ad : Nat → Nat} {c : Nat → ClassId} (f : Nat → Int32) : shC ad c 12 f = .inl (c 100, 720, .inl f) := rfl
theorem sh_13 {ad : Nat → Nat} {c : Nat → ClassId} (f : Nat → Int32) : shC ad c 13 f = .inl (c 100, 360, .inl f) := rfl
theorem sh_14 {ad : Nat → Nat} {c : Nat → ClassId} (f : Nat → Int32) : shC ad c 14 f = .inl (c 100, 720, .inl f) := rfl
theorem sh_15 {ad : Nat → Nat} {c : Nat → ClassId} (f : Nat → Int32) : shC ad c 15 f = .inr (5, [.int (f 0), .int (f 1)]) := rfl
theorem sh_16 {ad : Nat → Nat} {c : Nat → ClassId} (f : Nat → Int32) : shC ad c 16 f = .inl (c 100, 40, .inl f) := rfl
theorem sh_B0 {ad : Nat → Nat} {c : Nat → ClassId} {b : Nat} (h : KB b) (f : Nat → Int32) : shC ad c (b + 0) f = .inr (2, [.ref (ad (b + 1)), .int (f 1), .ref (ad (b + 2)), .int (f 3), .ref (ad (b + 3)), .int (f 5), .ref (ad (b + 4)), .int (f 7), .ref (ad (b + 5)), .ref (ad (b + 6)), .ref (ad (b + 7))]) := by rcases h with rfl | rfl <;> rfl
theorem kB0 {b : Nat} (h : KB b) : b + 0 < 177 := by rcases h with rfl | rfl <;> decide
theorem sh_17 {ad : Nat → Nat} {c : Nat → ClassId} (f : Nat → Int32) : shC ad c 17 f = .inr (2, [.ref (ad (18)), .int (f 1), .ref (ad (19)), .int (f 3), .ref (ad (20)), .int (f 5), .ref (ad (21)), .int (f 7), .ref (ad (22)), .ref (ad (23)), .ref (ad (24))]) := rfl
theorem sh_97 {ad : Nat → Nat} {c : Nat → ClassId} (f : Nat → Int32) : shC ad c 97 f = .inr (2, [.ref (ad (98)), .int (f 1), .ref (ad (99)), .int (f 3), .ref (ad (100)), .int (f 5), .ref (ad (101)), .int (f 7), .ref (ad (102)), .ref (ad (103)), .ref (ad (104))]) := rfl
theorem sh_B1 {ad : Nat → Nat} {c : Nat → ClassId} {b : Nat} (h : KB b) (f : Nat → Int32) : shC ad c (b + 1) f = .inl (c 100, 7, .inl f) := by rcases h with rfl | rfl <;> rfl
theorem kB1 {b : Nat} (h : KB b) : b + 1 < 177 := by rcases h with rfl | rfl <;> decide
theorem sh_18 {ad : Nat → Nat} {c : Nat → ClassId} (f : Nat → Int32) : shC ad c 18 f = .inl (c 100, 7, .inl f) := rfl
theorem sh_98 {ad : Nat → Nat} {c : Nat → ClassId} (f : Nat → Int32) : shC ad c 98 f = .inl (c 100, 7, .inl f) := rfl
theorem sh_B2 {ad : Nat → Nat} {c : Nat → ClassId} {b : Nat} (h : KB b) (f : Nat → Int32) : shC ad c (b + 2) f = .inl (c 100, 3, .inl f) := by rcases h with rfl | rfl <;> rfl
theorem kB2 {b : Nat} (h : KB b) : b + 2 < 177 := by rcases h with rfl | rfl <;> decide
theorem sh_19 {ad : Nat → Nat} {c : Nat → ClassId} (f : Nat → Int32) : shC ad c 19 f = .inl (c 100, 3, .inl f) := rfl
theorem sh_99 {ad : Nat → Nat} {c : Nat → ClassId} (f : Nat → Int32) : shC ad c 99 f = .inl (c 100, 3, .inl f) := rfl
theorem sh_B3 {ad : Nat → Nat} {c : Nat → ClassId} {b : Nat} (h : KB b) (f : Nat → Int32) : shC ad c (b + 3) f = .inl (c 102, 4, .inr (.inr (.inr (.inr (fun i => some (ad (b + 8 + 5 * i))))))) := by rcases h with rfl | rfl <;> rfl
theorem kB3 {b : Nat} (h : KB b) : b + 3 < 177 := by rcases h with rfl | rfl <;> decide
theorem sh_20 {ad : Nat → Nat} {c : Nat → ClassId} (f : Nat → Int32) : shC ad c 20 f = .inl (c 102, 4, .inr (.inr (.inr (.inr (fun i => some (ad (25 + 5 * i))))))) := rfl
theorem sh_100 {ad : Nat → Nat} {c : Nat → ClassId} (f : Nat → Int32) : shC ad c 100 f = .inl (c 102, 4, .inr (.inr (.inr (.inr (fun i => some (ad (105 + 5 * i))))))) := rfl
theorem sh_B4 {ad : Nat → Nat} {c : Nat → ClassId} {b : Nat} (h : KB b) (f : Nat → Int32) : shC ad c (b + 4) f = .inl (c 103, 40, .inr (.inr (.inr (.inr (fun i => some (ad (b + 28 + i))))))) := by rcases h with rfl | rfl <;> rfl
theorem kB4 {b : Nat} (h : KB b) : b + 4 < 177 := by rcases h with rfl | rfl <;> decide
theorem sh_21 {ad : Nat → Nat} {c : Nat → ClassId} (f : Nat → Int32) : shC ad c 21 f = .inl (c 103, 40, .inr (.inr (.inr (.inr (fun i => some (ad (45 + i))))))) := rfl
theorem sh_101 {ad : Nat → Nat} {c : Nat → ClassId} (f : Nat → Int32) : shC ad c 101 f = .inl (c 103, 40, .inr (.inr (.inr (.inr (fun i => some (ad (125 + i))))))) := rfl
theorem sh_B5 {ad : Nat → Nat} {c : Nat → ClassId} {b : Nat} (h : KB b) (f : Nat → Int32) : shC ad c (b + 5) f = .inl (c 104, 12, .inr (.inr (.inr (.inr (fun i => some (ad (b + 68 + i))))))) := by rcases h with rfl | rfl <;> rfl
theorem kB5 {b : Nat} (h : KB b) : b + 5 < 177 := by rcases h with rfl | rfl <;> decide
theorem sh_22 {ad : Nat → Nat} {c : Nat → ClassId} (f : Nat → Int32) : shC ad c 22 f = .inl (c 104, 12, .inr (.inr (.inr (.inr (fun i => some (ad (85 + i))))))) := rfl
theorem sh_102 {ad : Nat → Nat} {c : Nat → ClassId} (f : Nat → Int32) : shC ad c 102 f = .inl (c 104, 12, .inr (.inr (.inr (.inr (fun i => some (ad (165 + i))))))) := rfl
theorem sh_B6 {ad : Nat → Nat} {c : Nat → ClassId} {b : Nat} (h : KB b) (f : Nat → Int32) : shC ad c (b + 6) f = .inl (c 100, 80, .inl f) := by rcases h with rfl | rfl <;> rfl
theorem kB6 {b : Nat} (h : KB b) : b + 6 < 177 := by rcases h with rfl | rfl <;> decide
theorem sh_23 {ad : Nat → Nat} {c : Nat → ClassId} (f : Nat → Int32) : shC ad c 23 f = .inl (c 100, 80, .inl f) := rfl
theorem sh_103 {ad : Nat → Nat} {c : Nat → ClassId} (f : Nat → Int32) : shC ad c 103 f = .inl (c 100, 80, .inl f) := rfl
theorem sh_B7 {ad : Nat → Nat} {c : Nat → ClassId} {b : Nat} (h : KB b) (f : Nat → Int32) : shC ad c (b + 7) f = .inl (c 100, 40, .inl f) := by rcases h with rfl | rfl <;> rfl
theorem kB7 {b : Nat} (h : KB b) : b + 7 < 177 := by rcases h with rfl | rfl <;> decide
theorem sh_24 {ad : Nat → Nat} {c : Nat → ClassId} (f : Nat → Int32) : shC ad c 24 f = .inl (c 100, 40, .inl f) := rfl
theorem sh_104 {ad : Nat → Nat} {c : Nat → ClassId} (f : Nat → Int32) : shC ad c 104 f = .inl (c 100, 40, .inl f) := rfl
theorem sh_W0 {ad : Nat → Nat} {c : Nat → ClassId} {k : Nat} (h : KW k) (f : Nat → Int32) : shC ad c (k + 0) f = .inr (8, [.int (f 0), .int (f 1), .int (f 2), .ref (ad (k + 1)), .ref (ad (k + 2)), .int (f 5), .int (f 6), .ref (ad (k + 3)), .ref (ad (k + 4))]) := by
  obtain ⟨b, w, hb, hw, rfl⟩ := h
  have hw : w = 0 ∨ w = 1 ∨ w = 2 ∨ w = 3 := by omega
  rcases hb with rfl | rfl <;> rcases hw with rfl | rfl | rfl | rfl <;> rfl
theorem kW0 {k : Nat} (h : KW k) : k + 0 < 177 := by
  obtain ⟨b, w, hb, hw, rfl⟩ := h
  rcases hb with rfl | rfl <;> omega
theorem sh_W1 {ad : Nat → Nat} {c : Nat → ClassId} {k : Nat} (h : KW k) (f : Nat → Int32) : shC ad c (k + 1) f = .inl (c 100, 6, .inl f) := by
  obtain ⟨b, w, hb, hw, rfl⟩ := h
  have hw : w = 0 ∨ w = 1 ∨ w = 2 ∨ w = 3 := by omega
  rcases hb with rfl | rfl <;> rcases hw with rfl | rfl | rfl | rfl <;> rfl
theorem kW1 {k : Nat} (h : KW k) : k + 1 < 177 := by
  obtain ⟨b, w, hb, hw, rfl⟩ := h
  rcases hb with rfl | rfl <;> omega
theorem sh_W2 {ad : Nat → Nat} {c : Nat → ClassId} {k : Nat} (h : KW k) (f : Nat → Int32) : shC ad c (k + 2) f = .inl (c 100, 6, .inl f) := by
  obtain ⟨b, w, hb, hw, rfl⟩ := h
  have hw : w = 0 ∨ w = 1 ∨ w = 2 ∨ w = 3 := by omega
  rcases hb with rfl | rfl <;> rcases hw with rfl | rfl | rfl | rfl <;> rfl
theorem kW2 {k : Nat} (h : KW k) : k + 2 < 177 := by
  obtain ⟨b, w, hb, hw, rfl⟩ := h
  rcases hb with rfl | rfl <;> omega
theorem sh_W3 {ad : Nat → Nat} {c : Nat → ClassId} {k : Nat} (h : KW k) (f : Nat → Int32) : shC ad c (k + 3) f = .inl (c 100, 10, .inl f) := by
  obtain ⟨b, w, hb, hw, rfl⟩ := h
  have hw : w = 0 ∨ w = 1 ∨ w = 2 ∨ w = 3 := by omega
  rcases hb with rfl | rfl <;> rcases hw with rfl | rfl | rfl | rfl <;> rfl
theorem kW3 {k : Nat} (h : KW k) : k + 3 < 177 := by
  obtain ⟨b, w, hb, hw, rfl⟩ := h
  rcases hb with rfl | rfl <;> omega
theorem sh_W4 {ad : Nat → Nat} {c : Nat → ClassId} {k : Nat} (h : KW k) (f : Nat → Int32) : shC ad c (k + 4) f = .inl (c 100, 10, .inl f) := by
  obtain ⟨b, w, hb, hw, rfl⟩ := h
  have hw : w = 0 ∨ w = 1 ∨ w = 2 ∨ w = 3 := by omega
  rcases hb with rfl | rfl <;> rcases hw with rfl | rfl | rfl | rfl <;> rfl
theorem kW4 {k : Nat} (h : KW k) : k + 4 < 177 := by
  obtain ⟨b, w, hb, hw, rfl⟩ := h
  rcases hb with rfl | rfl <;> omega
theorem sh_E {ad : Nat → Nat} {c : Nat → ClassId} {k : Nat} (h : KE k) (f : Nat → Int32) : shC ad c k f = .inr (3, [.int (f 0), .int (f 1), .int (f 2), .int (f 3), .int (f 4), .int (f 5), .int (f 6), .int (f 7), .int (f 8)]) := by
  obtain ⟨b, i, hb, hi, rfl⟩ := h
  rcases hb with rfl | rfl
  · have e : 17 + 28 + i - 17 = 28 + i := by omega
    simp only [shC, shBk, e]
    rw [if_neg (by omega), if_pos (by omega), if_neg (by omega), if_neg (by omega), if_pos (by omega)]; rfl
  · have e : 97 + 28 + i - 97 = 28 + i := by omega
    simp only [shC, shBk, e]
    rw [if_neg (by omega), if_neg (by omega), if_neg (by omega), if_neg (by omega), if_pos (by omega)]; rfl
theorem kE {k : Nat} (h : KE k) : k < 177 := by
  obtain ⟨b, i, hb, hi, rfl⟩ := h
  rcases hb with rfl | rfl <;> omega
theorem sh_O {ad : Nat → Nat} {c : Nat → ClassId} {k : Nat} (h : KO k) (f : Nat → Int32) : shC ad c k f = .inr (4, [.int (f 0), .int (f 1), .int (f 2), .int (f 3), .int (f 4)]) := by
  obtain ⟨b, i, hb, hi, rfl⟩ := h
  rcases hb with rfl | rfl
  · have e : 17 + 68 + i - 17 = 68 + i := by omega
    simp only [shC, shBk, e]
    rw [if_neg (by omega), if_pos (by omega), if_neg (by omega), if_neg (by omega), if_neg (by omega)]; rfl
  · have e : 97 + 68 + i - 97 = 68 + i := by omega
    simp only [shC, shBk, e]
    rw [if_neg (by omega), if_neg (by omega), if_neg (by omega), if_neg (by omega), if_neg (by omega)]; rfl
theorem kO {k : Nat} (h : KO k) : k < 177 := by
  obtain ⟨b, i, hb, hi, rfl⟩ := h
  rcases hb with rfl | rfl <;> omega
theorem kW_at {b i : Nat} (hb : KB b) (h : i < 4) : KW (b + 8 + 5 * i) := ⟨b, i, hb, h, rfl⟩
theorem kE_at {b i : Nat} (hb : KB b) (h : i < 40) : KE (b + 28 + i) := ⟨b, i, hb, h, rfl⟩
theorem kO_at {b i : Nat} (hb : KB b) (h : i < 12) : KO (b + 68 + i) := ⟨b, i, hb, h, rfl⟩
theorem kW_17 {i : Nat} (h : i < 4) : KW (25 + 5 * i) := ⟨17, i, Or.inl rfl, h, rfl⟩
theorem kE_17 {i : Nat} (h : i < 40) : KE (45 + i) := ⟨17, i, Or.inl rfl, h, rfl⟩
theorem kO_17 {i : Nat} (h : i < 12) : KO (85 + i) := ⟨17, i, Or.inl rfl, h, rfl⟩
/-- a body of the class's: its world is the class's -/
abbrev CtC (x : xC) (own : String) (cc : ByteArray) (n : Nat) (rm : Room) : Prop := Ct x own cc n rm ∧ x_sh x = shC (x_ad x) (x_D x).1 ∧ x_K x = 177 ∧ x_t x = tyC (x_D x).1 ∧ NS x
def xMetC (l : Launch) (y : MethodName) (cc : ByteArray) (n : Nat) (ret : Option FieldType) (rm : Room) (args : List Value) (D : va_G) (ad : Nat → Nat) (M : xM) (rv : Option Value) (M1 : xM) : Prop := xMet l y cc n ret rm args D (tyC D.1) ad (shC ad D.1) 177 M rv M1
theorem xMetC_of {l : Launch} {y : MethodName} {own : String} {cc : ByteArray} {n : Nat} {ret : Option FieldType} {rm : Room} {args : List Value} {D : va_G} {ad : Nat → Nat} {M : xM} {rv : Option Value} {M1 : xM}
    (hy : plainName y.cls = true) (hown : y.cls = own) (hn : (lg_sl args).length ≤ n)
    (h : ∀ x : xC, CtC x own cc n rm → x_l x = l → x_D x = D → x_ad x = ad → x_rv x = rv → x_M x = M1 → (x_me x).sig.returnType = ret → J x M 0 (lv_args 0 args) []) : xMetC l y cc n ret rm args D ad M rv M1 := by
  refine xMet_of hy hown hn ?_
  intro x C hN e1 e2 e3 e4 e5 e6 e7 e8 e9
  exact h x ⟨C, by rw [e5, e4, e2], e6, by rw [e3, e2], hN⟩ e1 e2 e4 e7 e8 e9
/-- a fixed point of a loop, by fuel -/
def loopN {σ ρ : Type} (body : σ → Option (σ ⊕ ρ)) : Nat → σ → Option ρ
  | 0, _ => none
  | n + 1, s => match body s with
    | none => none
    | some (.inl s') => loopN body n s'
    | some (.inr r) => some r
theorem loopN_ind {σ ρ : Type} {body : σ → Option (σ ⊕ ρ)} {JJ : σ → Prop} {KX : ρ → Prop} (hb : ∀ s o, body s = some o → (∀ s', o = .inl s' → JJ s') → (∀ r, o = .inr r → KX r) → JJ s) : ∀ (n : Nat) (s : σ) (r : ρ), loopN body n s = some r → KX r → JJ s := by
  intro n
  induction n with
  | zero => intro s r h; cases h
  | succ n ih =>
    intro s r h hk
    rw [loopN] at h
    cases hs : body s with
    | none => rw [hs] at h; cases h
    | some o =>
      rw [hs] at h
      cases o with
      | inl s' => exact hb s _ hs (fun s2 e => by cases e; exact ih s' r h hk) (fun r2 e => by cases e)
      | inr r' =>
        cases h
        exact hb s _ hs (fun s2 e => by cases e) (fun r2 e => by cases e; exact hk)
def BG : Nat := 100000
/-- a named value -/
def lt {α β : Type} (e : α) (f : α → β) : β := f e
theorem lt_E {α β : Type} {e : α} {f : α → β} {o : β} (h : lt e f = o) : ∃ y, y = e ∧ f y = o := ⟨e, rfl, h⟩
def bd {α β : Type} (o : Option α) (f : α → Option β) : Option β := match o with
  | none => none
  | some a => f a
theorem bd_E {α β : Type} {o : Option α} {f : α → Option β} {r : β} (h : bd o f = some r) : ∃ a, o = some a ∧ f a = some r := by
  cases o with
  | none => cases h
  | some a => exact ⟨a, rfl, h⟩
def bd2 {α γ β : Type} (o : Option (α × γ)) (f : α → γ → Option β) : Option β := match o with
  | none => none
  | some a => f a.1 a.2
theorem bd2_E {α γ β : Type} {o : Option (α × γ)} {f : α → γ → Option β} {r : β} (h : bd2 o f = some r) : ∃ a b, o = some (a, b) ∧ f a b = some r := by
  cases o with
  | none => cases h
  | some a => exact ⟨a.1, a.2, rfl, h⟩
def inB (i : Int32) (n : Nat) : Bool := decide (0 ≤ i.toInt) && decide (i.toInt < n)
/-- an index is looked at, a divisor -/
def gd {β : Type} (i : Int32) (n : Nat) (o : Option β) : Option β := if inB i n = true then o else none
theorem gd_E {β : Type} {i : Int32} {n : Nat} {o : Option β} {r : β} (h : gd i n o = some r) : vp_in i n ∧ o = some r := by
  unfold gd at h
  split at h
  · rename_i q
    simp only [inB, Bool.and_eq_true, decide_eq_true_eq] at q
    exact ⟨vp_in_iff.mpr q, h⟩
  · cases h
theorem vp_lt {i : Int32} {n : Nat} (h : vp_in i n) : i.toNatClampNeg < n := Nat.not_le.mp fun q => h (Or.inr q)
def g0 {β : Type} (b : Int32) (o : Option β) : Option β := if b = 0 then none else o
theorem g0_E {β : Type} {b : Int32} {o : Option β} {r : β} (h : g0 b o = some r) : ¬ b = 0 ∧ o = some r := by
  unfold g0 at h
  split at h
  · cases h
  · exact ⟨by assumption, h⟩
def g0L {β : Type} (b : Int64) (o : Option β) : Option β := if b = 0 then none else o
theorem g0L_E {β : Type} {b : Int64} {o : Option β} {r : β} (h : g0L b o = some r) : ¬ b = 0 ∧ o = some r := by
  unfold g0L at h
  split at h
  · cases h
  · exact ⟨by assumption, h⟩
/-- a truth value is 0 or 1 -/
def gz {β : Type} (b : Int32) (o : Option β) : Option β := if b = 0 ∨ b = 1 then o else none
theorem gz_E {β : Type} {b : Int32} {o : Option β} {r : β} (h : gz b o = some r) : (b = 0 ∨ b = 1) ∧ o = some r := by
  unfold gz at h
  split at h
  · exact ⟨by assumption, h⟩
  · cases h
theorem nz_n {v : Int32} (h : v = 0 ∨ v = 1) : narrow .boolean (.int v) = .int v := by rcases h with rfl | rfl <;> rfl
theorem nz_f {v : Int32} (h : v = 0 ∨ v = 1) : fits .boolean (.int v) = true := by rcases h with rfl | rfl <;> rfl
theorem nz_v {v : Int32} (h : v = 0 ∨ v = 1) : vp_nar .boolean v = v := by rcases h with rfl | rfl <;> rfl
theorem ite_T {α : Type} {c : Prop} [Decidable c] {a b o : α} (h : c) (e : (if c then a else b) = o) : a = o := by rw [if_pos h] at e; exact e
theorem ite_F {α : Type} {c : Prop} [Decidable c] {a b o : α} (h : ¬ c) (e : (if c then a else b) = o) : b = o := by rw [if_neg h] at e; exact e

