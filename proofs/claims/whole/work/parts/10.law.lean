/-! the law: two worlds side by side (the class's, the reference's), the row out; JL: its judgement, up to the claim's own end -/
abbrev xL : Type := (Program × Launch × Env × State) × (MethodId × Nat × List Frame × Method × Code) × va_G × ((Nat → Nat) × (Nat → Nat) × Nat) × (Nat × (Nat → Int32))
abbrev z_p (z : xL) : Program := z.1.1
abbrev z_l (z : xL) : Launch := z.1.2.1
abbrev z_e (z : xL) : Env := z.1.2.2.1
abbrev z_s (z : xL) : State := z.1.2.2.2
abbrev z_m (z : xL) : MethodId := z.2.1.1
abbrev z_b (z : xL) : Nat := z.2.1.2.1
abbrev z_be (z : xL) : List Frame := z.2.1.2.2.1
abbrev z_me (z : xL) : Method := z.2.1.2.2.2.1
abbrev z_c (z : xL) : Code := z.2.1.2.2.2.2
abbrev z_D (z : xL) : va_G := z.2.2.1
abbrev z_1 (z : xL) : Nat → Nat := z.2.2.2.1.1
abbrev z_2 (z : xL) : Nat → Nat := z.2.2.2.1.2.1
abbrev z_o (z : xL) : Nat := z.2.2.2.1.2.2
abbrev z_L (z : xL) : Nat := z.2.2.2.2.1
abbrev z_x (z : xL) : Nat → Int32 := z.2.2.2.2.2
abbrev z_A (z : xL) : Nat → Prop := fun q => (z_s z).heap.size ≤ q
abbrev z_w1 (z : xL) (M : xM) : va_W := xW (z_1 z) (shC (z_1 z) (z_D z).1) 177 M
abbrev z_w2 (z : xL) (N : xM) : va_W := xW (z_2 z) (shM (z_2 z) (z_D z).1) 15 N
abbrev z_w3 (z : xL) (v : Int64) : va_W := [(z_o z, .inl ((z_D z).1 105, 1, .inr (.inl (fun _ => v))))]
def JL (z : xL) (cs ss : Nat) (M N : xM) (v : Int64) (pc : Nat) (L : List (Nat × Value)) (st : List Value) : Prop :=
  ∀ (H : Heap) (locs : List Loc) (ls : Array Slot), va_P (z_D z) vwCl (z_w1 z M ++ (z_w2 z N ++ z_w3 z v)) H → va_D (z_A z) (z_w1 z M ++ (z_w2 z N ++ z_w3 z v)) → va_S (z_A z) (z_s z).heap H locs → lv_has ls 7 L →
    W (z_p z) (z_l z) (z_e z) room_1 (z_s z) (z_m z) #[Value.ref (z_b z)] (z_be z) (z_me z) (z_c z) H locs cs ss (lw_Z (z_be z) #[Value.ref (z_b z)] (z_s z)) (F0 (z_m z) pc ls st)
/-- what holds in the law's body -/
abbrev CtL (z : xL) : Prop := (z_p z).tables.exec = Jvm.exec ∧ (z_c z).code = code ∧ (z_c z).maxLocals = 7 ∧ (z_s z).vm.findClass R_law = some (z_m z).cls ∧ (∀ w ∈ bW, w.before #[Value.ref (z_b z)] (z_s z) = true) ∧ va_K (z_D z) vwCl [((z_D z).1 100, .int), ((z_D z).1 101, .boolean), ((z_D z).1 102, .object RX8), ((z_D z).1 103, .object RX2), ((z_D z).1 104, .object RX3), ((z_D z).1 105, .long)] (z_s z) ∧
  (z_me z).locks = false ∧ (z_me z).sig.returnType = ret ∧ va_X (z_b z) (z_L z) (z_x z) (z_s z) (z_s z).heap ∧ z_b z < (z_s z).heap.size ∧ (NW (z_1 z) (z_s z) ∧ St (z_1 z) (z_A z) (z_s z) (z_s z).heap) ∧ (NW (z_2 z) (z_s z) ∧ St (z_2 z) (z_A z) (z_s z) (z_s z).heap)
section LRULES
variable {z : xL} {cs ss : Nat} {M N : xM} {v : Int64} {pc : Nat} {L : List (Nat × Value)} {st : List Value}
theorem l_sub {L' : List (Nat × Value)} (ks : List Nat) (hl : lv_pick L ks = L') (k : JL z cs ss M N v pc L' st) : JL z cs ss M N v pc L st := fun H locs ls hP hD hS h => k H locs ls hP hD hS (lv_sub h ks hl)
theorem l_iconst (C : CtL z) {y : Int} {w : Int32} (d : decode code pc = .ok (.iconst y, 1)) (hv : Int32.ofInt y = w) (k : JL z cs ss M N v (pc + 1) L (.int w :: st)) : JL z cs ss M N v pc L st := fun H locs ls hP hD hS h => lv_iconst C.1 C.2.1 d hv (k H locs ls hP hD hS h)
theorem l_bipush (C : CtL z) {y : Int} {w : Int32} (d : decode code pc = .ok (.bipush y, 2)) (hv : (Int8.ofInt y).toInt32 = w) (k : JL z cs ss M N v (pc + 2) L (.int w :: st)) : JL z cs ss M N v pc L st := fun H locs ls hP hD hS h => lv_bipush C.1 C.2.1 d hv (k H locs ls hP hD hS h)
theorem l_iload (C : CtL z) {a : Nat} {w : Int32} (q : Nat) (d : decode code pc = .ok (.iload a, 2)) (hq : L[q]? = some (a, .int w)) (k : JL z cs ss M N v (pc + 2) L (.int w :: st)) : JL z cs ss M N v pc L st := fun H locs ls hP hD hS h => lv_iload C.1 C.2.1 d (lv_at h q hq) (k H locs ls hP hD hS h)
theorem l_aload_n (C : CtL z) {i : Fin 4} {a w : Nat} (q : Nat) (d : decode code pc = .ok (.aload_n i, 1)) (hi : (i : Nat) = a) (hq : L[q]? = some (a, .ref w)) (k : JL z cs ss M N v (pc + 1) L (.ref w :: st)) : JL z cs ss M N v pc L st := fun H locs ls hP hD hS h => lv_aload_n C.1 C.2.1 d hi (lv_at h q hq) (k H locs ls hP hD hS h)
theorem l_istore (C : CtL z) {a : Nat} {w : Int32} (L' : List (Nat × Value)) (d : decode code pc = .ok (.istore a, 2)) (hn : a < 7) (hl : (a, Value.int w) :: L.filter (fun q => !(q.1 == a) && !(q.1 + 1 == a && q.2.category == 2)) = L') (k : JL z cs ss M N v (pc + 2) L' st) : JL z cs ss M N v pc L (.int w :: st) := fun H locs ls hP hD hS h => lv_istore C.1 C.2.1 d h hn hl (fun ls' h' => k H locs ls' hP hD hS h')
theorem l_iinc (C : CtL z) {a : Nat} {y : Int} {u w : Int32} (q : Nat) (L' : List (Nat × Value)) (d : decode code pc = .ok (.iinc a y, 3)) (hq : L[q]? = some (a, .int u)) (e : u + Int32.ofInt y = w) (hn : a < 7) (hl : (a, Value.int w) :: L.filter (fun q => !(q.1 == a) && !(q.1 + 1 == a && q.2.category == 2)) = L') (k : JL z cs ss M N v (pc + 3) L' st) : JL z cs ss M N v pc L st := fun H locs ls hP hD hS h => lv_iinc C.1 C.2.1 d h hq e hn hl (fun ls' h' => k H locs ls' hP hD hS h')
theorem l_iadd (C : CtL z) {a b : Int32} (d : decode code pc = .ok (.iadd, 1)) (k : JL z cs ss M N v (pc + 1) L (.int (a + b) :: st)) : JL z cs ss M N v pc L (.int b :: .int a :: st) := fun H locs ls hP hD hS h => lv_iadd C.1 C.2.1 d (k H locs ls hP hD hS h)
theorem l_isub (C : CtL z) {a b : Int32} (d : decode code pc = .ok (.isub, 1)) (k : JL z cs ss M N v (pc + 1) L (.int (a - b) :: st)) : JL z cs ss M N v pc L (.int b :: .int a :: st) := fun H locs ls hP hD hS h => lv_isub C.1 C.2.1 d (k H locs ls hP hD hS h)
theorem l_iand (C : CtL z) {a b : Int32} (d : decode code pc = .ok (.iand, 1)) (k : JL z cs ss M N v (pc + 1) L (.int (a &&& b) :: st)) : JL z cs ss M N v pc L (.int b :: .int a :: st) := fun H locs ls hP hD hS h => lv_iand C.1 C.2.1 d (k H locs ls hP hD hS h)
theorem l_i2l (C : CtL z) {a : Int32} (d : decode code pc = .ok (.i2l, 1)) (k : JL z cs ss M N v (pc + 1) L (.long a.toInt64 :: st)) : JL z cs ss M N v pc L (.int a :: st) := fun H locs ls hP hD hS h => lv_i2l C.1 C.2.1 d rfl (k H locs ls hP hD hS h)
theorem l_lcmp (C : CtL z) {a b : Int64} (d : decode code pc = .ok (.lcmp, 1)) (k : JL z cs ss M N v (pc + 1) L (.int (lg_cmp a b) :: st)) : JL z cs ss M N v pc L (.long b :: .long a :: st) := fun H locs ls hP hD hS h => W.lcmp C.1 C.2.1 d (k H locs ls hP hD hS h)
theorem l_goto (C : CtL z) {off : Int} (tgt : Nat) (d : decode code pc = .ok (.goto off, 3)) (ht : (pc : Int) + off = (tgt : Int)) (k : JL z cs ss M N v tgt L st) : JL z cs ss M N v pc L st := fun H locs ls hP hD hS h => lv_goto C.1 C.2.1 d ht (k H locs ls hP hD hS h)
theorem l_icmp_eq (C : CtL z) {a b : Int32} {off : Int} (tgt : Nat) (d : decode code pc = .ok (.if_icmp .eq off, 3)) (ht : (pc : Int) + off = (tgt : Int)) (kt : a = b → JL z cs ss M N v tgt L st) (kf : ¬ a = b → JL z cs ss M N v (pc + 3) L st) : JL z cs ss M N v pc L (.int b :: .int a :: st) := fun H locs ls hP hD hS h => lv_icmp_eq C.1 C.2.1 d ht (fun q => kt q H locs ls hP hD hS h) (fun q => kf q H locs ls hP hD hS h)
theorem l_icmp_gt (C : CtL z) {a b : Int32} {off : Int} (tgt : Nat) (d : decode code pc = .ok (.if_icmp .gt off, 3)) (ht : (pc : Int) + off = (tgt : Int)) (kt : b < a → JL z cs ss M N v tgt L st) (kf : ¬ b < a → JL z cs ss M N v (pc + 3) L st) : JL z cs ss M N v pc L (.int b :: .int a :: st) := fun H locs ls hP hD hS h => lv_icmp_gt C.1 C.2.1 d ht (fun q => kt q H locs ls hP hD hS h) (fun q => kf q H locs ls hP hD hS h)
theorem l_if_eq (C : CtL z) {a : Int32} {off : Int} (tgt : Nat) (d : decode code pc = .ok (.ifCond .eq off, 3)) (ht : (pc : Int) + off = (tgt : Int)) (kt : a = 0 → JL z cs ss M N v tgt L st) (kf : ¬ a = 0 → JL z cs ss M N v (pc + 3) L st) : JL z cs ss M N v pc L (.int a :: st) := fun H locs ls hP hD hS h => lv_if_eq C.1 C.2.1 d ht (fun q => kt q H locs ls hP hD hS h) (fun q => kf q H locs ls hP hD hS h)
theorem l_if_ne (C : CtL z) {a : Int32} {off : Int} (tgt : Nat) (d : decode code pc = .ok (.ifCond .ne off, 3)) (ht : (pc : Int) + off = (tgt : Int)) (kt : ¬ a = 0 → JL z cs ss M N v tgt L st) (kf : a = 0 → JL z cs ss M N v (pc + 3) L st) : JL z cs ss M N v pc L (.int a :: st) := fun H locs ls hP hD hS h => lv_if_ne C.1 C.2.1 d ht (fun q => kt q H locs ls hP hD hS h) (fun q => kf q H locs ls hP hD hS h)
theorem l_out (C : CtL z) : ¬ z_A z (z_b z) := Nat.not_le.mpr C.2.2.2.2.2.2.2.2.2.1
theorem l_slen (C : CtL z) (d : decode code pc = .ok (.arraylength, 1)) (k : JL z cs ss M N v (pc + 1) L (.int (Int32.ofNat (z_L z)) :: st)) : JL z cs ss M N v pc L (.ref (z_b z) :: st) := fun H locs ls hP hD hS h => va_slen C.1 C.2.1 C.2.2.2.2.2.2.2.2.1 C.2.2.2.2.2.2.2.2.2.1 (l_out C) hS d (k H locs ls hP hD hS h)
theorem l_sld (C : CtL z) {i : Int32} (hi : vp_in i (z_L z)) (d : decode code pc = .ok (.iaload, 1)) (k : JL z cs ss M N v (pc + 1) L (.int (z_x z i.toNatClampNeg) :: st)) : JL z cs ss M N v pc L (.int i :: .ref (z_b z) :: st) := fun H locs ls hP hD hS h => va_sld C.1 C.2.1 C.2.2.2.2.2.2.2.2.1 C.2.2.2.2.2.2.2.2.2.1 (l_out C) hS hi d (k H locs ls hP hD hS h)
theorem l_tin (C : CtL z) {dflt lo hi : Int} {offs : Array Int} {len : Nat} {a w : Int32} (e : a = w) {off : Int} (tgt : Nat) (d : decode code pc = .ok (.tableswitch dflt lo hi offs, len)) (h1 : ¬ w.toInt < lo) (h2 : ¬ hi < w.toInt) (ho : offs[(w.toInt - lo).toNat]? = some off) (ht : (pc : Int) + off = (tgt : Int)) (k : JL z cs ss M N v tgt L st) : JL z cs ss M N v pc L (.int a :: st) := fun H locs ls hP hD hS h => by
  subst e
  exact lv_tableIn C.1 C.2.1 d h1 h2 ho ht (k H locs ls hP hD hS h)
theorem l_tout (C : CtL z) {dflt lo hi : Int} {offs : Array Int} {len : Nat} {a : Int32} (tgt : Nat) (d : decode code pc = .ok (.tableswitch dflt lo hi offs, len)) (h1 : a.toInt < lo ∨ hi < a.toInt) (ht : (pc : Int) + dflt = (tgt : Int)) (k : JL z cs ss M N v tgt L st) : JL z cs ss M N v pc L (.int a :: st) := fun H locs ls hP hD hS h => lv_tableOut C.1 C.2.1 d h1 ht (k H locs ls hP hD hS h)
/-- the end, with 1 -/
theorem l_end (C : CtL z) (h1 : cs ≤ 601024) (h2 : ss ≤ 7293034) (d : decode code pc = .ok (.ireturn, 1)) : JL z cs ss M N v pc L [.int 1] := fun H locs ls hP hD hS h => by
  refine va_forget (fun q hq => hS.2.2 q hq) ?_
  refine W.widen (k := 601024) (n := 7293034) h1 h2 ?_
  exact lw_ret C.1 C.2.1 C.2.2.2.2.2.2.2.1 C.2.2.2.2.2.2.1 d
theorem va_D.same {A : Nat → Prop} {w w' : va_W} (h : va_D A w) (e : w'.map Prod.fst = w.map Prod.fst) : va_D A w' := by
  have key : ∀ (k : Nat) (q : Nat × va_E), w'[k]? = some q → ∃ p, w[k]? = some p ∧ p.1 = q.1 := by
    intro k q hq
    have h1 : (w'.map Prod.fst)[k]? = some q.1 := by rw [List.getElem?_map, hq]; rfl
    rw [e, List.getElem?_map] at h1
    cases hp : w[k]? with
    | none => rw [hp] at h1; cases h1
    | some p => rw [hp] at h1; exact ⟨p, rfl, Option.some.inj h1⟩
  refine ⟨fun i j p q hp hq epq => ?_, fun k q hq => ?_⟩
  · obtain ⟨p', h1, h2⟩ := key i p hp
    obtain ⟨q', h3, h4⟩ := key j q hq
    exact h.1 i j p' q' h1 h3 (h2.trans (epq.trans h4.symm))
  · obtain ⟨q', h3, h4⟩ := key k q hq
    rw [← h4]; exact h.2 k q' h3
theorem xW_fst {ad : Nat → Nat} {sh : xH} {K : Nat} {M M1 : xM} : (xW ad sh K M1).map Prod.fst = (xW ad sh K M).map Prod.fst := by
  simp [xW, List.map_map]
/-- a part of the worlds moves, the rest stays -/
theorem xW_move {D : va_G} {ad : Nat → Nat} {sh : xH} {K : Nat} {M M1 : xM} {A : Nat → Prop} {wa wb : va_W} {H H1 : Heap} (hP : va_P D vwCl (wa ++ (xW ad sh K M ++ wb)) H) (hD : va_D A (wa ++ (xW ad sh K M ++ wb))) (hk : ∀ q : Nat, q < H.size → ¬ xA ad K H.size q → H1[q]? = H[q]?) (hP1 : va_P D vwCl (xW ad sh K M1) H1) : va_P D vwCl (wa ++ (xW ad sh K M1 ++ wb)) H1 ∧ va_D A (wa ++ (xW ad sh K M1 ++ wb)) := by
  have hlen : (xW ad sh K M1).length = K ∧ (xW ad sh K M).length = K := by simp [xW]
  refine ⟨?_, hD.same (by simp only [List.map_append]; rw [xW_fst (M := M)])⟩
  have stay : ∀ (j : Nat) (q : Nat × va_E), (wa ++ (xW ad sh K M ++ wb))[j]? = some q → (j < wa.length ∨ wa.length + K ≤ j) → va_at D vwCl q H1 := by
    intro j q hq hj
    refine (hP j q hq).kept (hk q.1 (hP j q hq).lt (fun z => ?_))
    rcases z with ⟨k, hkK, e⟩ | z
    · have h2 : (wa ++ (xW ad sh K M ++ wb))[wa.length + k]? = some (ad k, sh k (M k)) := by
        rw [List.getElem?_append_right (by omega), Nat.add_sub_cancel_left, List.getElem?_append_left (by rw [hlen.2]; exact hkK), xW_get hkK]
      have := hD.1 j (wa.length + k) q _ hq h2 e
      omega
    · have := (hP j q hq).lt
      omega
  intro j q hq
  by_cases h1 : j < wa.length
  · exact stay j q (by rw [List.getElem?_append_left h1] at hq ⊢; exact hq) (Or.inl h1)
  · rw [List.getElem?_append_right (by omega)] at hq
    by_cases h2 : j - wa.length < K
    · rw [List.getElem?_append_left (by rw [hlen.1]; exact h2)] at hq
      exact hP1 _ q hq
    · refine stay j q ?_ (Or.inr (by omega))
      rw [List.getElem?_append_right (by omega)]
      rw [List.getElem?_append_right (by rw [hlen.1]; omega), hlen.1] at hq
      rw [List.getElem?_append_right (by rw [hlen.2]; omega), hlen.2]
      exact hq
theorem va_P.midl {D : va_G} {cl : List vw_C} {wa wm wb : va_W} {H : Heap} (h : va_P D cl (wa ++ (wm ++ wb)) H) : va_P D cl wm H := by
  intro k q hq
  have hl := (List.getElem?_eq_some_iff.mp hq).1
  refine h (wa.length + k) q ?_
  rw [List.getElem?_append_right (by omega), Nat.add_sub_cancel_left, List.getElem?_append_left hl, hq]
theorem va_D.midl {A B : Nat → Prop} {wa wm wb : va_W} (h : va_D A (wa ++ (wm ++ wb))) (hB : ∀ (k : Nat) (q : Nat × va_E), wm[k]? = some q → A q.1 → B q.1) : va_D B wm := by
  have key : ∀ (k : Nat) (q : Nat × va_E), wm[k]? = some q → (wa ++ (wm ++ wb))[wa.length + k]? = some q := by
    intro k q hq
    have hl := (List.getElem?_eq_some_iff.mp hq).1
    rw [List.getElem?_append_right (by omega), Nat.add_sub_cancel_left, List.getElem?_append_left hl, hq]
  refine ⟨fun i j p q hp hq e => ?_, fun k q hq => hB k q hq (h.2 _ q (key k q hq))⟩
  have := h.1 _ _ p q (key i p hp) (key j q hq) e
  omega
theorem l_run (rv : Option Value) (a : Array Value) {st0 : List Value} {wa wb : va_W} {ad : Nat → Nat} {sh : xH} {K : Nat} {tys : List (ClassId × FieldType)} {Mi Mi1 M1 N1 : xM} {mc ms : Nat}
    (e0 : z_w1 z M ++ (z_w2 z N ++ z_w3 z v) = wa ++ (xW ad sh K Mi ++ wb)) (e1 : z_w1 z M1 ++ (z_w2 z N1 ++ z_w3 z v) = wa ++ (xW ad sh K Mi1 ++ wb))
    (hr : ∀ (H : Heap) (locs : List Loc) (ls : Array Slot), va_P (z_D z) vwCl (wa ++ (xW ad sh K Mi ++ wb)) H → va_D (z_A z) (wa ++ (xW ad sh K Mi ++ wb)) → va_S (z_A z) (z_s z).heap H locs → ls.size = 7 → va_Run (z_p z) (z_l z) (z_e z) room_1 (z_s z) (z_m z) #[Value.ref (z_b z)] (z_be z) (z_me z) (z_c z) H locs cs ss mc ms (F0 (z_m z) pc ls st0) st (xQ (z_D z) tys ad sh K rv Mi1 (xA ad K H.size) a) (xA ad K H.size))
    (kk : JL z (cs + mc) (ss + ms) M1 N1 v (pc + 3) L (rv.toList ++ st)) : JL z cs ss M N v pc L st0 := by
  intro H locs ls hP hD hS hl T hT X
  rw [e0] at hP hD
  obtain ⟨w, st₀, t, T', L', h0, X', hL, e2, e3, ⟨hv, hP1, hD1, hz, hk⟩, stp⟩ := hr H locs ls hP hD hS hl.1 T hT X
  cases hv
  rw [h0] at hz hk
  have hA : ∀ q, xA ad K H.size q → z_A z q := fun q hq => hq.elim (fun ⟨k, hk1, e⟩ => by
    rw [e]
    exact hD.2 (wa.length + k) (ad k, sh k (Mi k)) (by rw [List.getElem?_append_right (by omega), Nat.add_sub_cancel_left, List.getElem?_append_left (by simp [xW]; exact hk1), xW_get hk1])) (fun y => Nat.le_trans hS.1 y)
  obtain ⟨m1, m2⟩ := xW_move (M1 := Mi1) hP hD hk hP1
  rw [← e1] at m1 m2
  obtain ⟨t2, a1, b1⟩ := kk T'.heap (locs ++ L') ls (by rw [e2]; exact m1) m2
    ⟨Nat.le_trans hS.1 (by rw [e2]; exact hz), fun q h1 h2 => by rw [e2, hk q (Nat.lt_of_lt_of_le h1 hS.1) (fun y => h2 (hA q y))]; exact hS.2.1 q h1 h2, fun q hq => by
      rcases List.mem_append.mp hq with h | h
      · exact hS.2.2 q h
      · exact hA _ (hL q h)⟩ hl T' rfl X'
  exact ⟨t2, stp t2 a1, b1⟩
theorem l_pre {wa wb : va_W} {ad : Nat → Nat} {sh : xH} {K : Nat} {tys : List (ClassId × FieldType)} {Mi : xM} {args : List Value} {H : Heap} {locs : List Loc} (hK : va_K (z_D z) vwCl tys (z_s z)) (hN : NW ad (z_s z) ∧ St ad (z_A z) (z_s z) (z_s z).heap) (hP : va_P (z_D z) vwCl (wa ++ (xW ad sh K Mi ++ wb)) H) (hD : va_D (z_A z) (wa ++ (xW ad sh K Mi ++ wb))) (hS : va_S (z_A z) (z_s z).heap H locs) (U : State) (hU : U.heap = H) (hW : (z_s z).WarmedH U.vm) : va_Pc args (xPre (z_D z) tys ad sh K H.size Mi) args.toArray U := by
  refine ⟨rfl, by rw [hU], by rw [hU]; exact hP.midl, va_K.moved hW.alike hK, hD.midl (fun _ _ _ _ => trivial), NW.warm hW hN.1, ?_⟩
  rw [hU]
  refine ((hN.2.kept (fun a h1 h2 => hS.2.1 a h1 h2)).moved hW.alike).narrow (fun q hq => hq.elim (fun ⟨k, hk, e⟩ => ?_) (fun y => Nat.le_trans hS.1 y))
  rw [e]
  exact hD.2 (wa.length + k) (ad k, sh k (Mi k)) (by rw [List.getElem?_append_right (by omega), Nat.add_sub_cancel_left, List.getElem?_append_left (by simp [xW]; exact hk), xW_get hk])
/-- a call of the class -/
theorem l_callC (C : CtL z) {y : MethodName} {ccy : ByteArray} {ny idx nn : Nat} {rt : Option FieldType} {rmy : Room} {As : List Value} {rv : Option Value} {M1 : xM} {st0 : List Value}
    (hM : xMetC (z_l z) y ccy ny rt rmy (.ref (z_1 z 0) :: As) (z_D z) (z_1 z) M rv M1)
    (hw : Cond.methodLink R_law idx y ∈ bW ∧ Cond.instanceMethod y ∈ bW ∧ Cond.selects RX10 y y ∈ bW ∧ Cond.initialized RX10 ∈ bW ∧ Cond.code y ccy ny rt ∈ bW) (hd : y.cls = RX10 ∧ okD y nn) (hR : rmy.cells = 0 ∧ rmy.slots = 0 ∧ rmy.frames + 1 ≤ 14 ∧ 8 + (ny + 11) + rmy.locals ≤ 546) (hc : cs ≤ 601024 ∧ ss ≤ 7293034)
    (hn : As.length = nn) (hst : st0 = As.reverse ++ .ref (z_1 z 0) :: st) (hcat : (st.map fun v => v.category).sum ≤ 8) (d : decode code pc = .ok (.invokevirtual idx, 3))
    (kk : JL z cs ss M1 N v (pc + 3) L (rv.toList ++ st)) : JL z cs ss M N v pc L st0 := by
  obtain ⟨w1, w2, w3, w4, w5⟩ := hw
  refine l_run rv (Value.ref (z_1 z 0) :: As).toArray (wa := []) (wb := z_w2 z N ++ z_w3 z v) (ad := z_1 z) (sh := shC (z_1 z) (z_D z).1) (K := 177) (Mi := M) (Mi1 := M1) (tys := tyC (z_D z).1) (M1 := M1) (N1 := N) (mc := 0) (ms := 0) rfl rfl (fun H locs ls hP hD hS hsz => ?_) kk
  have hK : va_K (z_D z) vwCl (tyC (z_D z).1) (z_s z) := C.2.2.2.2.2.1.sub [0, 1, 2, 3, 4] rfl
  have hPm : va_P (z_D z) vwCl (z_w1 z M) H := va_P.midl (wa := []) hP
  exact va_runV (Ts := bW) (As := As) (rest := st) (nL := 7) ⟨C.1, C.2.1, C.2.2.1, C.2.2.2.1, C.2.2.2.2.1⟩ (hM H.size) (cwV nn C.2.2.2.2.1 (bw_good (fun w h => by
    simp only [wsV, List.mem_append, List.mem_cons, List.not_mem_nil, or_false] at h
    rcases h with (rfl | rfl | rfl | rfl) | rfl | h <;> assumption)) rfl hR.1 hR.2.1 hd hR.2.2) ⟨xPre_blind, va_recv (q := (RX10, TX10, 10)) hK hPm (q0 := 0) (ci := 10) rfl ((xW_get (by decide)).trans (by rw [sh_0])), fun U hU hW => l_pre hK C.2.2.2.2.2.2.2.2.2.2.1 hP hD hS U hU hW⟩ rfl hn hsz hst (by simpa [JFrame.monitorRoom] using hcat) d hc
/-- a call of the reference -/
theorem l_callM (C : CtL z) {y : MethodName} {ccy : ByteArray} {ny idx nn : Nat} {rt : Option FieldType} {rmy : Room} {As : List Value} {rv : Option Value} {N1 : xM} {st0 : List Value}
    (hM : xMetM (z_l z) y ccy ny rt rmy (.ref (z_2 z 0) :: As) (z_D z) (z_2 z) N rv N1)
    (hw : Cond.methodLink R_law idx y ∈ bW ∧ Cond.instanceMethod y ∈ bW ∧ Cond.selects RX11 y y ∈ bW ∧ Cond.initialized RX11 ∈ bW ∧ Cond.code y ccy ny rt ∈ bW) (hd : y.cls = RX11 ∧ okD y nn) (hR : rmy.cells = 0 ∧ rmy.slots = 0 ∧ rmy.frames + 1 ≤ 14 ∧ 8 + (ny + 11) + rmy.locals ≤ 546) (hc : cs ≤ 601024 ∧ ss ≤ 7293034)
    (hn : As.length = nn) (hst : st0 = As.reverse ++ .ref (z_2 z 0) :: st) (hcat : (st.map fun v => v.category).sum ≤ 8) (d : decode code pc = .ok (.invokevirtual idx, 3))
    (kk : JL z cs ss M N1 v (pc + 3) L (rv.toList ++ st)) : JL z cs ss M N v pc L st0 := by
  obtain ⟨w1, w2, w3, w4, w5⟩ := hw
  refine l_run rv (Value.ref (z_2 z 0) :: As).toArray (wa := z_w1 z M) (wb := z_w3 z v) (ad := z_2 z) (sh := shM (z_2 z) (z_D z).1) (K := 15) (Mi := N) (Mi1 := N1) (tys := tyM (z_D z).1) (M1 := M) (N1 := N1) (mc := 0) (ms := 0) rfl rfl (fun H locs ls hP hD hS hsz => ?_) kk
  have hK : va_K (z_D z) vwCl (tyM (z_D z).1) (z_s z) := C.2.2.2.2.2.1.sub [0] rfl
  have hPm : va_P (z_D z) vwCl (z_w2 z N) H := va_P.midl (wa := z_w1 z M) hP
  exact va_runV (Ts := bW) (As := As) (rest := st) (nL := 7) ⟨C.1, C.2.1, C.2.2.1, C.2.2.2.1, C.2.2.2.2.1⟩ (hM H.size) (cwV nn C.2.2.2.2.1 (bw_good (fun w h => by
    simp only [wsV, List.mem_append, List.mem_cons, List.not_mem_nil, or_false] at h
    rcases h with (rfl | rfl | rfl | rfl) | rfl | h <;> assumption)) rfl hR.1 hR.2.1 hd hR.2.2) ⟨xPre_blind, va_recv (q := (RX11, TX11, 30)) hK hPm (q0 := 0) (ci := 11) rfl ((xW_get (by decide)).trans (by rw [shm_0])), fun U hU hW => l_pre hK C.2.2.2.2.2.2.2.2.2.2.2 hP hD hS U hU hW⟩ rfl hn hsz hst (by simpa [JFrame.monitorRoom] using hcat) d hc
end LRULES
