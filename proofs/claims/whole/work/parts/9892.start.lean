/-! the law's start: both objects and the row out made, pc 0 to 23 -/
theorem lnX10 (c : Nat → ClassId) (b : Nat) : (esX10 c b).length = 177 := by
  show (tl_9 c b).length + 1 = 177
  rw [ln_9]
theorem lnX11 (c : Nat → ClassId) (b : Nat) : (esX11 c b).length = 15 := rfl
section NEWL
variable {x : kC} {own : String} {cc : ByteArray} {n : Nat} {rm : Room} {cs ss : Nat} {es : List va_E} {pc : Nat} {L : List (Nat × Value)} {st : List Value}
theorem k_newl (C : CtK x own cc n rm) (harr : Cond.arrayClass .long ∈ bW) {a : Int32} {N : Nat} (hn : ¬ a < 0) (hN : a.toNatClampNeg = N) (hb : N * componentBytes .long ≤ 536870912) (hR : cs + 1 ≤ rm.cells ∧ ss + N ≤ rm.slots) (d : decode cc pc = .ok (.newarray .long, 2))
    (k : JK x (cs + 1) (ss + N) (es ++ [.inl ((k_D x).1 105, N, .inr (.inl (fun _ => 0)))]) (pc + 2) L (.ref (k_b x + es.length) :: st)) : JK x cs ss es pc L (.int a :: st) := fun H locs ls hz hP hS h => by
  refine va_newaK C.1 C.2.1 (atype := .long) (C.2.2.2.2.1 _ harr) rfl d rfl hn hN hb (by rw [C.2.2.2.2.2.2.2.2.1]; exact hR.1) (by rw [C.2.2.2.2.2.2.2.2.1]; exact hR.2) hz.1 fun H1 cA' e1 z1 o1 hAr hNm => ?_
  have hcA : cA' = (k_D x).1 105 := Option.some.inj (hNm.symm.trans (C.2.2.2.2.2.1.2 5 _ rfl).2)
  subst hcA
  have o2 : ∀ q, q < H.size → H1[q]? = H[q]? := fun q hq => o1 q (by have := hz.1; omega)
  exact k H1 locs ls ⟨by rw [z1, List.length_append]; rfl, by have := hz.2; rw [List.length_append]; show _ + (cs + 1) = _ + (_ + 1); omega⟩ (k_push hz.1 hP (by show H1[_]? = some (vp_cell _ _); rw [e1]; rfl) o2) (k_S hS (by have := hz.1; omega) o2) h
end NEWL
theorem lwd {w : Cond} (h : w ∈ lw_tbl) (g : goodWord w = true) : w ∈ bW := List.mem_filter.mpr ⟨h, g⟩
def esL (c : Nat → ClassId) (b : Nat) : List va_E := (esX10 c b ++ esX11 c (b + 177)) ++ [.inl (c 105, 1, .inr (.inl (fun _ => 0)))]
theorem st_walk {x : kC} {sc : Nat} (C : CtK x R_law code 7 room_1) (kk : JK x 193 26028 (esL (k_D x).1 (k_b x)) 23 [(4, .int 0), (3, .ref (k_b x + 192)), (2, .ref (k_b x + 177)), (1, .ref (k_b x)), (0, .ref sc)] []) : JK x 0 0 [] 0 [(0, .ref sc)] [] := by
  refine k_new C (ci := 10) (fs := [.null, .null, .null, .null, .int 0, .null, .null, .null, .null, .null]) tyX10 tyX10_ok hin_X10 ⟨lwd (by decide +kernel) (by decide +kernel), lwd (by decide +kernel) (by decide +kernel), lwd (by decide +kernel) (by decide +kernel)⟩ rfl (by decide) ⟨Nat.le_of_ble_eq_true rfl, Nat.le_of_ble_eq_true rfl⟩ dL_law_0 ?_
  refine k_dup C dL_law_3 ?_
  refine k_init C (es0 := []) (e0 := e0X10) (fe := esX10 (k_D x).1 (k_b x)) (mc := 176) (ms := 3665) (lnX10 _ _) (mk_X10 _ _ _ _) ⟨lwd (by decide +kernel) (by decide +kernel), lwd (by decide +kernel) (by decide +kernel), lwd (by decide +kernel) (by decide +kernel), lwd (by decide +kernel) (by decide +kernel)⟩ rfl ⟨by decide +kernel, by decide +kernel, by decide +kernel⟩ ⟨rfl, rfl, Nat.le_of_ble_eq_true rfl, Nat.le_of_ble_eq_true rfl⟩ ⟨Nat.le_of_ble_eq_true rfl, Nat.le_of_ble_eq_true rfl⟩ rfl rfl (Nat.le_of_ble_eq_true rfl) dL_law_4 ?_
  refine k_nm (es2 := esX10 (k_D x).1 (k_b x)) (st2 := [.ref (k_b x)]) (cs2 := 177) (ss2 := 3675) rfl rfl rfl rfl ?_
  refine k_astore_n C [(1, .ref (k_b x)), (0, .ref sc)] dL_law_7 rfl (by decide) rfl ?_
  refine k_new C (ci := 11) (fs := [.int 0, .null, .int 0, .int 0, .int 0, .int 0, .int 0, .int 0, .null, .null, .int 0, .null, .null, .int 0, .null, .int 0, .null, .null, .null, .null, .null, .null, .int 0, .int 0, .null, .int 0, .null, .int 0, .int 0, .int 0]) tyX11 tyX11_ok hin_X11 ⟨lwd (by decide +kernel) (by decide +kernel), lwd (by decide +kernel) (by decide +kernel), lwd (by decide +kernel) (by decide +kernel)⟩ rfl (by decide) ⟨Nat.le_of_ble_eq_true rfl, Nat.le_of_ble_eq_true rfl⟩ dL_law_8 ?_
  rw [lnX10]
  refine k_dup C dL_law_11 ?_
  refine k_init C (es0 := esX10 (k_D x).1 (k_b x)) (e0 := e0X11) (fe := esX11 (k_D x).1 (k_b x + (esX10 (k_D x).1 (k_b x)).length)) (mc := 14) (ms := 22322) (lnX11 _ _) (mk_X11 _ _ _ _) ⟨lwd (by decide +kernel) (by decide +kernel), lwd (by decide +kernel) (by decide +kernel), lwd (by decide +kernel) (by decide +kernel), lwd (by decide +kernel) (by decide +kernel)⟩ rfl ⟨by decide +kernel, by decide +kernel, by decide +kernel⟩ ⟨rfl, rfl, Nat.le_of_ble_eq_true rfl, Nat.le_of_ble_eq_true rfl⟩ ⟨Nat.le_of_ble_eq_true rfl, Nat.le_of_ble_eq_true rfl⟩ rfl (by rw [lnX10]) (Nat.le_of_ble_eq_true rfl) dL_law_12 ?_
  rw [lnX10]
  refine k_nm (es2 := esX10 (k_D x).1 (k_b x) ++ esX11 (k_D x).1 (k_b x + 177)) (st2 := [.ref (k_b x + 177)]) (cs2 := 192) (ss2 := 26027) rfl rfl rfl rfl ?_
  refine k_astore_n C [(2, .ref (k_b x + 177)), (1, .ref (k_b x)), (0, .ref sc)] dL_law_15 rfl (by decide) rfl ?_
  refine k_iconst (v := 1) C dL_law_16 rfl ?_
  refine k_newl C (lwd (by decide +kernel) (by decide +kernel)) (N := 1) (by decide) (by decide) (by decide) ⟨Nat.le_of_ble_eq_true rfl, Nat.le_of_ble_eq_true rfl⟩ dL_law_17 ?_
  rw [List.length_append, lnX10, lnX11]
  refine k_nm (es2 := esL (k_D x).1 (k_b x)) (st2 := [.ref (k_b x + 192)]) (cs2 := 193) (ss2 := 26028) rfl rfl rfl rfl ?_
  refine k_astore_n C [(3, .ref (k_b x + 192)), (2, .ref (k_b x + 177)), (1, .ref (k_b x)), (0, .ref sc)] dL_law_19 rfl (by decide) rfl ?_
  refine k_iconst (v := 0) C dL_law_20 rfl ?_
  refine k_istore C [(4, .int 0), (3, .ref (k_b x + 192)), (2, .ref (k_b x + 177)), (1, .ref (k_b x)), (0, .ref sc)] dL_law_21 (by decide) rfl ?_
  exact kk
/-- the law's worlds, by the address of the first cell -/
abbrev zz (x : kC) (sc : Nat) (ad : Nat → Nat) (L : Nat) (xs : Nat → Int32) : xL := ((k_p x, k_l x, k_e x, k_s x), (k_m x, sc, k_be x, k_me x, k_c x), k_D x, (ad1 (k_s x).heap.size ad, ad2 ((k_s x).heap.size + 177) ad, (k_s x).heap.size + 192), (L, xs))
theorem ws_at {D : va_G} {a1 a2 : Nat → Nat} {o : Nat} {e : va_E} {s1 s2 : xH} {M N : xM} {i : Nat} {q : Nat × va_E} (h : (xW a1 s1 177 M ++ (xW a2 s2 15 N ++ [(o, e)]))[i]? = some q) : (i < 177 ∧ q = (a1 i, s1 i (M i))) ∨ (∃ j, j < 15 ∧ i = 177 + j ∧ q = (a2 j, s2 j (N j))) ∨ (i = 192 ∧ q = (o, e)) := by
  have l1 : (xW a1 s1 177 M).length = 177 := by simp [xW]
  have l2 : (xW a2 s2 15 N).length = 15 := by simp [xW]
  by_cases h1 : i < 177
  · rw [List.getElem?_append_left (by rw [l1]; exact h1)] at h
    exact Or.inl (xW_some h)
  · rw [List.getElem?_append_right (by rw [l1]; omega), l1] at h
    by_cases h2 : i - 177 < 15
    · rw [List.getElem?_append_left (by rw [l2]; exact h2)] at h
      exact Or.inr (Or.inl ⟨i - 177, h2, by omega, (xW_some h).2⟩)
    · rw [List.getElem?_append_right (by rw [l2]; omega), l2] at h
      have hk := (List.getElem?_eq_some_iff.mp h).1
      have h3 : i - 177 - 15 = 0 := by simp at hk; omega
      rw [h3] at h
      exact Or.inr (Or.inr ⟨by omega, (Option.some.inj h).symm⟩)
theorem jk_jl {x : kC} {sc : Nat} {ad : Nat → Nat} {L : Nat} {xs : Nat → Int32} {cs ss : Nat} (hb : k_b x = (k_s x).heap.size) (hn : k_n x = 7) (hR : k_R x = room_1) (ha : k_a x = #[.ref sc]) (hQ : k_Q x = lw_Z (k_be x) #[.ref sc] (k_s x))
    (k : JL (zz x sc ad L xs) cs ss M00 N00 0 23 (L0 (zz x sc ad L xs) (nI 0)) []) : JK x cs ss (esL (k_D x).1 (k_b x)) 23 [(4, .int 0), (3, .ref (k_b x + 192)), (2, .ref (k_b x + 177)), (1, .ref (k_b x)), (0, .ref sc)] [] := by
  intro H locs ls hz hP hS hl
  rw [hR, ha, hQ]
  have hP1 : va_P (k_D x) vwCl (xl (k_b x) (esX10 (k_D x).1 (k_b x))) H := by
    have h := hP
    unfold esL at h
    rw [xl_app, xl_app] at h
    exact h.left.left
  have hP2 : va_P (k_D x) vwCl (xl (k_b x + 177) (esX11 (k_D x).1 (k_b x + 177))) H := by
    have h := hP
    unfold esL at h
    rw [xl_app, xl_app, lnX10] at h
    exact h.left.right
  have hP3 : va_at (k_D x) vwCl (k_b x + 192, .inl ((k_D x).1 105, 1, .inr (.inl (fun _ => 0)))) H := by
    refine hP 192 _ (xl_at ?_)
    unfold esL
    rw [List.getElem?_append_right (by rw [List.length_append, lnX10, lnX11]; omega), List.length_append, lnX10, lnX11]
    rfl
  have w1 := w1_at (ad := ad) hP1
  have w2 := w2_at (ad := ad) hP2
  rw [hb] at w1 w2 hP3
  refine k H locs ls ?_ ⟨?_, ?_⟩ ?_ ?_
  · intro i q hq
    rcases ws_at (D := k_D x) hq with ⟨h1, rfl⟩ | ⟨j, h1, rfl, rfl⟩ | ⟨rfl, rfl⟩
    · exact w1 i h1
    · exact w2 j h1
    · exact hP3
  · intro i j p q hp hq e
    have key : ∀ {i : Nat} {p : Nat × va_E}, (z_w1 (zz x sc ad L xs) M00 ++ (z_w2 (zz x sc ad L xs) N00 ++ z_w3 (zz x sc ad L xs) 0))[i]? = some p → i < 193 ∧ p.1 = (k_s x).heap.size + (if i < 6 then i else if i < 17 then i + 160 else if i < 177 then i - 11 else i) := by
      intro i p hp
      rcases ws_at (D := k_D x) hp with ⟨h1, rfl⟩ | ⟨j, h1, rfl, rfl⟩ | ⟨rfl, rfl⟩
      · refine ⟨by omega, ?_⟩
        show ad1 _ ad i = _
        unfold ad1 peP
        rw [if_pos (by omega)]
        by_cases h6 : i < 6
        · rw [if_pos h6, if_pos h6]
        · rw [if_neg h6, if_neg h6]
          by_cases h7 : i < 17
          · rw [if_pos h7, if_pos h7]
          · rw [if_neg h7, if_neg h7, if_pos h1]
      · refine ⟨by omega, ?_⟩
        show ad2 _ ad j = _
        unfold ad2
        rw [if_pos (by omega), if_neg (by omega), if_neg (by omega), if_neg (by omega)]; omega
      · exact ⟨by omega, rfl⟩
    obtain ⟨a1, a2⟩ := key hp
    obtain ⟨b1, b2⟩ := key hq
    rw [a2, b2] at e
    repeat' (split at e)
    all_goals omega
  · intro i q hq
    rcases ws_at (D := k_D x) hq with ⟨h1, rfl⟩ | ⟨j, h1, rfl, rfl⟩ | ⟨rfl, rfl⟩
    · show (k_s x).heap.size ≤ ad1 _ ad i
      unfold ad1; rw [if_pos (by omega)]; omega
    · show (k_s x).heap.size ≤ ad2 _ ad j
      unfold ad2; rw [if_pos (by omega)]; omega
    · show (k_s x).heap.size ≤ _ + 192
      omega
  · have h := hS
    unfold k_A at h
    rw [hb] at h
    exact h
  · rw [hn, hb] at hl
    exact lv_sub hl [4, 3, 2, 1, 0] rfl
