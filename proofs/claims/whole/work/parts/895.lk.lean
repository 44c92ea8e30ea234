theorem va_P.right {D : va_G} {cl : List vw_C} {wa wb : va_W} {H : Heap} (h : va_P D cl (wa ++ wb) H) : va_P D cl wb H := va_P.midl (wa := wa) (wb := []) (by rw [List.append_nil]; exact h)
theorem va_P.left {D : va_G} {cl : List vw_C} {wa wb : va_W} {H : Heap} (h : va_P D cl (wa ++ wb) H) : va_P D cl wa H := va_P.midl (wa := []) (wm := wa) (wb := wb) h
theorem va_P.app2 {D : va_G} {cl : List vw_C} {wa wb : va_W} {H : Heap} (h1 : va_P D cl wa H) (h2 : va_P D cl wb H) : va_P D cl (wa ++ wb) H := by
  intro k q hq
  by_cases h : k < wa.length
  · rw [List.getElem?_append_left h] at hq; exact h1 k q hq
  · rw [List.getElem?_append_right (by omega)] at hq; exact h2 _ q hq
theorem va_D.app_ne {A : Nat → Prop} {wa wb : va_W} (h : va_D A (wa ++ wb)) {i j : Nat} {p q : Nat × va_E} (hp : wa[i]? = some p) (hq : wb[j]? = some q) : p.1 ≠ q.1 := by
  intro e
  have hi := (List.getElem?_eq_some_iff.mp hp).1
  have h1 : (wa ++ wb)[i]? = some p := by rw [List.getElem?_append_left hi]; exact hp
  have h2 : (wa ++ wb)[wa.length + j]? = some q := by rw [List.getElem?_append_right (by omega), Nat.add_sub_cancel_left]; exact hq
  have := h.1 _ _ p q h1 h2 e
  omega
section LKE
variable {z : xL} {cs ss : Nat} {M N : xM} {v : Int64} {pc : Nat} {L : List (Nat × Value)} {st st0 : List Value}
set_option maxHeartbeats 4000000 in
theorem l_callE (C : CtL z) (hl : (z_l z).stackTraces = false) {sb : Nat × Nat} (hX : EX sb (z_A z) (z_s z) (z_s z).heap) {x1 x2 : Int32} {r : Option Int32} (h : f_X10_entry M x1 x2 = some r) (hc : cs + 1 ≤ 601024 ∧ ss + 6 ≤ 7293034) (d : decode code pc = .ok (.invokestatic 117, 3))
    (hst : st0 = [.ref (z_o z), .int x2, .int x1, .ref (z_1 z 0)] ++ st) (hcat : (st.map fun v => v.category).sum ≤ 8) (kk : JL z (cs + 1) (ss + 6) M N (vE9 r v) (pc + 3) L (.int (kE9 r) :: st)) : JL z cs ss M N v pc L st0 := by
  intro H locs ls hP hD hS hl7 T hT X
  have hP12 : va_P (z_D z) vwCl ((z_w1 z M ++ z_w2 z N) ++ z_w3 z v) H := by rw [List.append_assoc]; exact hP
  have hD12 : va_D (z_A z) ((z_w1 z M ++ z_w2 z N) ++ z_w3 z v) := by rw [List.append_assoc]; exact hD
  have hrow : va_P (z_D z) vwCl [rowE (z_D z) (z_o z) v] H := hP12.right
  have ho : z_o z < H.size := (hrow 0 _ rfl).lt
  have hoA : z_A z (z_o z) := hD12.2 ((z_w1 z M ++ z_w2 z N).length + 0) (rowE (z_D z) (z_o z) v) (by rw [List.getElem?_append_right (by omega), Nat.add_sub_cancel_left]; rfl)
  have hK : va_K (z_D z) vwCl (tyC (z_D z).1) (z_s z) := C.2.2.2.2.2.1.sub [0, 1, 2, 3, 4] rfl
  have hK5 : va_K (z_D z) vwCl [((z_D z).1 105, .long)] (z_s z) := C.2.2.2.2.2.1.sub [5] rfl
  have hrun : vx_Run (z_p z) (z_l z) (z_e z) room_1 (z_s z) (z_m z) #[Value.ref (z_b z)] (z_be z) (z_me z) (z_c z) H locs cs ss 1 6 (F0 (z_m z) pc ls st0) st (zQ (z_D z) (z_o z) H.size (kE9 r) (vE9 r v) [Value.ref (z_1 z 0), .int x1, .int x2, .ref (z_o z)].toArray) (fun _ _ _ => False) (zO (z_o z) H.size) := by
    refine vx_runSX (Ts := bW) (own := R_law) (nL := 7) (index := 117) (cc := code) (As := [Value.ref (z_1 z 0), .int x1, .int x2, .ref (z_o z)]) (hh := [(0, 10, 13, 13)]) ⟨C.1, C.2.1, C.2.2.1, C.2.2.2.1, C.2.2.2.2.1⟩ (m_L_entry (z_l z) hl (z_D z) (z_1 z) (z_o z) sb M v x1 x2 h H.size ho) (vx_cwSW 4 C.2.2.2.2.1 (bw_good (fun w h => by
      simp only [va_wsS, List.mem_append, List.mem_cons, List.not_mem_nil, or_false] at h
      rcases h with (rfl | rfl | rfl) | rfl | h
      · exact lk_wi 6 rfl
      · exact lk_wi 7 rfl
      · exact lk_wi 8 rfl
      · exact lk_wi 9 rfl
      · exact h)) rfl rfl rfl ⟨by decide +kernel, by decide +kernel, by decide +kernel⟩ ⟨Nat.le_of_ble_eq_true rfl, Nat.le_of_ble_eq_true rfl⟩) ⟨zPre_blind, fun U hU hW => ?_⟩ rfl rfl hl7.1 hst (by simpa [JFrame.monitorRoom] using hcat) d hc
    refine ⟨rfl, (l_pre (args := []) (wa := []) (wb := z_w2 z N ++ z_w3 z v) (tys := tyC (z_D z).1) (ad := z_1 z) (sh := shC (z_1 z) (z_D z).1) (K := 177) (Mi := M) hK C.2.2.2.2.2.2.2.2.2.2.1 hP hD hS U hU hW).2, by rw [hU]; exact hrow, va_K.moved hW.alike hK5, ?_⟩
    rw [hU]
    exact ((hX.kept (fun a h1 h2 => hS.2.1 a h1 h2)).narrow (fun q hq => hq.elim (fun e => by rw [e]; exact hoA) (fun y => Nat.le_trans hS.1 y))).warm hW
  rcases hrun T hT X with ⟨rv, st₀, t, T', L', h0, X', hL, e1, e2, ⟨ho9, hP1, hF⟩, stp⟩ | ⟨q, st₀, t, T', L', E, ce, h0, X', hL, e1, e2, hE, hce, hcv, hcl, stp⟩
  · cases ho9
    have hk : ∀ q : Nat, q < H.size → ¬ zO (z_o z) H.size q → T'.heap[q]? = H[q]? := fun q h1 h2 => by rw [e1, hF.2 q (by rw [h0]; exact h1) h2, h0]
    have hz : H.size ≤ T'.heap.size := by rw [e1]; have := hF.1; rw [h0] at this; exact this
    have hA : ∀ q, zO (z_o z) H.size q → z_A z q := fun q hq => hq.elim (fun e => by rw [e]; exact hoA) (fun y => Nat.le_trans hS.1 y)
    have m1 : va_P (z_D z) vwCl (z_w1 z M ++ (z_w2 z N ++ z_w3 z (vE9 r v))) T'.heap := by
      rw [← List.append_assoc]
      refine va_P.app2 (hP12.left.keptF (fun k q hq => hk q.1 (hP12.left k q hq).lt (fun y => ?_))) (by rw [e1]; exact hP1)
      rcases y with y | y
      · exact hD12.app_ne hq (show (z_w3 z v)[0]? = some (rowE (z_D z) (z_o z) v) from rfl) y
      · have := (hP12.left k q hq).lt
        omega
    have m2 : va_D (z_A z) (z_w1 z M ++ (z_w2 z N ++ z_w3 z (vE9 r v))) := hD.same (by simp only [List.map_append]; rfl)
    obtain ⟨t2, a1, b1⟩ := kk T'.heap (locs ++ L') ls m1 m2
      ⟨Nat.le_trans hS.1 hz, fun q h1 h2 => by rw [hk q (Nat.lt_of_lt_of_le h1 hS.1) (fun y => h2 (hA q y))]; exact hS.2.1 q h1 h2, fun q hq => by
        rcases List.mem_append.mp hq with h | h
        · exact hS.2.2 q h
        · exact hA _ (hL q h)⟩ hl7 T' rfl X'
    exact ⟨t2, stp t2 a1, b1⟩
  · exact hE.elim
theorem l_lald (C : CtL z) (d : decode code pc = .ok (.laload, 1)) (k : JL z cs ss M N v (pc + 1) L (.long v :: st)) : JL z cs ss M N v pc L (.int 0 :: .ref (z_o z) :: st) := fun H locs ls hP hD hS h => by
  have hP12 : va_P (z_D z) vwCl ((z_w1 z M ++ z_w2 z N) ++ z_w3 z v) H := by rw [List.append_assoc]; exact hP
  have hK5 : va_K (z_D z) vwCl [((z_D z).1 105, .long)] (z_s z) := C.2.2.2.2.2.1.sub [5] rfl
  exact va_lald (ws := z_w3 z v) C.1 C.2.1 hK5 hP12.right 0 0 rfl rfl (show ¬ ((0 : Int32) < 0 ∨ 1 ≤ (0 : Int32).toNatClampNeg) by decide) d (k H locs ls hP hD hS h)
theorem ln_w : ∀ w ∈ [Cond.methodLink R_law 122 yX11_entry, Cond.instanceMethod yX11_entry, Cond.selects RX11 yX11_entry yX11_entry, Cond.initialized RX11, Cond.code yX11_entry cX11_entry 3 (some .int), Cond.methodLink R_law 123 yX11_thrown, Cond.instanceMethod yX11_thrown, Cond.selects RX11 yX11_thrown yX11_thrown, Cond.code yX11_thrown cX11_thrown 1 (some .int)], w ∈ bW := by
  intro w hw
  exact List.mem_filter.mpr ⟨(show ∀ w ∈ [Cond.methodLink R_law 122 yX11_entry, Cond.instanceMethod yX11_entry, Cond.selects RX11 yX11_entry yX11_entry, Cond.initialized RX11, Cond.code yX11_entry cX11_entry 3 (some .int), Cond.methodLink R_law 123 yX11_thrown, Cond.instanceMethod yX11_thrown, Cond.selects RX11 yX11_thrown yX11_thrown, Cond.code yX11_thrown cX11_thrown 1 (some .int)], w ∈ lw_tbl by decide +kernel) w hw, (show ∀ w ∈ [Cond.methodLink R_law 122 yX11_entry, Cond.instanceMethod yX11_entry, Cond.selects RX11 yX11_entry yX11_entry, Cond.initialized RX11, Cond.code yX11_entry cX11_entry 3 (some .int), Cond.methodLink R_law 123 yX11_thrown, Cond.instanceMethod yX11_thrown, Cond.selects RX11 yX11_thrown yX11_thrown, Cond.code yX11_thrown cX11_thrown 1 (some .int)], goodWord w = true by decide +kernel) w hw⟩
theorem ln_wi (i : Nat) {w : Cond} (h : [Cond.methodLink R_law 122 yX11_entry, Cond.instanceMethod yX11_entry, Cond.selects RX11 yX11_entry yX11_entry, Cond.initialized RX11, Cond.code yX11_entry cX11_entry 3 (some .int), Cond.methodLink R_law 123 yX11_thrown, Cond.instanceMethod yX11_thrown, Cond.selects RX11 yX11_thrown yX11_thrown, Cond.code yX11_thrown cX11_thrown 1 (some .int)][i]? = some w) : w ∈ bW := ln_w w (List.mem_of_getElem? h)
set_option maxRecDepth 20000 in
set_option maxHeartbeats 4000000 in
theorem lk_entry (C : CtL z) (hl : (z_l z).stackTraces = false) {sb : Nat × Nat} (hX : EX sb (z_A z) (z_s z) (z_s z).heap) (hc : cs + 1 ≤ 601024 ∧ ss + 6 ≤ 7293034) (x4 : Int32) (h1 : vp_in (x4 + 1) (z_L z)) (h2 : vp_in (x4 + 2) (z_L z)) {r : Option Int32} {b : Int32} {N1 : xM} (hf : f_X10_entry M (z_x z (x4 + 1).toNatClampNeg) (z_x z (x4 + 2).toNatClampNeg) = some r) (hg : f_X11_entry N (z_x z (x4 + 1).toNatClampNeg) (z_x z (x4 + 2).toNatClampNeg) = some (b, N1)) (ht : f_X11_thrown N1 = some (kE9 r)) (hv : ∀ a, r = some a → b = a)
    (kk : JL z (cs + 1) (ss + 6) M N1 (vE9 r v) 2130 [(0, .ref (z_b z)), (1, .ref (z_1 z 0)), (2, .ref (z_2 z 0)), (3, .ref (z_o z)), (4, .int x4)] []) : JL z cs ss M N v 1171 [(0, .ref (z_b z)), (1, .ref (z_1 z 0)), (2, .ref (z_2 z 0)), (3, .ref (z_o z)), (4, .int x4)] [] := by
  refine l_aload_n C 1 dL_law_1171 rfl rfl ?_
  refine l_aload_n C 0 dL_law_1172 rfl rfl ?_
  refine l_iload C 4 dL_law_1173 rfl ?_
  refine l_iconst (w := 1) C dL_law_1175 rfl ?_
  refine l_iadd C dL_law_1176 ?_
  refine l_sld C h1 dL_law_1177 ?_
  refine l_aload_n C 0 dL_law_1178 rfl rfl ?_
  refine l_iload C 4 dL_law_1179 rfl ?_
  refine l_iconst (w := 2) C dL_law_1181 rfl ?_
  refine l_iadd C dL_law_1182 ?_
  refine l_sld C h2 dL_law_1183 ?_
  refine l_aload_n C 3 dL_law_1184 rfl rfl ?_
  refine l_callE C hl hX hf hc dL_law_1185 rfl (Nat.le_of_ble_eq_true rfl) ?_
  refine l_istore C ((5, .int (kE9 r)) :: [(0, .ref (z_b z)), (1, .ref (z_1 z 0)), (2, .ref (z_2 z 0)), (3, .ref (z_o z)), (4, .int x4)]) dL_law_1188 (by decide) rfl ?_
  refine l_aload_n C 3 dL_law_1190 rfl rfl ?_
  refine l_aload_n C 1 dL_law_1191 rfl rfl ?_
  refine l_iload C 5 dL_law_1192 rfl ?_
  refine l_iconst (w := 1) C dL_law_1194 rfl ?_
  refine l_iadd C dL_law_1195 ?_
  refine l_sld C h1 dL_law_1196 ?_
  refine l_aload_n C 1 dL_law_1197 rfl rfl ?_
  refine l_iload C 5 dL_law_1198 rfl ?_
  refine l_iconst (w := 2) C dL_law_1200 rfl ?_
  refine l_iadd C dL_law_1201 ?_
  refine l_sld C h2 dL_law_1202 ?_
  refine l_callM C (As := [.int (z_x z (x4 + 1).toNatClampNeg), .int (z_x z (x4 + 2).toNatClampNeg)]) (nn := 2) (m_X11_entry _ _ _ N _ _ hg) ⟨ln_wi 0 rfl, ln_wi 1 rfl, ln_wi 2 rfl, ln_wi 3 rfl, ln_wi 4 rfl⟩ ⟨rfl, by decide +kernel, by decide +kernel, by decide +kernel⟩ ⟨rfl, rfl, Nat.le_of_ble_eq_true rfl, Nat.le_of_ble_eq_true rfl⟩ hc rfl rfl (Nat.le_of_ble_eq_true rfl) dL_law_1203 ?_
  refine l_istore C ((6, .int b) :: (5, .int (kE9 r)) :: [(0, .ref (z_b z)), (1, .ref (z_1 z 0)), (2, .ref (z_2 z 0)), (3, .ref (z_o z)), (4, .int x4)]) dL_law_1206 (by decide) rfl ?_
  refine l_aload_n C 4 dL_law_1208 rfl rfl ?_
  refine l_callM C (As := []) (nn := 0) (m_X11_thrown _ _ _ N1 ht) ⟨ln_wi 5 rfl, ln_wi 6 rfl, ln_wi 7 rfl, ln_wi 3 rfl, ln_wi 8 rfl⟩ ⟨rfl, by decide +kernel, by decide +kernel, by decide +kernel⟩ ⟨rfl, rfl, Nat.le_of_ble_eq_true rfl, Nat.le_of_ble_eq_true rfl⟩ hc rfl rfl (Nat.le_of_ble_eq_true rfl) dL_law_1209 ?_
  refine l_iload C 1 dL_law_1212 rfl ?_
  refine l_icmp_eq C 1219 dL_law_1214 (by decide) (fun _ => ?_) (fun q => absurd rfl q)
  refine l_iload C 1 dL_law_1219 rfl ?_
  have kk' : JL z (cs + 1) (ss + 6) M N1 (vE9 r v) 1236 ((6, .int b) :: (5, .int (kE9 r)) :: [(0, .ref (z_b z)), (1, .ref (z_1 z 0)), (2, .ref (z_2 z 0)), (3, .ref (z_o z)), (4, .int x4)]) [] := l_goto C 2130 dL_law_1236 (by decide) (l_sub [2, 3, 4, 5, 6] rfl kk)
  refine l_if_ne C 1236 dL_law_1221 (by decide) (fun _ => kk') (fun q => ?_)
  cases r with
  | none => exact absurd q (by decide)
  | some a =>
    rw [hv a rfl] at kk' ⊢
    refine l_aload_n C 5 dL_law_1224 rfl rfl ?_
    refine l_iconst (w := 0) C dL_law_1225 rfl ?_
    refine l_lald C dL_law_1226 ?_
    refine l_iload C 0 dL_law_1227 rfl ?_
    refine l_i2l C dL_law_1229 ?_
    refine l_lcmp C dL_law_1230 ?_
    refine l_if_eq C 1236 dL_law_1231 (by decide) (fun _ => kk') (fun q => absurd ?_ q)
    show lg_cmp a.toInt64 a.toInt64 = 0
    simp [lg_cmp]
end LKE
