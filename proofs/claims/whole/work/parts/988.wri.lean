/-! the law's step of 'written' -/
theorem sw_1 : (Jvm.Cond.initialized "GuardRolls") ∈ bW := bw_of 86 (by decide +kernel) (by decide +kernel)
theorem sw_11 : (Jvm.Cond.initialized "GuardRollsModel") ∈ bW := bw_of 96 (by decide +kernel) (by decide +kernel)
theorem sw_930 : (Jvm.Cond.methodLink "GuardRollsLaw" (206 : Nat) ({ cls := "GuardRolls", name := "written", desc := "(I)I" } : Jvm.MethodName)) ∈ bW := bw_of 1015 (by decide +kernel) (by decide +kernel)
theorem sw_931 : (Jvm.Cond.instanceMethod ({ cls := "GuardRolls", name := "written", desc := "(I)I" } : Jvm.MethodName)) ∈ bW := bw_of 1016 (by decide +kernel) (by decide +kernel)
theorem sw_932 : (Jvm.Cond.selects "GuardRolls" ({ cls := "GuardRolls", name := "written", desc := "(I)I" } : Jvm.MethodName) ({ cls := "GuardRolls", name := "written", desc := "(I)I" } : Jvm.MethodName)) ∈ bW := bw_of 1017 (by decide +kernel) (by decide +kernel)
theorem sw_933 : (Jvm.Cond.code ({ cls := "GuardRolls", name := "written", desc := "(I)I" } : Jvm.MethodName) prog_1_method_46_code (3 : Nat) (Option.some Jvm.ClassFile.FieldType.int)) ∈ bW := bw_of 1018 (by decide +kernel) (by decide +kernel)
theorem sw_1799 : (Jvm.Cond.methodLink "GuardRollsLaw" (209 : Nat) ({ cls := "GuardRollsModel", name := "written", desc := "(I)I" } : Jvm.MethodName)) ∈ bW := bw_of 1884 (by decide +kernel) (by decide +kernel)
theorem sw_1800 : (Jvm.Cond.instanceMethod ({ cls := "GuardRollsModel", name := "written", desc := "(I)I" } : Jvm.MethodName)) ∈ bW := bw_of 1885 (by decide +kernel) (by decide +kernel)
theorem sw_1801 : (Jvm.Cond.selects "GuardRollsModel" ({ cls := "GuardRollsModel", name := "written", desc := "(I)I" } : Jvm.MethodName) ({ cls := "GuardRollsModel", name := "written", desc := "(I)I" } : Jvm.MethodName)) ∈ bW := bw_of 1886 (by decide +kernel) (by decide +kernel)
theorem sw_1802 : (Jvm.Cond.code ({ cls := "GuardRollsModel", name := "written", desc := "(I)I" } : Jvm.MethodName) prog_13_method_111_code (3 : Nat) (Option.some Jvm.ClassFile.FieldType.int)) ∈ bW := bw_of 1887 (by decide +kernel) (by decide +kernel)
theorem of_O {D : va_G} {cl : List vw_C} {ws : va_W} {H : Heap} {s : State} {tys : List (ClassId × FieldType)} {A : Nat → Prop} {a q0 ci : Nat} {q : vw_C} {fs : List Value} (hK : va_K D cl tys s) (hP : va_P D cl ws H) (he : ws[q0]? = some (a, .inr (ci, fs))) (hc : cl[ci]? = some q) (hA : ¬ A a) : va_O q.1 a A s H := by
  obtain ⟨cell, h1, h2, h3⟩ := va_recv hK hP hc he
  exact ⟨cell, h1, h2, h3, hA⟩
theorem of_OF {D : va_G} {cl : List vw_C} {ws : va_W} {H : Heap} {s : State} {args : Array Value} {tys : List (ClassId × FieldType)} {Ts : List Cond} {A : Nat → Prop} {a q0 ci : Nat} {C : String} {T : u_T} {N : Nat} {fs : List Value} (hts : ∀ w ∈ Ts, w.before args s = true) (hin : ∀ w ∈ u_ws C T N, w ∈ Ts) (hK : va_K D cl tys s) (hP : va_P D cl ws H) (he : ws[q0]? = some (a, .inr (ci, fs))) (hc : cl[ci]? = some (C, T, N)) (k : Nat) (hk : k < N) {v : Value} (hv : fs[k]? = some v) (hA : ¬ A a) : va_OF (T k).1 (T k).2.1 (T k).2.2.1 v a A s H := by
  obtain ⟨r, h1, cell, q1, q2, q3, q4⟩ := hP q0 _ he
  have hr : r = (C, T, N) := Option.some.inj (h1.symm.trans hc)
  subst hr
  obtain ⟨hS, hfc, kC, hkC, hkind⟩ := hK.1 ci _ hc
  obtain ⟨cf, kf, fi, f, hi, hsl⟩ := hS k hk
  refine ⟨cf, kf, fi, f, cell, hi, (u_facts hfc hkC (u_lays hts hin hk) hi).1, q1, (by rw [q3]; exact fun h => by cases h), ?_, hA⟩
  rw [hsl, q4 k hk]
  simp [vp_V, hv]
theorem of_T {D : va_G} {cl : List vw_C} {ws : va_W} {H : Heap} {s : State} {tys : List (ClassId × FieldType)} {A : Nat → Prop} {a q0 t0 n : Nat} {cA : ClassId} {ty : FieldType} {f : Nat → Int32} (hK : va_K D cl tys s) (hP : va_P D cl ws H) (he : ws[q0]? = some (a, .inl (cA, n, .inl f))) (ht : tys[t0]? = some (cA, ty)) (hA : ¬ A a) : va_T ty a n (fun j => .int (f j)) A s H := by
  have h0 : H[a]? = some (arrV cA n (fun j => .int (f j))) := hP q0 _ he
  exact ⟨_, h0, (hK.2 t0 _ ht).1 n (fun j => .int (f j)), (fun q => by cases q), (by rw [arrV_size] <;> exact Nat.le_refl _), (by rw [arrV_size] <;> rfl), (fun j hj => arrV_read _ _ hj), hA⟩
def WX (z : xL) : Prop := va_K (z_D z) vwCl [((z_D z).1 106, .byte)] (z_s z) ∧ NK (z_s z) ∧ (∀ w ∈ bG, w.before #[Value.ref (z_b z)] (z_s z) = true) ∧
  (va_Z RJ6 "DigitOnes" "[B" (.ref (z_1 z 1060)) (z_A z) (z_s z) (z_s z).heap ∧ va_T .byte (z_1 z 1060) 100 (fun j => .int (dOne j)) (z_A z) (z_s z) (z_s z).heap) ∧
  (va_Z RJ6 "DigitTens" "[B" (.ref (z_1 z 1061)) (z_A z) (z_s z) (z_s z).heap ∧ va_T .byte (z_1 z 1061) 100 (fun j => .int (dTen j)) (z_A z) (z_s z) (z_s z).heap)
section WRI
variable {z : xL} {cs ss : Nat} {M N : xM} {v : Int64} {pc : Nat} {L : List (Nat × Value)} {st : List Value}
theorem g_lpre (C : CtL z) (hX : WX z) {args : List Value} {H : Heap} {locs : List Loc} (hP : va_P (z_D z) vwCl (z_w1 z M ++ (z_w2 z N ++ z_w3 z v)) H) (hS : va_S (z_A z) (z_s z).heap H locs) (U : State) (hU : U.heap = H) (hW : (z_s z).WarmedH U.vm) : va_Pc args (gX (z_D z) (z_1 z) M H.size []) args.toArray U := by
  have hK : va_K (z_D z) vwCl (tyC (z_D z).1) (z_s z) := C.2.2.2.2.2.1.sub [0, 1, 2, 3, 4] rfl
  have hPm : va_P (z_D z) vwCl (z_w1 z M) H := va_P.midl (wa := []) hP
  have hA : ∀ k, k < 177 → ¬ (H.size ≤ z_1 z k) := fun k hk => Nat.not_le.mpr (hPm k _ (xW_get hk)).lt
  have nar : ∀ q, H.size ≤ q → z_A z q := fun q hq => Nat.le_trans hS.1 hq
  refine ⟨rfl, ⟨by rw [hU]; rfl, (fun k q hq => by rw [show xl H.size [] = [] from rfl] at hq; cases hq), va_K.moved hW.alike C.2.2.2.2.2.1, NW.warm hW C.2.2.2.2.2.2.2.2.2.2.1.1, NK.warm hW hX.2.1, ?_⟩, va_K.moved hW.alike hX.1, ?_⟩
  · rw [hU]
    exact ((C.2.2.2.2.2.2.2.2.2.2.1.2.kept (fun a h1 h2 => hS.2.1 a h1 h2)).moved hW.alike).narrow nar
  · rw [hU]
    have kd : ∀ a : Nat, a < (z_s z).heap.size → ¬ z_A z a → H[a]? = (z_s z).heap[a]? := fun a h1 h2 => hS.2.1 a h1 h2
    have hG : GF (z_1 z) M (fun q => H.size ≤ q) (z_s z) H := ⟨⟨(hX.2.2.2.1.1.kept kd).narrow nar, (hX.2.2.2.1.2.kept kd).narrow nar⟩, ⟨(hX.2.2.2.2.1.kept kd).narrow nar, (hX.2.2.2.2.2.kept kd).narrow nar⟩,
      of_O (q := (RX1, TX1, 11)) (q0 := 17) (ci := 2) hK hPm ((xW_get (by decide)).trans (by rw [sh_17])) rfl (hA 17 (by decide)),
      of_OF (C := RX10) (T := TX10) (N := 10) (q0 := 0) (ci := 10) C.2.2.2.2.1 hin_X10 hK hPm ((xW_get (by decide)).trans (by rw [sh_0])) rfl 2 (by decide) rfl (hA 0 (by decide)),
      of_OF (C := RX1) (T := TX1) (N := 11) (q0 := 17) (ci := 2) C.2.2.2.2.1 hin_X1 hK hPm ((xW_get (by decide)).trans (by rw [sh_17])) rfl 0 (by decide) rfl (hA 17 (by decide)),
      of_T (q0 := 18) (t0 := 0) hK hPm ((xW_get (by decide)).trans (by rw [sh_18])) rfl (hA 18 (by decide))⟩
    exact hG.moved hW.alike
/-- a call of the class that makes cells and leaves the worlds as they are -/
theorem l_callG (C : CtL z) (hX : WX z) {y : MethodName} {ccy : ByteArray} {ny idx nn f w mc ms : Nat} {rt : Option FieldType} {As : List Value} {rv : Option Value} {es1 : Nat → List va_E} {st0 : List Value}
    (hM : ∀ b : Nat, gMet (z_l z) y ccy ny rt f w (.ref (z_1 z 0) :: As) (z_D z) (z_1 z) M b [] rv (es1 b) mc ms)
    (hw : Cond.methodLink R_law idx y ∈ bW ∧ Cond.instanceMethod y ∈ bW ∧ Cond.selects RX10 y y ∈ bW ∧ Cond.initialized RX10 ∈ bW ∧ Cond.code y ccy ny rt ∈ bW) (hd : y.cls = RX10 ∧ okD y nn) (hR : f + 1 ≤ 14 ∧ 8 + (ny + 11) + w ≤ 546) (hc : cs + mc ≤ 601024 ∧ ss + ms ≤ 7293034)
    (hn : As.length = nn) (hst : st0 = As.reverse ++ .ref (z_1 z 0) :: st) (hcat : (st.map fun v => v.category).sum ≤ 8) (d : decode code pc = .ok (.invokevirtual idx, 3))
    (kk : JL z (cs + mc) (ss + ms) M N v (pc + 3) L (rv.toList ++ st)) : JL z cs ss M N v pc L st0 := by
  obtain ⟨w1, w2, w3, w4, w5⟩ := hw
  have htx : ∀ w ∈ bX, w.before #[Value.ref (z_b z)] (z_s z) = true := fun w h => (List.mem_append.mp h).elim (hX.2.2.1 w) (C.2.2.2.2.1 w)
  intro H locs ls hP hD hS hl T hT X
  have hK : va_K (z_D z) vwCl (tyC (z_D z).1) (z_s z) := C.2.2.2.2.2.1.sub [0, 1, 2, 3, 4] rfl
  have hPm : va_P (z_D z) vwCl (z_w1 z M) H := va_P.midl (wa := []) hP
  have hrun := va_runV (p := z_p z) (l := z_l z) (e := z_e z) (R := room_1) (s := z_s z) (m := z_m z) (args := #[Value.ref (z_b z)]) (below := z_be z) (meth := z_me z) (c := z_c z) (H := H) (locs := locs) (cells := cs) (slots := ss) (g := F0 (z_m z) pc ls st0) (Ts := bX) (As := As) (rest := st) (nL := 7) ⟨C.1, C.2.1, C.2.2.1, C.2.2.2.1, htx⟩ (hM H.size) (cwV nn htx (bx_good (fun w h => by
    simp only [wsV, List.mem_append, List.mem_cons, List.not_mem_nil, or_false] at h
    rcases h with (rfl | rfl | rfl | rfl) | rfl | h <;> first | assumption | (refine bx_W ?_; assumption))) rfl rfl rfl hd hR) ⟨gX_blind, va_recv (q := (RX10, TX10, 10)) hK hPm (q0 := 0) (ci := 10) rfl ((xW_get (by decide)).trans (by rw [sh_0])), fun U hU hW => g_lpre C hX hP hS U hU hW⟩ rfl hn hl.1 hst (by simpa [JFrame.monitorRoom] using hcat) d hc
  obtain ⟨w, st₀, t, T', L', h0, X', hL, e2, e3, ⟨hv, hz1, hP1, hz2, hk⟩, stp⟩ := hrun T hT X
  cases hv
  rw [h0] at hz2 hk
  have hk2 : ∀ q : Nat, q < H.size → T'.heap[q]? = H[q]? := fun q hq => by rw [e2]; exact hk q hq (by omega)
  obtain ⟨t2, a1, b1⟩ := kk T'.heap (locs ++ L') ls (hP.keptF (fun k q hq => hk2 q.1 (hP k q hq).lt)) hD
    ⟨Nat.le_trans hS.1 (by rw [e2]; exact hz2), fun q h1 h2 => by rw [hk2 q (Nat.lt_of_lt_of_le h1 hS.1)]; exact hS.2.1 q h1 h2, fun q hq => by
      rcases List.mem_append.mp hq with h | h
      · exact hS.2.2 q h
      · exact Nat.le_trans hS.1 (hL q h)⟩ hl T' rfl X'
  exact ⟨t2, stp t2 a1, b1⟩
end WRI
set_option maxRecDepth 20000 in
theorem wri {z : xL} (C : CtL z) (hX : WX z) : Wri z := by
  intro M N hR v cs ss x4 h1 hc kk
  obtain ⟨R, r, N1, g1, g2, g3, g4⟩ := c_written hR (z_x z (x4 + 1).toNatClampNeg)
  obtain ⟨q1, q2, q3, q4⟩ := g4 (z_D z).1
  have hsz := bAll_sz (z_D z).1 R (fun k hk => (g1 k hk).2)
  refine l_aload_n C 1 dL_law_1979 rfl rfl ?_
  refine l_aload_n C 0 dL_law_1980 rfl rfl ?_
  refine l_iload C 4 dL_law_1981 rfl ?_
  refine l_iconst (w := 1) C dL_law_1983 rfl ?_
  refine l_iadd C dL_law_1984 ?_
  refine l_sld C h1 dL_law_1985 ?_
  refine l_callG C hX (As := [.int (z_x z (x4 + 1).toNatClampNeg)]) (nn := 1) (fun b => sm_written _ _ _ M b g1 _ (T := fun j => (tA R 7).getD j 0) (r := r) q1 q2 q3 q4) ⟨sw_930, sw_931, sw_932, sw_1, sw_933⟩ ⟨rfl, by decide +kernel, by decide +kernel, by decide +kernel⟩ ⟨Nat.le_of_ble_eq_true rfl, Nat.le_of_ble_eq_true rfl⟩ ⟨by have := hc.1; omega, by have := hc.2; omega⟩ rfl rfl (Nat.le_of_ble_eq_true rfl) dL_law_1986 ?_
  refine l_aload_n C 2 dL_law_1989 rfl rfl ?_
  refine l_aload_n C 0 dL_law_1990 rfl rfl ?_
  refine l_iload C 4 dL_law_1991 rfl ?_
  refine l_iconst (w := 1) C dL_law_1993 rfl ?_
  refine l_iadd C dL_law_1994 ?_
  refine l_sld C h1 dL_law_1995 ?_
  refine l_callM C (As := [.int (z_x z (x4 + 1).toNatClampNeg)]) (nn := 1) (m_X11_written _ _ _ N (z_x z (x4 + 1).toNatClampNeg) g2) ⟨sw_1799, sw_1800, sw_1801, sw_11, sw_1802⟩ ⟨rfl, by decide +kernel, by decide +kernel, by decide +kernel⟩ ⟨rfl, rfl, Nat.le_of_ble_eq_true rfl, Nat.le_of_ble_eq_true rfl⟩ ⟨by have := hc.1; omega, by have := hc.2; omega⟩ rfl rfl (Nat.le_of_ble_eq_true rfl) dL_law_1996 ?_
  exact l_icmp_eq C 2130 dL_law_1999 (by decide) (fun _ => kk _ _ _ _ _ (hR.sn g3) (by omega) (by omega)) (fun q => absurd rfl q)
