def bl_J7_fill23_5 (M : xM) (x1 : Int32) (x2 : Int32) (x3 : Int32) : Option ((xM × Int32) ⊕ (xM)) :=
  if x3 ≤ x2 then some (.inr M) else gd x2 80 (lt (uM M 23 x2.toNatClampNeg x1) (fun M_3 => lt (x2 + (1 : Int32)) (fun y_4 => some (.inl (M_3, y_4)))))
set_option maxRecDepth 20000 in
set_option maxHeartbeats 2000000 in
theorem wl_J7_fill23_5 {x : xC} (C : CtC x RJ7 cJ7_fill_53178 4 ({ frames := 0, cells := 0, slots := 0, locals := 0 } : Room)) (M : xM) (x1 : Int32) (x2 : Int32) (x3 : Int32)  (o : (xM × Int32) ⊕ (xM)) (h : bl_J7_fill23_5 M x1 x2 x3 = some o) (kh : ∀ s : xM × Int32, o = .inl s → J x s.1 5 [(0, .ref (x_ad x 23)), (1, .int x1), (2, .int s.2), (3, .int x3)] []) (ke_0 : ∀ v : xM, o = .inr v → J x v 20 [] []) : J x M 5 [(0, .ref (x_ad x 23)), (1, .int x1), (2, .int x2), (3, .int x3)] [] := by
  unfold bl_J7_fill23_5 at h
  refine r_iload_n C.1 2 dJ7_fill_53178_5 rfl rfl ?_
  refine r_iload_n C.1 3 dJ7_fill_53178_6 rfl rfl ?_
  refine r_icmp_ge C.1 20 dJ7_fill_53178_7 (by decide) (fun c_1 => ?_) (fun c_1 => ?_)
  · replace h := ite_T c_1 h
    exact r_sub [] rfl (ke_0 _ (Option.some.inj h).symm)
  · replace h := ite_F c_1 h
    refine r_aload_n C.1 0 dJ7_fill_53178_10 rfl rfl ?_
    refine r_iload_n C.1 2 dJ7_fill_53178_11 rfl rfl ?_
    refine r_iload_n C.1 1 dJ7_fill_53178_12 rfl rfl ?_
    obtain ⟨q_2, h⟩ := gd_E h
    obtain ⟨M_3, eM_3, h⟩ := lt_E h
    refine r_iast C.1 (cK C (by decide)) (cS C (sh_23)) 0 (cT0 C) q_2 eM_3 dJ7_fill_53178_13 ?_
    obtain ⟨y_4, ey_4, h⟩ := lt_E h
    refine r_iinc C.1 2 [(2, .int y_4), (0, .ref (x_ad x 23)), (1, .int x1), (3, .int x3)] dJ7_fill_53178_14 rfl ey_4 (by decide) rfl ?_
    refine r_goto C.1 5 dJ7_fill_53178_17 (by decide) ?_
    exact r_sub [1, 2, 0, 3] rfl (kh _ (Option.some.inj h).symm)

def b_J7_fill23_5 (M : xM) (x1 : Int32) (x2 : Int32) (x3 : Int32) : Option (xM) :=
  bd (loopN (fun s : xM × Int32 => bl_J7_fill23_5 s.1 x1 s.2 x3) BG (M, x2)) (fun v => some v)
set_option maxRecDepth 20000 in
set_option maxHeartbeats 2000000 in
theorem w_J7_fill23_5 {x : xC} (C : CtC x RJ7 cJ7_fill_53178 4 ({ frames := 0, cells := 0, slots := 0, locals := 0 } : Room)) (M : xM) (x1 : Int32) (x2 : Int32) (x3 : Int32)  (o : xM) (h : b_J7_fill23_5 M x1 x2 x3 = some o) (hr : (x_me x).sig.returnType = none) (ev : x_rv x = none) (eM : x_M x = o) : J x M 5 [(0, .ref (x_ad x 23)), (1, .int x1), (2, .int x2), (3, .int x3)] [] := by
  unfold b_J7_fill23_5 at h
  obtain ⟨r_0, hr_0, h⟩ := bd_E h
  refine loopN_ind (JJ := fun s => J x s.1 5 [(0, .ref (x_ad x 23)), (1, .int x1), (2, .int s.2), (3, .int x3)] []) (KX := fun q => q = r_0) ?_ BG (M, x2) r_0 hr_0 rfl
  intro s o1 hb kk1 kk2
  refine wl_J7_fill23_5 C s.1 x1 s.2 x3 _ hb kk1 ?_
  · intro v e0
    have e1 := kk2 _ e0
    subst e1
    obtain rfl := Option.some.inj h
    exact r_vret C.1 hr ev eM dJ7_fill_53178_20

def b_J7_fill23_0 (M : xM) (x1 : Int32) : Option (xM) :=
  b_J7_fill23_5 M x1 (0 : Int32) (80 : Int32)
set_option maxRecDepth 20000 in
set_option maxHeartbeats 2000000 in
theorem w_J7_fill23_0 {x : xC} (C : CtC x RJ7 cJ7_fill_53178 4 ({ frames := 0, cells := 0, slots := 0, locals := 0 } : Room)) (M : xM) (x1 : Int32)  (o : xM) (h : b_J7_fill23_0 M x1 = some o) (hr : (x_me x).sig.returnType = none) (ev : x_rv x = none) (eM : x_M x = o) : J x M 0 [(0, .ref (x_ad x 23)), (1, .int x1)] [] := by
  unfold b_J7_fill23_0 at h
  refine r_iconst (v := 0) C.1 dJ7_fill_53178_0 rfl ?_
  refine r_istore_n C.1 [(2, .int (0 : Int32)), (0, .ref (x_ad x 23)), (1, .int x1)] dJ7_fill_53178_1 rfl (by decide) rfl rfl ?_
  refine r_aload_n C.1 1 dJ7_fill_53178_2 rfl rfl ?_
  refine r_alen C.1 (cK C (by decide)) (cS C (sh_23)) 0 (cT0 C) (v := 80) rfl dJ7_fill_53178_3 ?_
  refine r_istore_n C.1 [(3, .int (80 : Int32)), (2, .int (0 : Int32)), (0, .ref (x_ad x 23)), (1, .int x1)] dJ7_fill_53178_4 rfl (by decide) rfl rfl ?_
  exact r_sub [2, 3, 1, 0] rfl (w_J7_fill23_5 C M x1 (0 : Int32) (80 : Int32) _ h hr ev eM)
def f_J7_fill23 (M : xM) (x1 : Int32) : Option (xM) := b_J7_fill23_0 M x1
set_option maxRecDepth 20000 in
theorem m_J7_fill23 (l : Launch) (D : va_G) (ad : Nat → Nat) (M : xM) (x1 : Int32)  {o : xM} (h : f_J7_fill23 M x1 = some o) : xMetC l yJ7_fill_53178 cJ7_fill_53178 4 none ({ frames := 0, cells := 0, slots := 0, locals := 0 } : Room) [.ref (ad 23), .int x1] D ad M none o := by
  refine xMetC_of (own := RJ7) (by decide) rfl (Nat.le_of_ble_eq_true rfl) ?_
  intro x C e1 e2 e3 ev eM hr
  subst e1; subst e2; subst e3
  refine r_sub (L := [(0, .ref (x_ad x 23)), (1, .int x1)]) (L' := [(0, .ref (x_ad x 23)), (1, .int x1)]) [0, 1] rfl ?_
  exact w_J7_fill23_0 C M x1 _ h hr ev eM

def bl_J7_fill12_5 (M : xM) (x1 : Int32) (x2 : Int32) (x3 : Int32) : Option ((xM × Int32) ⊕ (xM)) :=
  if x3 ≤ x2 then some (.inr M) else gd x2 720 (lt (uM M 12 x2.toNatClampNeg x1) (fun M_3 => lt (x2 + (1 : Int32)) (fun y_4 => some (.inl (M_3, y_4)))))
set_option maxRecDepth 20000 in
set_option maxHeartbeats 2000000 in
theorem wl_J7_fill12_5 {x : xC} (C : CtC x RJ7 cJ7_fill_53178 4 ({ frames := 0, cells := 0, slots := 0, locals := 0 } : Room)) (M : xM) (x1 : Int32) (x2 : Int32) (x3 : Int32)  (o : (xM × Int32) ⊕ (xM)) (h : bl_J7_fill12_5 M x1 x2 x3 = some o) (kh : ∀ s : xM × Int32, o = .inl s → J x s.1 5 [(0, .ref (x_ad x 12)), (1, .int x1), (2, .int s.2), (3, .int x3)] []) (ke_0 : ∀ v : xM, o = .inr v → J x v 20 [] []) : J x M 5 [(0, .ref (x_ad x 12)), (1, .int x1), (2, .int x2), (3, .int x3)] [] := by
  unfold bl_J7_fill12_5 at h
  refine r_iload_n C.1 2 dJ7_fill_53178_5 rfl rfl ?_
  refine r_iload_n C.1 3 dJ7_fill_53178_6 rfl rfl ?_
  refine r_icmp_ge C.1 20 dJ7_fill_53178_7 (by decide) (fun c_1 => ?_) (fun c_1 => ?_)
  · replace h := ite_T c_1 h
    exact r_sub [] rfl (ke_0 _ (Option.some.inj h).symm)
  · replace h := ite_F c_1 h
    refine r_aload_n C.1 0 dJ7_fill_53178_10 rfl rfl ?_
    refine r_iload_n C.1 2 dJ7_fill_53178_11 rfl rfl ?_
    refine r_iload_n C.1 1 dJ7_fill_53178_12 rfl rfl ?_
    obtain ⟨q_2, h⟩ := gd_E h
    obtain ⟨M_3, eM_3, h⟩ := lt_E h
    refine r_iast C.1 (cK C (by decide)) (cS C (sh_12)) 0 (cT0 C) q_2 eM_3 dJ7_fill_53178_13 ?_
    obtain ⟨y_4, ey_4, h⟩ := lt_E h
    refine r_iinc C.1 2 [(2, .int y_4), (0, .ref (x_ad x 12)), (1, .int x1), (3, .int x3)] dJ7_fill_53178_14 rfl ey_4 (by decide) rfl ?_
    refine r_goto C.1 5 dJ7_fill_53178_17 (by decide) ?_
    exact r_sub [1, 2, 0, 3] rfl (kh _ (Option.some.inj h).symm)

def b_J7_fill12_5 (M : xM) (x1 : Int32) (x2 : Int32) (x3 : Int32) : Option (xM) :=
  bd (loopN (fun s : xM × Int32 => bl_J7_fill12_5 s.1 x1 s.2 x3) BG (M, x2)) (fun v => some v)
set_option maxRecDepth 20000 in
set_option maxHeartbeats 2000000 in
theorem w_J7_fill12_5 {x : xC} (C : CtC x RJ7 cJ7_fill_53178 4 ({ frames := 0, cells := 0, slots := 0, locals := 0 } : Room)) (M : xM) (x1 : Int32) (x2 : Int32) (x3 : Int32)  (o : xM) (h : b_J7_fill12_5 M x1 x2 x3 = some o) (hr : (x_me x).sig.returnType = none) (ev : x_rv x = none) (eM : x_M x = o) : J x M 5 [(0, .ref (x_ad x 12)), (1, .int x1), (2, .int x2), (3, .int x3)] [] := by
  unfold b_J7_fill12_5 at h
  obtain ⟨r_0, hr_0, h⟩ := bd_E h
  refine loopN_ind (JJ := fun s => J x s.1 5 [(0, .ref (x_ad x 12)), (1, .int x1), (2, .int s.2), (3, .int x3)] []) (KX := fun q => q = r_0) ?_ BG (M, x2) r_0 hr_0 rfl
  intro s o1 hb kk1 kk2
  refine wl_J7_fill12_5 C s.1 x1 s.2 x3 _ hb kk1 ?_
  · intro v e0
    have e1 := kk2 _ e0
    subst e1
    obtain rfl := Option.some.inj h
    exact r_vret C.1 hr ev eM dJ7_fill_53178_20

def b_J7_fill12_0 (M : xM) (x1 : Int32) : Option (xM) :=
  b_J7_fill12_5 M x1 (0 : Int32) (720 : Int32)
set_option maxRecDepth 20000 in
set_option maxHeartbeats 2000000 in
theorem w_J7_fill12_0 {x : xC} (C : CtC x RJ7 cJ7_fill_53178 4 ({ frames := 0, cells := 0, slots := 0, locals := 0 } : Room)) (M : xM) (x1 : Int32)  (o : xM) (h : b_J7_fill12_0 M x1 = some o) (hr : (x_me x).sig.returnType = none) (ev : x_rv x = none) (eM : x_M x = o) : J x M 0 [(0, .ref (x_ad x 12)), (1, .int x1)] [] := by
  unfold b_J7_fill12_0 at h
  refine r_iconst (v := 0) C.1 dJ7_fill_53178_0 rfl ?_
  refine r_istore_n C.1 [(2, .int (0 : Int32)), (0, .ref (x_ad x 12)), (1, .int x1)] dJ7_fill_53178_1 rfl (by decide) rfl rfl ?_
  refine r_aload_n C.1 1 dJ7_fill_53178_2 rfl rfl ?_
  refine r_alen C.1 (cK C (by decide)) (cS C (sh_12)) 0 (cT0 C) (v := 720) rfl dJ7_fill_53178_3 ?_
  refine r_istore_n C.1 [(3, .int (720 : Int32)), (2, .int (0 : Int32)), (0, .ref (x_ad x 12)), (1, .int x1)] dJ7_fill_53178_4 rfl (by decide) rfl rfl ?_
  exact r_sub [2, 3, 1, 0] rfl (w_J7_fill12_5 C M x1 (0 : Int32) (720 : Int32) _ h hr ev eM)
def f_J7_fill12 (M : xM) (x1 : Int32) : Option (xM) := b_J7_fill12_0 M x1
set_option maxRecDepth 20000 in
theorem m_J7_fill12 (l : Launch) (D : va_G) (ad : Nat → Nat) (M : xM) (x1 : Int32)  {o : xM} (h : f_J7_fill12 M x1 = some o) : xMetC l yJ7_fill_53178 cJ7_fill_53178 4 none ({ frames := 0, cells := 0, slots := 0, locals := 0 } : Room) [.ref (ad 12), .int x1] D ad M none o := by
  refine xMetC_of (own := RJ7) (by decide) rfl (Nat.le_of_ble_eq_true rfl) ?_
  intro x C e1 e2 e3 ev eM hr
  subst e1; subst e2; subst e3
  refine r_sub (L := [(0, .ref (x_ad x 12)), (1, .int x1)]) (L' := [(0, .ref (x_ad x 12)), (1, .int x1)]) [0, 1] rfl ?_
  exact w_J7_fill12_0 C M x1 _ h hr ev eM

def b_X0_forgetAll_0 (M : xM)  : Option (xM) :=
  lt (uM M 6 0 (0 : Int32)) (fun M_1 => some M_1)
set_option maxRecDepth 20000 in
set_option maxHeartbeats 2000000 in
theorem w_X0_forgetAll_0 {x : xC} (C : CtC x RX0 cX0_forgetAll 1 ({ frames := 0, cells := 0, slots := 0, locals := 0 } : Room)) (M : xM)   (o : xM) (h : b_X0_forgetAll_0 M = some o) (hr : (x_me x).sig.returnType = none) (ev : x_rv x = none) (eM : x_M x = o) : J x M 0 [(0, .ref (x_ad x 6))] [] := by
  unfold b_X0_forgetAll_0 at h
  refine r_aload_n C.1 0 dX0_forgetAll_0 rfl rfl ?_
  refine r_iconst (v := 0) C.1 dX0_forgetAll_1 rfl ?_
  obtain ⟨M_1, eM_1, h⟩ := lt_E h
  refine pf_X0_9 C eM_1 dX0_forgetAll_2 ?_
  obtain rfl := Option.some.inj h
  exact r_vret C.1 hr ev eM dX0_forgetAll_5
def f_X0_forgetAll (M : xM)  : Option (xM) := b_X0_forgetAll_0 M 
set_option maxRecDepth 20000 in
theorem m_X0_forgetAll (l : Launch) (D : va_G) (ad : Nat → Nat) (M : xM)   {o : xM} (h : f_X0_forgetAll M = some o) : xMetC l yX0_forgetAll cX0_forgetAll 1 none ({ frames := 0, cells := 0, slots := 0, locals := 0 } : Room) [.ref (ad 6)] D ad M none o := by
  refine xMetC_of (own := RX0) (by decide) rfl (Nat.le_of_ble_eq_true rfl) ?_
  intro x C e1 e2 e3 ev eM hr
  subst e1; subst e2; subst e3
  refine r_sub (L := [(0, .ref (x_ad x 6))]) (L' := [(0, .ref (x_ad x 6))]) [0] rfl ?_
  exact w_X0_forgetAll_0 C M _ h hr ev eM

def bl_X0_dropOldest_2 (M : xM) (x1 : Int32) : Option ((xM × Int32) ⊕ (xM)) :=
  if (10 : Int32) ≤ x1 then some (.inr M) else gd x1 10 (gd (x1 - (1 : Int32)) 10 (lt (uM M 7 (x1 - (1 : Int32)).toNatClampNeg (M 7 x1.toNatClampNeg)) (fun M_4 => gd x1 10 (gd (x1 - (1 : Int32)) 10 (lt (uM M_4 8 (x1 - (1 : Int32)).toNatClampNeg (M_4 8 x1.toNatClampNeg)) (fun M_7 => gd x1 10 (gd (x1 - (1 : Int32)) 10 (lt (uM M_7 9 (x1 - (1 : Int32)).toNatClampNeg (M_7 9 x1.toNatClampNeg)) (fun M_10 => lt (x1 + (1 : Int32)) (fun y_11 => some (.inl (M_10, y_11))))))))))))
set_option maxRecDepth 20000 in
set_option maxHeartbeats 2000000 in
theorem wl_X0_dropOldest_2 {x : xC} (C : CtC x RX0 cX0_dropOldest 2 ({ frames := 0, cells := 0, slots := 0, locals := 0 } : Room)) (M : xM) (x1 : Int32)  (o : (xM × Int32) ⊕ (xM)) (h : bl_X0_dropOldest_2 M x1 = some o) (kh : ∀ s : xM × Int32, o = .inl s → J x s.1 2 [(0, .ref (x_ad x 6)), (1, .int s.2)] []) (ke_0 : ∀ v : xM, o = .inr v → J x v 56 [(0, .ref (x_ad x 6))] []) : J x M 2 [(0, .ref (x_ad x 6)), (1, .int x1)] [] := by
  unfold bl_X0_dropOldest_2 at h
  refine r_iload_n C.1 1 dX0_dropOldest_2 rfl rfl ?_
  refine r_bipush (v := 10) C.1 dX0_dropOldest_3 (by decide) ?_
  refine r_icmp_ge C.1 56 dX0_dropOldest_5 (by decide) (fun c_1 => ?_) (fun c_1 => ?_)
  · replace h := ite_T c_1 h
    exact r_sub [0] rfl (ke_0 _ (Option.some.inj h).symm)
  · replace h := ite_F c_1 h
    refine r_aload_n C.1 0 dX0_dropOldest_8 rfl rfl ?_
    refine gf_X0_15 C dX0_dropOldest_9 ?_
    refine r_iload_n C.1 1 dX0_dropOldest_12 rfl rfl ?_
    refine r_iconst (v := 1) C.1 dX0_dropOldest_13 rfl ?_
    refine r_isub C.1 dX0_dropOldest_14 ?_
    refine r_aload_n C.1 0 dX0_dropOldest_15 rfl rfl ?_
    refine gf_X0_15 C dX0_dropOldest_16 ?_
    refine r_iload_n C.1 1 dX0_dropOldest_19 rfl rfl ?_
    obtain ⟨q_2, h⟩ := gd_E h
    refine r_iald C.1 (cK C (by decide)) (cS C (sh_7)) 0 (cT0 C) q_2 dX0_dropOldest_20 ?_
    obtain ⟨q_3, h⟩ := gd_E h
    obtain ⟨M_4, eM_4, h⟩ := lt_E h
    refine r_iast C.1 (cK C (by decide)) (cS C (sh_7)) 0 (cT0 C) q_3 eM_4 dX0_dropOldest_21 ?_
    refine r_aload_n C.1 0 dX0_dropOldest_22 rfl rfl ?_
    refine gf_X0_19 C dX0_dropOldest_23 ?_
    refine r_iload_n C.1 1 dX0_dropOldest_26 rfl rfl ?_
    refine r_iconst (v := 1) C.1 dX0_dropOldest_27 rfl ?_
    refine r_isub C.1 dX0_dropOldest_28 ?_
    refine r_aload_n C.1 0 dX0_dropOldest_29 rfl rfl ?_
    refine gf_X0_19 C dX0_dropOldest_30 ?_
    refine r_iload_n C.1 1 dX0_dropOldest_33 rfl rfl ?_
    obtain ⟨q_5, h⟩ := gd_E h
    refine r_iald C.1 (cK C (by decide)) (cS C (sh_8)) 0 (cT0 C) q_5 dX0_dropOldest_34 ?_
    obtain ⟨q_6, h⟩ := gd_E h
    obtain ⟨M_7, eM_7, h⟩ := lt_E h
    refine r_iast C.1 (cK C (by decide)) (cS C (sh_8)) 0 (cT0 C) q_6 eM_7 dX0_dropOldest_35 ?_
    refine r_aload_n C.1 0 dX0_dropOldest_36 rfl rfl ?_
    refine gf_X0_22 C dX0_dropOldest_37 ?_
    refine r_iload_n C.1 1 dX0_dropOldest_40 rfl rfl ?_
    refine r_iconst (v := 1) C.1 dX0_dropOldest_41 rfl ?_
    refine r_isub C.1 dX0_dropOldest_42 ?_
    refine r_aload_n C.1 0 dX0_dropOldest_43 rfl rfl ?_
    refine gf_X0_22 C dX0_dropOldest_44 ?_
    refine r_iload_n C.1 1 dX0_dropOldest_47 rfl rfl ?_
    obtain ⟨q_8, h⟩ := gd_E h
    refine r_iald C.1 (cK C (by decide)) (cS C (sh_9)) 0 (cT0 C) q_8 dX0_dropOldest_48 ?_
    obtain ⟨q_9, h⟩ := gd_E h
    obtain ⟨M_10, eM_10, h⟩ := lt_E h
    refine r_iast C.1 (cK C (by decide)) (cS C (sh_9)) 0 (cT0 C) q_9 eM_10 dX0_dropOldest_49 ?_
    obtain ⟨y_11, ey_11, h⟩ := lt_E h
    refine r_iinc C.1 1 [(1, .int y_11), (0, .ref (x_ad x 6))] dX0_dropOldest_50 rfl ey_11 (by decide) rfl ?_
    refine r_goto C.1 2 dX0_dropOldest_53 (by decide) ?_
    exact r_sub [1, 0] rfl (kh _ (Option.some.inj h).symm)

def b_X0_dropOldest_2 (M : xM) (x1 : Int32) : Option (xM) :=
  bd (loopN (fun s : xM × Int32 => bl_X0_dropOldest_2 s.1 s.2) BG (M, x1)) (fun v => lt (uM v 6 0 (9 : Int32)) (fun M_1 => some M_1))
set_option maxRecDepth 20000 in
set_option maxHeartbeats 2000000 in
theorem w_X0_dropOldest_2 {x : xC} (C : CtC x RX0 cX0_dropOldest 2 ({ frames := 0, cells := 0, slots := 0, locals := 0 } : Room)) (M : xM) (x1 : Int32)  (o : xM) (h : b_X0_dropOldest_2 M x1 = some o) (hr : (x_me x).sig.returnType = none) (ev : x_rv x = none) (eM : x_M x = o) : J x M 2 [(0, .ref (x_ad x 6)), (1, .int x1)] [] := by
  unfold b_X0_dropOldest_2 at h
  obtain ⟨r_0, hr_0, h⟩ := bd_E h
  refine loopN_ind (JJ := fun s => J x s.1 2 [(0, .ref (x_ad x 6)), (1, .int s.2)] []) (KX := fun q => q = r_0) ?_ BG (M, x1) r_0 hr_0 rfl
  intro s o1 hb kk1 kk2
  refine wl_X0_dropOldest_2 C s.1 s.2 _ hb kk1 ?_
  · intro v e0
    have e1 := kk2 _ e0
    subst e1
    refine r_aload_n C.1 0 dX0_dropOldest_56 rfl rfl ?_
    refine r_bipush (v := 9) C.1 dX0_dropOldest_57 (by decide) ?_
    obtain ⟨M_1, eM_1, h⟩ := lt_E h
    refine pf_X0_9 C eM_1 dX0_dropOldest_59 ?_
    obtain rfl := Option.some.inj h
    exact r_vret C.1 hr ev eM dX0_dropOldest_62

def b_X0_dropOldest_0 (M : xM)  : Option (xM) :=
  b_X0_dropOldest_2 M (1 : Int32)
set_option maxRecDepth 20000 in
set_option maxHeartbeats 2000000 in
theorem w_X0_dropOldest_0 {x : xC} (C : CtC x RX0 cX0_dropOldest 2 ({ frames := 0, cells := 0, slots := 0, locals := 0 } : Room)) (M : xM)   (o : xM) (h : b_X0_dropOldest_0 M = some o) (hr : (x_me x).sig.returnType = none) (ev : x_rv x = none) (eM : x_M x = o) : J x M 0 [(0, .ref (x_ad x 6))] [] := by
  unfold b_X0_dropOldest_0 at h
  refine r_iconst (v := 1) C.1 dX0_dropOldest_0 rfl ?_
  refine r_istore_n C.1 [(1, .int (1 : Int32)), (0, .ref (x_ad x 6))] dX0_dropOldest_1 rfl (by decide) rfl rfl ?_
  exact r_sub [1, 0] rfl (w_X0_dropOldest_2 C M (1 : Int32) _ h hr ev eM)
def f_X0_dropOldest (M : xM)  : Option (xM) := b_X0_dropOldest_0 M 
set_option maxRecDepth 20000 in
theorem m_X0_dropOldest (l : Launch) (D : va_G) (ad : Nat → Nat) (M : xM)   {o : xM} (h : f_X0_dropOldest M = some o) : xMetC l yX0_dropOldest cX0_dropOldest 2 none ({ frames := 0, cells := 0, slots := 0, locals := 0 } : Room) [.ref (ad 6)] D ad M none o := by
  refine xMetC_of (own := RX0) (by decide) rfl (Nat.le_of_ble_eq_true rfl) ?_
  intro x C e1 e2 e3 ev eM hr
  subst e1; subst e2; subst e3
  refine r_sub (L := [(0, .ref (x_ad x 6))]) (L' := [(0, .ref (x_ad x 6))]) [0] rfl ?_
  exact w_X0_dropOldest_0 C M _ h hr ev eM

def b_X0_note_13 (M : xM) (x1 : Int32) (x2 : Int32) (x3 : Int32) : Option (xM) :=
  gd (M 6 0) 10 (lt (uM M 7 (M 6 0).toNatClampNeg x1) (fun M_2 => gd (M_2 6 0) 10 (lt (uM M_2 8 (M_2 6 0).toNatClampNeg x2) (fun M_4 => gd (M_4 6 0) 10 (lt (uM M_4 9 (M_4 6 0).toNatClampNeg x3) (fun M_6 => lt (uM M_6 6 0 ((M_6 6 0) + (1 : Int32))) (fun M_7 => some M_7)))))))
set_option maxRecDepth 20000 in
set_option maxHeartbeats 2000000 in
theorem w_X0_note_13 {x : xC} (C : CtC x RX0 cX0_note 4 ({ frames := 1, cells := 0, slots := 0, locals := 21 } : Room)) (M : xM) (x1 : Int32) (x2 : Int32) (x3 : Int32)  (o : xM) (h : b_X0_note_13 M x1 x2 x3 = some o) (hr : (x_me x).sig.returnType = none) (ev : x_rv x = none) (eM : x_M x = o) : J x M 13 [(0, .ref (x_ad x 6)), (1, .int x1), (2, .int x2), (3, .int x3)] [] := by
  unfold b_X0_note_13 at h
  refine r_aload_n C.1 0 dX0_note_13 rfl rfl ?_
  refine gf_X0_15 C dX0_note_14 ?_
  refine r_aload_n C.1 0 dX0_note_17 rfl rfl ?_
  refine gf_X0_9 C dX0_note_18 ?_
  refine r_iload_n C.1 1 dX0_note_21 rfl rfl ?_
  obtain ⟨q_1, h⟩ := gd_E h
  obtain ⟨M_2, eM_2, h⟩ := lt_E h
  refine r_iast C.1 (cK C (by decide)) (cS C (sh_7)) 0 (cT0 C) q_1 eM_2 dX0_note_22 ?_
  refine r_aload_n C.1 0 dX0_note_23 rfl rfl ?_
  refine gf_X0_19 C dX0_note_24 ?_
  refine r_aload_n C.1 0 dX0_note_27 rfl rfl ?_
  refine gf_X0_9 C dX0_note_28 ?_
  refine r_iload_n C.1 2 dX0_note_31 rfl rfl ?_
  obtain ⟨q_3, h⟩ := gd_E h
  obtain ⟨M_4, eM_4, h⟩ := lt_E h
  refine r_iast C.1 (cK C (by decide)) (cS C (sh_8)) 0 (cT0 C) q_3 eM_4 dX0_note_32 ?_
  refine r_aload_n C.1 0 dX0_note_33 rfl rfl ?_
  refine gf_X0_22 C dX0_note_34 ?_
  refine r_aload_n C.1 0 dX0_note_37 rfl rfl ?_
  refine gf_X0_9 C dX0_note_38 ?_
  refine r_iload_n C.1 3 dX0_note_41 rfl rfl ?_
  obtain ⟨q_5, h⟩ := gd_E h
  obtain ⟨M_6, eM_6, h⟩ := lt_E h
  refine r_iast C.1 (cK C (by decide)) (cS C (sh_9)) 0 (cT0 C) q_5 eM_6 dX0_note_42 ?_
  refine r_aload_n C.1 0 dX0_note_43 rfl rfl ?_
  refine r_dup C.1 rfl dX0_note_44 ?_
  refine gf_X0_9 C dX0_note_45 ?_
  refine r_iconst (v := 1) C.1 dX0_note_48 rfl ?_
  refine r_iadd C.1 dX0_note_49 ?_
  obtain ⟨M_7, eM_7, h⟩ := lt_E h
  refine pf_X0_9 C eM_7 dX0_note_50 ?_
  obtain rfl := Option.some.inj h
  exact r_vret C.1 hr ev eM dX0_note_53

def b_X0_note_0 (M : xM) (x1 : Int32) (x2 : Int32) (x3 : Int32) : Option (xM) :=
  if (M 6 0) = (10 : Int32) then bd (f_X0_dropOldest M) (fun M_4 => b_X0_note_13 M_4 x1 x2 x3) else b_X0_note_13 M x1 x2 x3
set_option maxRecDepth 20000 in
set_option maxHeartbeats 2000000 in
theorem w_X0_note_0 {x : xC} (C : CtC x RX0 cX0_note 4 ({ frames := 1, cells := 0, slots := 0, locals := 21 } : Room)) (M : xM) (x1 : Int32) (x2 : Int32) (x3 : Int32)  (o : xM) (h : b_X0_note_0 M x1 x2 x3 = some o) (hr : (x_me x).sig.returnType = none) (ev : x_rv x = none) (eM : x_M x = o) : J x M 0 [(0, .ref (x_ad x 6)), (1, .int x1), (2, .int x2), (3, .int x3)] [] := by
  unfold b_X0_note_0 at h
  refine r_aload_n C.1 0 dX0_note_0 rfl rfl ?_
  refine gf_X0_9 C dX0_note_1 ?_
  refine r_bipush (v := 10) C.1 dX0_note_4 (by decide) ?_
  refine r_icmp_ne C.1 13 dX0_note_6 (by decide) (fun c_1 => ?_) (fun c_1 => ?_)
  · replace h := ite_F c_1 h
    exact r_sub [0, 1, 2, 3] rfl (w_X0_note_13 C M x1 x2 x3 _ h hr ev eM)
  · replace h := ite_T c_1 h
    refine r_aload_n C.1 0 dX0_note_9 rfl rfl ?_
    obtain ⟨M_4, hc_3, h⟩ := bd_E h
    refine cl_X0_25 C ⟨Nat.le_of_ble_eq_true rfl, Nat.le_of_ble_eq_true rfl⟩ (m_X0_dropOldest _ _ _ M hc_3) (Nat.le_of_ble_eq_true rfl) dX0_note_10 ?_
    exact r_sub [0, 1, 2, 3] rfl (w_X0_note_13 C M_4 x1 x2 x3 _ h hr ev eM)
def f_X0_note (M : xM) (x1 : Int32) (x2 : Int32) (x3 : Int32) : Option (xM) := b_X0_note_0 M x1 x2 x3
set_option maxRecDepth 20000 in
theorem m_X0_note (l : Launch) (D : va_G) (ad : Nat → Nat) (M : xM) (x1 : Int32) (x2 : Int32) (x3 : Int32)  {o : xM} (h : f_X0_note M x1 x2 x3 = some o) : xMetC l yX0_note cX0_note 4 none ({ frames := 1, cells := 0, slots := 0, locals := 21 } : Room) [.ref (ad 6), .int x1, .int x2, .int x3] D ad M none o := by
  refine xMetC_of (own := RX0) (by decide) rfl (Nat.le_of_ble_eq_true rfl) ?_
  intro x C e1 e2 e3 ev eM hr
  subst e1; subst e2; subst e3
  refine r_sub (L := [(0, .ref (x_ad x 6)), (1, .int x1), (2, .int x2), (3, .int x3)]) (L' := [(0, .ref (x_ad x 6)), (1, .int x1), (2, .int x2), (3, .int x3)]) [0, 1, 2, 3] rfl ?_
  exact w_X0_note_0 C M x1 x2 x3 _ h hr ev eM

def b_X1_beginAnew_0 (M : xM)  : Option (xM) :=
  lt (uC M 4 18 7) (fun M_1 => lt (uM M_1 17 1 (0 : Int32)) (fun M_2 => lt (uM M_2 17 3 (0 : Int32)) (fun M_3 => lt (uM M_3 17 5 (0 : Int32)) (fun M_4 => lt (uM M_4 17 7 (0 : Int32)) (fun M_5 => some M_5)))))
set_option maxRecDepth 20000 in
set_option maxHeartbeats 2000000 in
theorem w_X1_beginAnew_0 {x : xC} (C : CtC x RX1 cX1_beginAnew 2 ({ frames := 2, cells := 0, slots := 0, locals := 60 } : Room)) (M : xM)   (o : xM) (h : b_X1_beginAnew_0 M = some o) (hr : (x_me x).sig.returnType = none) (ev : x_rv x = none) (eM : x_M x = o) : J x M 0 [(0, .ref (x_ad x 17)), (1, .ref (x_ad x 4))] [] := by
  unfold b_X1_beginAnew_0 at h
  refine r_aload_n C.1 1 dX1_beginAnew_0 rfl rfl ?_
  refine r_iconst (v := 0) C.1 dX1_beginAnew_1 rfl ?_
  refine r_aload_n C.1 0 dX1_beginAnew_2 rfl rfl ?_
  refine gf_X1_13_17 C dX1_beginAnew_3 ?_
  refine r_iconst (v := 0) C.1 dX1_beginAnew_6 rfl ?_
  refine r_getsN (ref := RX10) (host := RX10) C.1 C.2.2.2.2 (C.2.2.2.2.2.2.2.2.1.1) (by decide +kernel) rfl dX1_beginAnew_7 ?_
  refine r_tlen C.1 (C.2.2.2.2.2.2.2.2.1.2) (v := 7) rfl dX1_beginAnew_10 ?_
  obtain ⟨M_1, eM_1, h⟩ := lt_E h
  refine r_copy C.1 ⟨kw_458, kw_460, kw_459, kw_17⟩ (cK C (by decide)) (cK C (by decide)) (cS C (sh_4)) (cS C (sh_18)) 0 (cT0 C) (N := 7) (by decide) (by decide) (by decide) (by decide) (by decide) (by decide) (Nat.le_of_ble_eq_true rfl) eM_1 dX1_beginAnew_11 ?_
  refine r_aload_n C.1 0 dX1_beginAnew_14 rfl rfl ?_
  refine r_iconst (v := 0) C.1 dX1_beginAnew_15 rfl ?_
  obtain ⟨M_2, eM_2, h⟩ := lt_E h
  refine pf_X1_19_17 C eM_2 dX1_beginAnew_16 ?_
  refine r_aload_n C.1 0 dX1_beginAnew_19 rfl rfl ?_
  refine r_iconst (v := 0) C.1 dX1_beginAnew_20 rfl ?_
  obtain ⟨M_3, eM_3, h⟩ := lt_E h
  refine pf_X1_26_17 C eM_3 dX1_beginAnew_21 ?_
  refine r_aload_n C.1 0 dX1_beginAnew_24 rfl rfl ?_
  refine r_iconst (v := 0) C.1 dX1_beginAnew_25 rfl ?_
  obtain ⟨M_4, eM_4, h⟩ := lt_E h
  refine pf_X1_35_17 C eM_4 dX1_beginAnew_26 ?_
  refine r_aload_n C.1 0 dX1_beginAnew_29 rfl rfl ?_
  refine r_iconst (v := 0) C.1 dX1_beginAnew_30 rfl ?_
  obtain ⟨M_5, eM_5, h⟩ := lt_E h
  refine pf_X1_44_17 C eM_5 dX1_beginAnew_31 ?_
  obtain rfl := Option.some.inj h
  exact r_vret C.1 hr ev eM dX1_beginAnew_34
def f_X1_beginAnew (M : xM)  : Option (xM) := b_X1_beginAnew_0 M 
set_option maxRecDepth 20000 in
theorem m_X1_beginAnew (l : Launch) (D : va_G) (ad : Nat → Nat) (M : xM)   {o : xM} (h : f_X1_beginAnew M = some o) : xMetC l yX1_beginAnew cX1_beginAnew 2 none ({ frames := 2, cells := 0, slots := 0, locals := 60 } : Room) [.ref (ad 17), .ref (ad 4)] D ad M none o := by
  refine xMetC_of (own := RX1) (by decide) rfl (Nat.le_of_ble_eq_true rfl) ?_
  intro x C e1 e2 e3 ev eM hr
  subst e1; subst e2; subst e3
  refine r_sub (L := [(0, .ref (x_ad x 17)), (1, .ref (x_ad x 4))]) (L' := [(0, .ref (x_ad x 17)), (1, .ref (x_ad x 4))]) [0, 1] rfl ?_
  exact w_X1_beginAnew_0 C M _ h hr ev eM

def b_X8_begin_0 (M : xM) (k0 : Nat) (x1 : Int32) (x2 : Int32) : Option (xM) :=
  lt (uM M k0 0 x1) (fun M_1 => lt (uM M_1 k0 1 x2) (fun M_2 => lt (uM M_2 k0 2 (0 : Int32)) (fun M_3 => lt (uM M_3 k0 5 (0 : Int32)) (fun M_4 => lt (uM M_4 k0 6 (0 : Int32)) (fun M_5 => some M_5)))))
set_option maxRecDepth 20000 in
set_option maxHeartbeats 2000000 in
theorem w_X8_begin_0 {x : xC} (C : CtC x RX8 cX8_begin 3 ({ frames := 0, cells := 0, slots := 0, locals := 0 } : Room)) (M : xM) (k0 : Nat) (x1 : Int32) (x2 : Int32) (h0 : KW k0) (o : xM) (h : b_X8_begin_0 M k0 x1 x2 = some o) (hr : (x_me x).sig.returnType = none) (ev : x_rv x = none) (eM : x_M x = o) : J x M 0 [(0, .ref (x_ad x k0)), (1, .int x1), (2, .int x2)] [] := by
  unfold b_X8_begin_0 at h
  refine r_aload_n C.1 0 dX8_begin_0 rfl rfl ?_
  refine r_iload_n C.1 1 dX8_begin_1 rfl rfl ?_
  obtain ⟨M_1, eM_1, h⟩ := lt_E h
  refine pfk_X8_9 C h0 eM_1 dX8_begin_2 ?_
  refine r_aload_n C.1 0 dX8_begin_5 rfl rfl ?_
  refine r_iload_n C.1 2 dX8_begin_6 rfl rfl ?_
  obtain ⟨M_2, eM_2, h⟩ := lt_E h
  refine pfk_X8_15 C h0 eM_2 dX8_begin_7 ?_
  refine r_aload_n C.1 0 dX8_begin_10 rfl rfl ?_
  refine r_iconst (v := 0) C.1 dX8_begin_11 rfl ?_
  obtain ⟨M_3, eM_3, h⟩ := lt_E h
  refine pfk_X8_18 C h0 eM_3 dX8_begin_12 ?_
  refine r_aload_n C.1 0 dX8_begin_15 rfl rfl ?_
  refine r_iconst (v := 0) C.1 dX8_begin_16 rfl ?_
  obtain ⟨M_4, eM_4, h⟩ := lt_E h
  refine pfk_X8_28 C h0 eM_4 dX8_begin_17 ?_
  refine r_aload_n C.1 0 dX8_begin_20 rfl rfl ?_
  refine r_iconst (v := 0) C.1 dX8_begin_21 rfl ?_
  obtain ⟨M_5, eM_5, h⟩ := lt_E h
  refine pfk_X8_31 C h0 (by decide) eM_5 dX8_begin_22 ?_
  obtain rfl := Option.some.inj h
  exact r_vret C.1 hr ev eM dX8_begin_25
def f_X8_begin (M : xM) (k0 : Nat) (x1 : Int32) (x2 : Int32) : Option (xM) := b_X8_begin_0 M k0 x1 x2
set_option maxRecDepth 20000 in
theorem m_X8_begin (l : Launch) (D : va_G) (ad : Nat → Nat) (M : xM) (k0 : Nat) (x1 : Int32) (x2 : Int32) (h0 : KW k0) {o : xM} (h : f_X8_begin M k0 x1 x2 = some o) : xMetC l yX8_begin cX8_begin 3 none ({ frames := 0, cells := 0, slots := 0, locals := 0 } : Room) [.ref (ad k0), .int x1, .int x2] D ad M none o := by
  refine xMetC_of (own := RX8) (by decide) rfl (Nat.le_of_ble_eq_true rfl) ?_
  intro x C e1 e2 e3 ev eM hr
  subst e1; subst e2; subst e3
  refine r_sub (L := [(0, .ref (x_ad x k0)), (1, .int x1), (2, .int x2)]) (L' := [(0, .ref (x_ad x k0)), (1, .int x1), (2, .int x2)]) [0, 1, 2] rfl ?_
  exact w_X8_begin_0 C M k0 x1 x2 h0 _ h hr ev eM

def b_X8_become_0 (M : xM) (k0 : Nat) (k1 : Nat) : Option (xM) :=
  bd (f_X8_begin M k0 (M k1 0) (M k1 1)) (fun M_3 => lt (uM M_3 k0 2 (M_3 k1 2)) (fun M_4 => lt (uM M_4 k0 5 (M_4 k1 5)) (fun M_5 => gz (M_5 k1 6) (lt (uM M_5 k0 6 (M_5 k1 6)) (fun M_7 => lt (uC M_7 (k1 + 1) (k0 + 1) 6) (fun M_8 => lt (uC M_8 (k1 + 2) (k0 + 2) 6) (fun M_9 => lt (uC M_9 (k1 + 3) (k0 + 3) 10) (fun M_10 => lt (uC M_10 (k1 + 4) (k0 + 4) 10) (fun M_11 => some M_11)))))))))
set_option maxRecDepth 20000 in
set_option maxHeartbeats 2000000 in
theorem w_X8_become_0 {x : xC} (C : CtC x RX8 cX8_become 2 ({ frames := 2, cells := 0, slots := 0, locals := 60 } : Room)) (M : xM) (k0 : Nat) (k1 : Nat) (h0 : KW k0) (h1 : KW k1) (o : xM) (h : b_X8_become_0 M k0 k1 = some o) (hr : (x_me x).sig.returnType = none) (ev : x_rv x = none) (eM : x_M x = o) : J x M 0 [(0, .ref (x_ad x k0)), (1, .ref (x_ad x k1))] [] := by
  unfold b_X8_become_0 at h
  refine r_aload_n C.1 0 dX8_become_0 rfl rfl ?_
  refine r_aload_n C.1 1 dX8_become_1 rfl rfl ?_
  refine gfk_X8_9 C h1 dX8_become_2 ?_
  refine r_aload_n C.1 1 dX8_become_5 rfl rfl ?_
  refine gfk_X8_15 C h1 dX8_become_6 ?_
  obtain ⟨M_3, hc_2, h⟩ := bd_E h
  refine cl_X8_41 C h0 ⟨Nat.le_of_ble_eq_true rfl, Nat.le_of_ble_eq_true rfl⟩ (m_X8_begin _ _ _ M k0 (M k1 0) (M k1 1) h0 hc_2) (Nat.le_of_ble_eq_true rfl) dX8_become_9 ?_
  refine r_aload_n C.1 0 dX8_become_12 rfl rfl ?_
  refine r_aload_n C.1 1 dX8_become_13 rfl rfl ?_
  refine gfk_X8_18 C h1 dX8_become_14 ?_
  obtain ⟨M_4, eM_4, h⟩ := lt_E h
  refine pfk_X8_18 C h0 eM_4 dX8_become_17 ?_
  refine r_aload_n C.1 0 dX8_become_20 rfl rfl ?_
  refine r_aload_n C.1 1 dX8_become_21 rfl rfl ?_
  refine gfk_X8_28 C h1 dX8_become_22 ?_
  obtain ⟨M_5, eM_5, h⟩ := lt_E h
  refine pfk_X8_28 C h0 eM_5 dX8_become_25 ?_
  refine r_aload_n C.1 0 dX8_become_28 rfl rfl ?_
  refine r_aload_n C.1 1 dX8_become_29 rfl rfl ?_
  refine gfk_X8_31 C h1 dX8_become_30 ?_
  obtain ⟨z_6, h⟩ := gz_E h
  obtain ⟨M_7, eM_7, h⟩ := lt_E h
  refine pfk_X8_31 C h0 z_6 eM_7 dX8_become_33 ?_
  refine r_aload_n C.1 1 dX8_become_36 rfl rfl ?_
  refine gfk_X8_21 C h1 dX8_become_37 ?_
  refine r_iconst (v := 0) C.1 dX8_become_40 rfl ?_
  refine r_aload_n C.1 0 dX8_become_41 rfl rfl ?_
  refine gfk_X8_21 C h0 dX8_become_42 ?_
  refine r_iconst (v := 0) C.1 dX8_become_45 rfl ?_
  refine r_bipush (v := 6) C.1 dX8_become_46 (by decide) ?_
  obtain ⟨M_8, eM_8, h⟩ := lt_E h
  refine r_copy C.1 ⟨kw_1139, kw_460, kw_459, kw_17⟩ (cK C (kW1 h1)) (cK C (kW1 h0)) (cS C (sh_W1 h1)) (cS C (sh_W1 h0)) 0 (cT0 C) (N := 6) (by decide) (by decide) (by decide) (by decide) (by decide) (by decide) (Nat.le_of_ble_eq_true rfl) eM_8 dX8_become_48 ?_
  refine r_aload_n C.1 1 dX8_become_51 rfl rfl ?_
  refine gfk_X8_25 C h1 dX8_become_52 ?_
  refine r_iconst (v := 0) C.1 dX8_become_55 rfl ?_
  refine r_aload_n C.1 0 dX8_become_56 rfl rfl ?_
  refine gfk_X8_25 C h0 dX8_become_57 ?_
  refine r_iconst (v := 0) C.1 dX8_become_60 rfl ?_
  refine r_bipush (v := 6) C.1 dX8_become_61 (by decide) ?_
  obtain ⟨M_9, eM_9, h⟩ := lt_E h
  refine r_copy C.1 ⟨kw_1139, kw_460, kw_459, kw_17⟩ (cK C (kW2 h1)) (cK C (kW2 h0)) (cS C (sh_W2 h1)) (cS C (sh_W2 h0)) 0 (cT0 C) (N := 6) (by decide) (by decide) (by decide) (by decide) (by decide) (by decide) (Nat.le_of_ble_eq_true rfl) eM_9 dX8_become_63 ?_
  refine r_aload_n C.1 1 dX8_become_66 rfl rfl ?_
  refine gfk_X8_35 C h1 dX8_become_67 ?_
  refine r_iconst (v := 0) C.1 dX8_become_70 rfl ?_
  refine r_aload_n C.1 0 dX8_become_71 rfl rfl ?_
  refine gfk_X8_35 C h0 dX8_become_72 ?_
  refine r_iconst (v := 0) C.1 dX8_become_75 rfl ?_
  refine r_bipush (v := 10) C.1 dX8_become_76 (by decide) ?_
  obtain ⟨M_10, eM_10, h⟩ := lt_E h
  refine r_copy C.1 ⟨kw_1139, kw_460, kw_459, kw_17⟩ (cK C (kW3 h1)) (cK C (kW3 h0)) (cS C (sh_W3 h1)) (cS C (sh_W3 h0)) 0 (cT0 C) (N := 10) (by decide) (by decide) (by decide) (by decide) (by decide) (by decide) (Nat.le_of_ble_eq_true rfl) eM_10 dX8_become_78 ?_
  refine r_aload_n C.1 1 dX8_become_81 rfl rfl ?_
  refine gfk_X8_38 C h1 dX8_become_82 ?_
  refine r_iconst (v := 0) C.1 dX8_become_85 rfl ?_
  refine r_aload_n C.1 0 dX8_become_86 rfl rfl ?_
  refine gfk_X8_38 C h0 dX8_become_87 ?_
  refine r_iconst (v := 0) C.1 dX8_become_90 rfl ?_
  refine r_bipush (v := 10) C.1 dX8_become_91 (by decide) ?_
  obtain ⟨M_11, eM_11, h⟩ := lt_E h
  refine r_copy C.1 ⟨kw_1139, kw_460, kw_459, kw_17⟩ (cK C (kW4 h1)) (cK C (kW4 h0)) (cS C (sh_W4 h1)) (cS C (sh_W4 h0)) 0 (cT0 C) (N := 10) (by decide) (by decide) (by decide) (by decide) (by decide) (by decide) (Nat.le_of_ble_eq_true rfl) eM_11 dX8_become_93 ?_
  obtain rfl := Option.some.inj h
  exact r_vret C.1 hr ev eM dX8_become_96
def f_X8_become (M : xM) (k0 : Nat) (k1 : Nat) : Option (xM) := b_X8_become_0 M k0 k1
set_option maxRecDepth 20000 in
theorem m_X8_become (l : Launch) (D : va_G) (ad : Nat → Nat) (M : xM) (k0 : Nat) (k1 : Nat) (h0 : KW k0) (h1 : KW k1) {o : xM} (h : f_X8_become M k0 k1 = some o) : xMetC l yX8_become cX8_become 2 none ({ frames := 2, cells := 0, slots := 0, locals := 60 } : Room) [.ref (ad k0), .ref (ad k1)] D ad M none o := by
  refine xMetC_of (own := RX8) (by decide) rfl (Nat.le_of_ble_eq_true rfl) ?_
  intro x C e1 e2 e3 ev eM hr
  subst e1; subst e2; subst e3
  refine r_sub (L := [(0, .ref (x_ad x k0)), (1, .ref (x_ad x k1))]) (L' := [(0, .ref (x_ad x k0)), (1, .ref (x_ad x k1))]) [0, 1] rfl ?_
  exact w_X8_become_0 C M k0 k1 h0 h1 _ h hr ev eM

def b_X2_tell_0 (M : xM) (k0 : Nat) (x1 : Int32) (x2 : Int32) (x3 : Int32) (x4 : Int32) (x5 : Int32) (x6 : Int32) (x7 : Int32) : Option (xM) :=
  lt (uM M k0 0 x1) (fun M_1 => lt (uM M_1 k0 1 x2) (fun M_2 => lt (uM M_2 k0 2 x3) (fun M_3 => lt (uM M_3 k0 3 x4) (fun M_4 => lt (uM M_4 k0 4 x5) (fun M_5 => lt (uM M_5 k0 5 x6) (fun M_6 => gz x7 (lt (uM M_6 k0 6 x7) (fun M_8 => lt (uM M_8 k0 7 (0 : Int32)) (fun M_9 => lt (uM M_9 k0 8 (0 : Int32)) (fun M_10 => some M_10))))))))))
set_option maxRecDepth 20000 in
set_option maxHeartbeats 2000000 in
theorem w_X2_tell_0 {x : xC} (C : CtC x RX2 cX2_tell 8 ({ frames := 0, cells := 0, slots := 0, locals := 0 } : Room)) (M : xM) (k0 : Nat) (x1 : Int32) (x2 : Int32) (x3 : Int32) (x4 : Int32) (x5 : Int32) (x6 : Int32) (x7 : Int32) (h0 : KE k0) (o : xM) (h : b_X2_tell_0 M k0 x1 x2 x3 x4 x5 x6 x7 = some o) (hr : (x_me x).sig.returnType = none) (ev : x_rv x = none) (eM : x_M x = o) : J x M 0 [(0, .ref (x_ad x k0)), (1, .int x1), (2, .int x2), (3, .int x3), (4, .int x4), (5, .int x5), (6, .int x6), (7, .int x7)] [] := by
  unfold b_X2_tell_0 at h
  refine r_aload_n C.1 0 dX2_tell_0 rfl rfl ?_
  refine r_iload_n C.1 1 dX2_tell_1 rfl rfl ?_
  obtain ⟨M_1, eM_1, h⟩ := lt_E h
  refine pfk_X2_9 C h0 eM_1 dX2_tell_2 ?_
  refine r_aload_n C.1 0 dX2_tell_5 rfl rfl ?_
  refine r_iload_n C.1 2 dX2_tell_6 rfl rfl ?_
  obtain ⟨M_2, eM_2, h⟩ := lt_E h
  refine pfk_X2_15 C h0 eM_2 dX2_tell_7 ?_
  refine r_aload_n C.1 0 dX2_tell_10 rfl rfl ?_
  refine r_iload_n C.1 3 dX2_tell_11 rfl rfl ?_
  obtain ⟨M_3, eM_3, h⟩ := lt_E h
  refine pfk_X2_18 C h0 eM_3 dX2_tell_12 ?_
  refine r_aload_n C.1 0 dX2_tell_15 rfl rfl ?_
  refine r_iload C.1 4 dX2_tell_16 rfl ?_
  obtain ⟨M_4, eM_4, h⟩ := lt_E h
  refine pfk_X2_21 C h0 eM_4 dX2_tell_18 ?_
  refine r_aload_n C.1 0 dX2_tell_21 rfl rfl ?_
  refine r_iload C.1 5 dX2_tell_22 rfl ?_
  obtain ⟨M_5, eM_5, h⟩ := lt_E h
  refine pfk_X2_24 C h0 eM_5 dX2_tell_24 ?_
  refine r_aload_n C.1 0 dX2_tell_27 rfl rfl ?_
  refine r_iload C.1 6 dX2_tell_28 rfl ?_
  obtain ⟨M_6, eM_6, h⟩ := lt_E h
  refine pfk_X2_27 C h0 eM_6 dX2_tell_30 ?_
  refine r_aload_n C.1 0 dX2_tell_33 rfl rfl ?_
  refine r_iload C.1 7 dX2_tell_34 rfl ?_
  obtain ⟨z_7, h⟩ := gz_E h
  obtain ⟨M_8, eM_8, h⟩ := lt_E h
  refine pfk_X2_30 C h0 z_7 eM_8 dX2_tell_36 ?_
  refine r_aload_n C.1 0 dX2_tell_39 rfl rfl ?_
  refine r_iconst (v := 0) C.1 dX2_tell_40 rfl ?_
  obtain ⟨M_9, eM_9, h⟩ := lt_E h
  refine pfk_X2_34 C h0 (by decide) eM_9 dX2_tell_41 ?_
  refine r_aload_n C.1 0 dX2_tell_44 rfl rfl ?_
  refine r_iconst (v := 0) C.1 dX2_tell_45 rfl ?_
  obtain ⟨M_10, eM_10, h⟩ := lt_E h
  refine pfk_X2_37 C h0 eM_10 dX2_tell_46 ?_
  obtain rfl := Option.some.inj h
  exact r_vret C.1 hr ev eM dX2_tell_49
def f_X2_tell (M : xM) (k0 : Nat) (x1 : Int32) (x2 : Int32) (x3 : Int32) (x4 : Int32) (x5 : Int32) (x6 : Int32) (x7 : Int32) : Option (xM) := b_X2_tell_0 M k0 x1 x2 x3 x4 x5 x6 x7
set_option maxRecDepth 20000 in
theorem m_X2_tell (l : Launch) (D : va_G) (ad : Nat → Nat) (M : xM) (k0 : Nat) (x1 : Int32) (x2 : Int32) (x3 : Int32) (x4 : Int32) (x5 : Int32) (x6 : Int32) (x7 : Int32) (h0 : KE k0) {o : xM} (h : f_X2_tell M k0 x1 x2 x3 x4 x5 x6 x7 = some o) : xMetC l yX2_tell cX2_tell 8 none ({ frames := 0, cells := 0, slots := 0, locals := 0 } : Room) [.ref (ad k0), .int x1, .int x2, .int x3, .int x4, .int x5, .int x6, .int x7] D ad M none o := by
  refine xMetC_of (own := RX2) (by decide) rfl (Nat.le_of_ble_eq_true rfl) ?_
  intro x C e1 e2 e3 ev eM hr
  subst e1; subst e2; subst e3
  refine r_sub (L := [(0, .ref (x_ad x k0)), (1, .int x1), (2, .int x2), (3, .int x3), (4, .int x4), (5, .int x5), (6, .int x6), (7, .int x7)]) (L' := [(0, .ref (x_ad x k0)), (1, .int x1), (2, .int x2), (3, .int x3), (4, .int x4), (5, .int x5), (6, .int x6), (7, .int x7)]) [0, 1, 2, 3, 4, 5, 6, 7] rfl ?_
  exact w_X2_tell_0 C M k0 x1 x2 x3 x4 x5 x6 x7 h0 _ h hr ev eM

def b_X2_become_0 (M : xM) (k0 : Nat) (k1 : Nat) : Option (xM) :=
  bd (f_X2_tell M k0 (M k1 0) (M k1 1) (M k1 2) (M k1 3) (M k1 4) (M k1 5) (M k1 6)) (fun M_3 => gz (M_3 k1 7) (lt (uM M_3 k0 7 (M_3 k1 7)) (fun M_5 => lt (uM M_5 k0 8 (M_5 k1 8)) (fun M_6 => some M_6))))
set_option maxRecDepth 20000 in
set_option maxHeartbeats 2000000 in
theorem w_X2_become_0 {x : xC} (C : CtC x RX2 cX2_become 2 ({ frames := 1, cells := 0, slots := 0, locals := 27 } : Room)) (M : xM) (k0 : Nat) (k1 : Nat) (h0 : KE k0) (h1 : KE k1) (o : xM) (h : b_X2_become_0 M k0 k1 = some o) (hr : (x_me x).sig.returnType = none) (ev : x_rv x = none) (eM : x_M x = o) : J x M 0 [(0, .ref (x_ad x k0)), (1, .ref (x_ad x k1))] [] := by
  unfold b_X2_become_0 at h
  refine r_aload_n C.1 0 dX2_become_0 rfl rfl ?_
  refine r_aload_n C.1 1 dX2_become_1 rfl rfl ?_
  refine gfk_X2_9 C h1 dX2_become_2 ?_
  refine r_aload_n C.1 1 dX2_become_5 rfl rfl ?_
  refine gfk_X2_15 C h1 dX2_become_6 ?_
  refine r_aload_n C.1 1 dX2_become_9 rfl rfl ?_
  refine gfk_X2_18 C h1 dX2_become_10 ?_
  refine r_aload_n C.1 1 dX2_become_13 rfl rfl ?_
  refine gfk_X2_21 C h1 dX2_become_14 ?_
  refine r_aload_n C.1 1 dX2_become_17 rfl rfl ?_
  refine gfk_X2_24 C h1 dX2_become_18 ?_
  refine r_aload_n C.1 1 dX2_become_21 rfl rfl ?_
  refine gfk_X2_27 C h1 dX2_become_22 ?_
  refine r_aload_n C.1 1 dX2_become_25 rfl rfl ?_
  refine gfk_X2_30 C h1 dX2_become_26 ?_
  obtain ⟨M_3, hc_2, h⟩ := bd_E h
  refine cl_X2_40 C h0 ⟨Nat.le_of_ble_eq_true rfl, Nat.le_of_ble_eq_true rfl⟩ (m_X2_tell _ _ _ M k0 (M k1 0) (M k1 1) (M k1 2) (M k1 3) (M k1 4) (M k1 5) (M k1 6) h0 hc_2) (Nat.le_of_ble_eq_true rfl) dX2_become_29 ?_
  refine r_aload_n C.1 0 dX2_become_32 rfl rfl ?_
  refine r_aload_n C.1 1 dX2_become_33 rfl rfl ?_
  refine gfk_X2_34 C h1 dX2_become_34 ?_
  obtain ⟨z_4, h⟩ := gz_E h
  obtain ⟨M_5, eM_5, h⟩ := lt_E h
  refine pfk_X2_34 C h0 z_4 eM_5 dX2_become_37 ?_
  refine r_aload_n C.1 0 dX2_become_40 rfl rfl ?_
  refine r_aload_n C.1 1 dX2_become_41 rfl rfl ?_
  refine gfk_X2_37 C h1 dX2_become_42 ?_
  obtain ⟨M_6, eM_6, h⟩ := lt_E h
  refine pfk_X2_37 C h0 eM_6 dX2_become_45 ?_
  obtain rfl := Option.some.inj h
  exact r_vret C.1 hr ev eM dX2_become_48
def f_X2_become (M : xM) (k0 : Nat) (k1 : Nat) : Option (xM) := b_X2_become_0 M k0 k1
set_option maxRecDepth 20000 in
theorem m_X2_become (l : Launch) (D : va_G) (ad : Nat → Nat) (M : xM) (k0 : Nat) (k1 : Nat) (h0 : KE k0) (h1 : KE k1) {o : xM} (h : f_X2_become M k0 k1 = some o) : xMetC l yX2_become cX2_become 2 none ({ frames := 1, cells := 0, slots := 0, locals := 27 } : Room) [.ref (ad k0), .ref (ad k1)] D ad M none o := by
  refine xMetC_of (own := RX2) (by decide) rfl (Nat.le_of_ble_eq_true rfl) ?_
  intro x C e1 e2 e3 ev eM hr
  subst e1; subst e2; subst e3
  refine r_sub (L := [(0, .ref (x_ad x k0)), (1, .ref (x_ad x k1))]) (L' := [(0, .ref (x_ad x k0)), (1, .ref (x_ad x k1))]) [0, 1] rfl ?_
  exact w_X2_become_0 C M k0 k1 h0 h1 _ h hr ev eM

def b_X3_tell_0 (M : xM) (k0 : Nat) (x1 : Int32) (x2 : Int32) (x3 : Int32) (x4 : Int32) (x5 : Int32) : Option (xM) :=
  lt (uM M k0 0 x1) (fun M_1 => lt (uM M_1 k0 1 x2) (fun M_2 => lt (uM M_2 k0 2 x3) (fun M_3 => lt (uM M_3 k0 3 x4) (fun M_4 => lt (uM M_4 k0 4 x5) (fun M_5 => some M_5)))))
set_option maxRecDepth 20000 in
set_option maxHeartbeats 2000000 in
theorem w_X3_tell_0 {x : xC} (C : CtC x RX3 cX3_tell 6 ({ frames := 0, cells := 0, slots := 0, locals := 0 } : Room)) (M : xM) (k0 : Nat) (x1 : Int32) (x2 : Int32) (x3 : Int32) (x4 : Int32) (x5 : Int32) (h0 : KO k0) (o : xM) (h : b_X3_tell_0 M k0 x1 x2 x3 x4 x5 = some o) (hr : (x_me x).sig.returnType = none) (ev : x_rv x = none) (eM : x_M x = o) : J x M 0 [(0, .ref (x_ad x k0)), (1, .int x1), (2, .int x2), (3, .int x3), (4, .int x4), (5, .int x5)] [] := by
  unfold b_X3_tell_0 at h
  refine r_aload_n C.1 0 dX3_tell_0 rfl rfl ?_
  refine r_iload_n C.1 1 dX3_tell_1 rfl rfl ?_
  obtain ⟨M_1, eM_1, h⟩ := lt_E h
  refine pfk_X3_9 C h0 eM_1 dX3_tell_2 ?_
  refine r_aload_n C.1 0 dX3_tell_5 rfl rfl ?_
  refine r_iload_n C.1 2 dX3_tell_6 rfl rfl ?_
  obtain ⟨M_2, eM_2, h⟩ := lt_E h
  refine pfk_X3_15 C h0 eM_2 dX3_tell_7 ?_
  refine r_aload_n C.1 0 dX3_tell_10 rfl rfl ?_
  refine r_iload_n C.1 3 dX3_tell_11 rfl rfl ?_
  obtain ⟨M_3, eM_3, h⟩ := lt_E h
  refine pfk_X3_18 C h0 eM_3 dX3_tell_12 ?_
  refine r_aload_n C.1 0 dX3_tell_15 rfl rfl ?_
  refine r_iload C.1 4 dX3_tell_16 rfl ?_
  obtain ⟨M_4, eM_4, h⟩ := lt_E h
  refine pfk_X3_21 C h0 eM_4 dX3_tell_18 ?_
  refine r_aload_n C.1 0 dX3_tell_21 rfl rfl ?_
  refine r_iload C.1 5 dX3_tell_22 rfl ?_
  obtain ⟨M_5, eM_5, h⟩ := lt_E h
  refine pfk_X3_24 C h0 eM_5 dX3_tell_24 ?_
  obtain rfl := Option.some.inj h
  exact r_vret C.1 hr ev eM dX3_tell_27
def f_X3_tell (M : xM) (k0 : Nat) (x1 : Int32) (x2 : Int32) (x3 : Int32) (x4 : Int32) (x5 : Int32) : Option (xM) := b_X3_tell_0 M k0 x1 x2 x3 x4 x5
set_option maxRecDepth 20000 in
theorem m_X3_tell (l : Launch) (D : va_G) (ad : Nat → Nat) (M : xM) (k0 : Nat) (x1 : Int32) (x2 : Int32) (x3 : Int32) (x4 : Int32) (x5 : Int32) (h0 : KO k0) {o : xM} (h : f_X3_tell M k0 x1 x2 x3 x4 x5 = some o) : xMetC l yX3_tell cX3_tell 6 none ({ frames := 0, cells := 0, slots := 0, locals := 0 } : Room) [.ref (ad k0), .int x1, .int x2, .int x3, .int x4, .int x5] D ad M none o := by
  refine xMetC_of (own := RX3) (by decide) rfl (Nat.le_of_ble_eq_true rfl) ?_
  intro x C e1 e2 e3 ev eM hr
  subst e1; subst e2; subst e3
  refine r_sub (L := [(0, .ref (x_ad x k0)), (1, .int x1), (2, .int x2), (3, .int x3), (4, .int x4), (5, .int x5)]) (L' := [(0, .ref (x_ad x k0)), (1, .int x1), (2, .int x2), (3, .int x3), (4, .int x4), (5, .int x5)]) [0, 1, 2, 3, 4, 5] rfl ?_
  exact w_X3_tell_0 C M k0 x1 x2 x3 x4 x5 h0 _ h hr ev eM

def bl_X1_become_110 (M : xM) (k0 : Nat) (k1 : Nat) (x2 : Int32) : Option ((xM × Int32) ⊕ (xM)) :=
  if (M k0 7) ≤ x2 then some (.inr M) else gd x2 12 (gd x2 12 (bd (f_X3_tell M (k0 + 68 + x2.toNatClampNeg) (M (k1 + 68 + x2.toNatClampNeg) 0) (M (k1 + 68 + x2.toNatClampNeg) 1) (M (k1 + 68 + x2.toNatClampNeg) 2) (M (k1 + 68 + x2.toNatClampNeg) 3) (M (k1 + 68 + x2.toNatClampNeg) 4)) (fun M_6 => lt (x2 + (1 : Int32)) (fun y_7 => some (.inl (M_6, y_7))))))
set_option maxRecDepth 20000 in
set_option maxHeartbeats 2000000 in
theorem wl_X1_become_110 {x : xC} (C : CtC x RX1 cX1_become 4 ({ frames := 3, cells := 0, slots := 0, locals := 81 } : Room)) (M : xM) (k0 : Nat) (k1 : Nat) (x2 : Int32) (h0 : KB k0) (h1 : KB k1) (o : (xM × Int32) ⊕ (xM)) (h : bl_X1_become_110 M k0 k1 x2 = some o) (kh : ∀ s : xM × Int32, o = .inl s → J x s.1 110 [(0, .ref (x_ad x k0)), (1, .ref (x_ad x k1)), (2, .int s.2)] []) (ke_0 : ∀ v : xM, o = .inr v → J x v 160 [] []) : J x M 110 [(0, .ref (x_ad x k0)), (1, .ref (x_ad x k1)), (2, .int x2)] [] := by
  unfold bl_X1_become_110 at h
  refine r_iload_n C.1 2 dX1_become_110 rfl rfl ?_
  refine r_aload_n C.1 0 dX1_become_111 rfl rfl ?_
  refine gfk_X1_44 C h0 dX1_become_112 ?_
  refine r_icmp_ge C.1 160 dX1_become_115 (by decide) (fun c_1 => ?_) (fun c_1 => ?_)
  · replace h := ite_T c_1 h
    exact r_sub [] rfl (ke_0 _ (Option.some.inj h).symm)
  · replace h := ite_F c_1 h
    refine r_aload_n C.1 1 dX1_become_118 rfl rfl ?_
    refine gfk_X1_49 C h1 dX1_become_119 ?_
    refine r_iload_n C.1 2 dX1_become_122 rfl rfl ?_
    obtain ⟨q_2, h⟩ := gd_E h
    refine r_aldq C.1 (cK C (kB5 h1)) (cS C (sh_B5 h1)) 4 (cT4 C) q_2 (y := x_ad x (k1 + 68 + x2.toNatClampNeg)) rfl dX1_become_123 ?_
    refine r_astore_n C.1 [(3, .ref (x_ad x (k1 + 68 + x2.toNatClampNeg))), (0, .ref (x_ad x k0)), (1, .ref (x_ad x k1)), (2, .int x2)] dX1_become_124 rfl (by decide) rfl ?_
    refine r_aload_n C.1 1 dX1_become_125 rfl rfl ?_
    refine gfk_X1_49 C h0 dX1_become_126 ?_
    refine r_iload_n C.1 3 dX1_become_129 rfl rfl ?_
    obtain ⟨q_3, h⟩ := gd_E h
    refine r_aldq C.1 (cK C (kB5 h0)) (cS C (sh_B5 h0)) 4 (cT4 C) q_3 (y := x_ad x (k0 + 68 + x2.toNatClampNeg)) rfl dX1_become_130 ?_
    refine r_aload_n C.1 0 dX1_become_131 rfl rfl ?_
    refine gfk_X1_80 C (kO_at h1 (vp_lt q_2)) dX1_become_132 ?_
    refine r_aload_n C.1 0 dX1_become_135 rfl rfl ?_
    refine gfk_X1_82 C (kO_at h1 (vp_lt q_2)) dX1_become_136 ?_
    refine r_aload_n C.1 0 dX1_become_139 rfl rfl ?_
    refine gfk_X1_85 C (kO_at h1 (vp_lt q_2)) dX1_become_140 ?_
    refine r_aload_n C.1 0 dX1_become_143 rfl rfl ?_
    refine gfk_X1_88 C (kO_at h1 (vp_lt q_2)) dX1_become_144 ?_
    refine r_aload_n C.1 0 dX1_become_147 rfl rfl ?_
    refine gfk_X1_91 C (kO_at h1 (vp_lt q_2)) dX1_become_148 ?_
    obtain ⟨M_6, hc_5, h⟩ := bd_E h
    refine cl_X1_94 C (kO_at h0 (vp_lt q_3)) ⟨Nat.le_of_ble_eq_true rfl, Nat.le_of_ble_eq_true rfl⟩ (m_X3_tell _ _ _ M (k0 + 68 + x2.toNatClampNeg) (M (k1 + 68 + x2.toNatClampNeg) 0) (M (k1 + 68 + x2.toNatClampNeg) 1) (M (k1 + 68 + x2.toNatClampNeg) 2) (M (k1 + 68 + x2.toNatClampNeg) 3) (M (k1 + 68 + x2.toNatClampNeg) 4) (kO_at h0 (vp_lt q_3)) hc_5) (Nat.le_of_ble_eq_true rfl) dX1_become_151 ?_
    obtain ⟨y_7, ey_7, h⟩ := lt_E h
    refine r_iinc C.1 3 [(2, .int y_7), (3, .ref (x_ad x (k1 + 68 + x2.toNatClampNeg))), (0, .ref (x_ad x k0)), (1, .ref (x_ad x k1))] dX1_become_154 rfl ey_7 (by decide) rfl ?_
    refine r_goto C.1 110 dX1_become_157 (by decide) ?_
    exact r_sub [2, 3, 0] rfl (kh _ (Option.some.inj h).symm)

def b_X1_become_110 (M : xM) (k0 : Nat) (k1 : Nat) (x2 : Int32) : Option (xM) :=
  bd (loopN (fun s : xM × Int32 => bl_X1_become_110 s.1 k0 k1 s.2) BG (M, x2)) (fun v => some v)
set_option maxRecDepth 20000 in
set_option maxHeartbeats 2000000 in
theorem w_X1_become_110 {x : xC} (C : CtC x RX1 cX1_become 4 ({ frames := 3, cells := 0, slots := 0, locals := 81 } : Room)) (M : xM) (k0 : Nat) (k1 : Nat) (x2 : Int32) (h0 : KB k0) (h1 : KB k1) (o : xM) (h : b_X1_become_110 M k0 k1 x2 = some o) (hr : (x_me x).sig.returnType = none) (ev : x_rv x = none) (eM : x_M x = o) : J x M 110 [(0, .ref (x_ad x k0)), (1, .ref (x_ad x k1)), (2, .int x2)] [] := by
  unfold b_X1_become_110 at h
  obtain ⟨r_0, hr_0, h⟩ := bd_E h
  refine loopN_ind (JJ := fun s => J x s.1 110 [(0, .ref (x_ad x k0)), (1, .ref (x_ad x k1)), (2, .int s.2)] []) (KX := fun q => q = r_0) ?_ BG (M, x2) r_0 hr_0 rfl
  intro s o1 hb kk1 kk2
  refine wl_X1_become_110 C s.1 k0 k1 s.2 h0 h1 _ hb kk1 ?_
  · intro v e0
    have e1 := kk2 _ e0
    subst e1
    obtain rfl := Option.some.inj h
    exact r_vret C.1 hr ev eM dX1_become_160

def bl_X1_become_79 (M : xM) (k0 : Nat) (k1 : Nat) (x2 : Int32) : Option ((xM × Int32) ⊕ (xM)) :=
  if (M k0 5) ≤ x2 then some (.inr M) else gd x2 40 (gd x2 40 (bd (f_X2_become M (k0 + 28 + x2.toNatClampNeg) (k1 + 28 + x2.toNatClampNeg)) (fun M_6 => lt (x2 + (1 : Int32)) (fun y_7 => some (.inl (M_6, y_7))))))
set_option maxRecDepth 20000 in
set_option maxHeartbeats 2000000 in
theorem wl_X1_become_79 {x : xC} (C : CtC x RX1 cX1_become 4 ({ frames := 3, cells := 0, slots := 0, locals := 81 } : Room)) (M : xM) (k0 : Nat) (k1 : Nat) (x2 : Int32) (h0 : KB k0) (h1 : KB k1) (o : (xM × Int32) ⊕ (xM)) (h : bl_X1_become_79 M k0 k1 x2 = some o) (kh : ∀ s : xM × Int32, o = .inl s → J x s.1 79 [(0, .ref (x_ad x k0)), (1, .ref (x_ad x k1)), (2, .int s.2)] []) (ke_0 : ∀ v : xM, o = .inr v → J x v 108 [(0, .ref (x_ad x k0)), (1, .ref (x_ad x k1))] []) : J x M 79 [(0, .ref (x_ad x k0)), (1, .ref (x_ad x k1)), (2, .int x2)] [] := by
  unfold bl_X1_become_79 at h
  refine r_iload_n C.1 2 dX1_become_79 rfl rfl ?_
  refine r_aload_n C.1 0 dX1_become_80 rfl rfl ?_
  refine gfk_X1_35 C h0 dX1_become_81 ?_
  refine r_icmp_ge C.1 108 dX1_become_84 (by decide) (fun c_1 => ?_) (fun c_1 => ?_)
  · replace h := ite_T c_1 h
    exact r_sub [0, 1] rfl (ke_0 _ (Option.some.inj h).symm)
  · replace h := ite_F c_1 h
    refine r_aload_n C.1 0 dX1_become_87 rfl rfl ?_
    refine gfk_X1_40 C h0 dX1_become_88 ?_
    refine r_iload_n C.1 2 dX1_become_91 rfl rfl ?_
    obtain ⟨q_2, h⟩ := gd_E h
    refine r_aldq C.1 (cK C (kB4 h0)) (cS C (sh_B4 h0)) 3 (cT3 C) q_2 (y := x_ad x (k0 + 28 + x2.toNatClampNeg)) rfl dX1_become_92 ?_
    refine r_aload_n C.1 1 dX1_become_93 rfl rfl ?_
    refine gfk_X1_40 C h1 dX1_become_94 ?_
    refine r_iload_n C.1 2 dX1_become_97 rfl rfl ?_
    obtain ⟨q_3, h⟩ := gd_E h
    refine r_aldq C.1 (cK C (kB4 h1)) (cS C (sh_B4 h1)) 3 (cT3 C) q_3 (y := x_ad x (k1 + 28 + x2.toNatClampNeg)) rfl dX1_become_98 ?_
    obtain ⟨M_6, hc_5, h⟩ := bd_E h
    refine cl_X1_77 C (kE_at h0 (vp_lt q_2)) ⟨Nat.le_of_ble_eq_true rfl, Nat.le_of_ble_eq_true rfl⟩ (m_X2_become _ _ _ M (k0 + 28 + x2.toNatClampNeg) (k1 + 28 + x2.toNatClampNeg) (kE_at h0 (vp_lt q_2)) (kE_at h1 (vp_lt q_3)) hc_5) (Nat.le_of_ble_eq_true rfl) dX1_become_99 ?_
    obtain ⟨y_7, ey_7, h⟩ := lt_E h
    refine r_iinc C.1 2 [(2, .int y_7), (0, .ref (x_ad x k0)), (1, .ref (x_ad x k1))] dX1_become_102 rfl ey_7 (by decide) rfl ?_
    refine r_goto C.1 79 dX1_become_105 (by decide) ?_
    exact r_sub [1, 2, 0] rfl (kh _ (Option.some.inj h).symm)

def b_X1_become_79 (M : xM) (k0 : Nat) (k1 : Nat) (x2 : Int32) : Option (xM) :=
  bd (loopN (fun s : xM × Int32 => bl_X1_become_79 s.1 k0 k1 s.2) BG (M, x2)) (fun v => b_X1_become_110 v k0 k1 (0 : Int32))
set_option maxRecDepth 20000 in
set_option maxHeartbeats 2000000 in
theorem w_X1_become_79 {x : xC} (C : CtC x RX1 cX1_become 4 ({ frames := 3, cells := 0, slots := 0, locals := 81 } : Room)) (M : xM) (k0 : Nat) (k1 : Nat) (x2 : Int32) (h0 : KB k0) (h1 : KB k1) (o : xM) (h : b_X1_become_79 M k0 k1 x2 = some o) (hr : (x_me x).sig.returnType = none) (ev : x_rv x = none) (eM : x_M x = o) : J x M 79 [(0, .ref (x_ad x k0)), (1, .ref (x_ad x k1)), (2, .int x2)] [] := by
  unfold b_X1_become_79 at h
  obtain ⟨r_0, hr_0, h⟩ := bd_E h
  refine loopN_ind (JJ := fun s => J x s.1 79 [(0, .ref (x_ad x k0)), (1, .ref (x_ad x k1)), (2, .int s.2)] []) (KX := fun q => q = r_0) ?_ BG (M, x2) r_0 hr_0 rfl
  intro s o1 hb kk1 kk2
  refine wl_X1_become_79 C s.1 k0 k1 s.2 h0 h1 _ hb kk1 ?_
  · intro v e0
    have e1 := kk2 _ e0
    subst e1
    refine r_iconst (v := 0) C.1 dX1_become_108 rfl ?_
    refine r_istore_n C.1 [(2, .int (0 : Int32)), (0, .ref (x_ad x k0)), (1, .ref (x_ad x k1))] dX1_become_109 rfl (by decide) rfl rfl ?_
    exact r_sub [1, 2, 0] rfl (w_X1_become_110 C v k0 k1 (0 : Int32) h0 h1 _ h hr ev eM)

def bl_X1_become_48 (M : xM) (k0 : Nat) (k1 : Nat) (x2 : Int32) : Option ((xM × Int32) ⊕ (xM)) :=
  if (M k0 3) ≤ x2 then some (.inr M) else gd x2 4 (gd x2 4 (bd (f_X8_become M (k0 + 8 + 5 * x2.toNatClampNeg) (k1 + 8 + 5 * x2.toNatClampNeg)) (fun M_6 => lt (x2 + (1 : Int32)) (fun y_7 => some (.inl (M_6, y_7))))))
set_option maxRecDepth 20000 in
set_option maxHeartbeats 2000000 in
theorem wl_X1_become_48 {x : xC} (C : CtC x RX1 cX1_become 4 ({ frames := 3, cells := 0, slots := 0, locals := 81 } : Room)) (M : xM) (k0 : Nat) (k1 : Nat) (x2 : Int32) (h0 : KB k0) (h1 : KB k1) (o : (xM × Int32) ⊕ (xM)) (h : bl_X1_become_48 M k0 k1 x2 = some o) (kh : ∀ s : xM × Int32, o = .inl s → J x s.1 48 [(0, .ref (x_ad x k0)), (1, .ref (x_ad x k1)), (2, .int s.2)] []) (ke_0 : ∀ v : xM, o = .inr v → J x v 77 [(0, .ref (x_ad x k0)), (1, .ref (x_ad x k1))] []) : J x M 48 [(0, .ref (x_ad x k0)), (1, .ref (x_ad x k1)), (2, .int x2)] [] := by
  unfold bl_X1_become_48 at h
  refine r_iload_n C.1 2 dX1_become_48 rfl rfl ?_
  refine r_aload_n C.1 0 dX1_become_49 rfl rfl ?_
  refine gfk_X1_26 C h0 dX1_become_50 ?_
  refine r_icmp_ge C.1 77 dX1_become_53 (by decide) (fun c_1 => ?_) (fun c_1 => ?_)
  · replace h := ite_T c_1 h
    exact r_sub [0, 1] rfl (ke_0 _ (Option.some.inj h).symm)
  · replace h := ite_F c_1 h
    refine r_aload_n C.1 0 dX1_become_56 rfl rfl ?_
    refine gfk_X1_31 C h0 dX1_become_57 ?_
    refine r_iload_n C.1 2 dX1_become_60 rfl rfl ?_
    obtain ⟨q_2, h⟩ := gd_E h
    refine r_aldq C.1 (cK C (kB3 h0)) (cS C (sh_B3 h0)) 2 (cT2 C) q_2 (y := x_ad x (k0 + 8 + 5 * x2.toNatClampNeg)) rfl dX1_become_61 ?_
    refine r_aload_n C.1 1 dX1_become_62 rfl rfl ?_
    refine gfk_X1_31 C h1 dX1_become_63 ?_
    refine r_iload_n C.1 2 dX1_become_66 rfl rfl ?_
    obtain ⟨q_3, h⟩ := gd_E h
    refine r_aldq C.1 (cK C (kB3 h1)) (cS C (sh_B3 h1)) 2 (cT2 C) q_3 (y := x_ad x (k1 + 8 + 5 * x2.toNatClampNeg)) rfl dX1_become_67 ?_
    obtain ⟨M_6, hc_5, h⟩ := bd_E h
    refine cl_X1_73 C (kW_at h0 (vp_lt q_2)) ⟨Nat.le_of_ble_eq_true rfl, Nat.le_of_ble_eq_true rfl⟩ (m_X8_become _ _ _ M (k0 + 8 + 5 * x2.toNatClampNeg) (k1 + 8 + 5 * x2.toNatClampNeg) (kW_at h0 (vp_lt q_2)) (kW_at h1 (vp_lt q_3)) hc_5) (Nat.le_of_ble_eq_true rfl) dX1_become_68 ?_
    obtain ⟨y_7, ey_7, h⟩ := lt_E h
    refine r_iinc C.1 2 [(2, .int y_7), (0, .ref (x_ad x k0)), (1, .ref (x_ad x k1))] dX1_become_71 rfl ey_7 (by decide) rfl ?_
    refine r_goto C.1 48 dX1_become_74 (by decide) ?_
    exact r_sub [1, 2, 0] rfl (kh _ (Option.some.inj h).symm)

def b_X1_become_48 (M : xM) (k0 : Nat) (k1 : Nat) (x2 : Int32) : Option (xM) :=
  bd (loopN (fun s : xM × Int32 => bl_X1_become_48 s.1 k0 k1 s.2) BG (M, x2)) (fun v => b_X1_become_79 v k0 k1 (0 : Int32))
set_option maxRecDepth 20000 in
set_option maxHeartbeats 2000000 in
theorem w_X1_become_48 {x : xC} (C : CtC x RX1 cX1_become 4 ({ frames := 3, cells := 0, slots := 0, locals := 81 } : Room)) (M : xM) (k0 : Nat) (k1 : Nat) (x2 : Int32) (h0 : KB k0) (h1 : KB k1) (o : xM) (h : b_X1_become_48 M k0 k1 x2 = some o) (hr : (x_me x).sig.returnType = none) (ev : x_rv x = none) (eM : x_M x = o) : J x M 48 [(0, .ref (x_ad x k0)), (1, .ref (x_ad x k1)), (2, .int x2)] [] := by
  unfold b_X1_become_48 at h
  obtain ⟨r_0, hr_0, h⟩ := bd_E h
  refine loopN_ind (JJ := fun s => J x s.1 48 [(0, .ref (x_ad x k0)), (1, .ref (x_ad x k1)), (2, .int s.2)] []) (KX := fun q => q = r_0) ?_ BG (M, x2) r_0 hr_0 rfl
  intro s o1 hb kk1 kk2
  refine wl_X1_become_48 C s.1 k0 k1 s.2 h0 h1 _ hb kk1 ?_
  · intro v e0
    have e1 := kk2 _ e0
    subst e1
    refine r_iconst (v := 0) C.1 dX1_become_77 rfl ?_
    refine r_istore_n C.1 [(2, .int (0 : Int32)), (0, .ref (x_ad x k0)), (1, .ref (x_ad x k1))] dX1_become_78 rfl (by decide) rfl rfl ?_
    exact r_sub [1, 2, 0] rfl (w_X1_become_79 C v k0 k1 (0 : Int32) h0 h1 _ h hr ev eM)

def b_X1_become_0 (M : xM) (b0 : Nat) (b1 : Nat) : Option (xM) :=
  lt (uC M (b1 + 2) (b0 + 2) 3) (fun M_1 => lt (uM M_1 b0 1 (M_1 b1 1)) (fun M_2 => lt (uM M_2 b0 3 (M_2 b1 3)) (fun M_3 => lt (uM M_3 b0 5 (M_3 b1 5)) (fun M_4 => lt (uM M_4 b0 7 (M_4 b1 7)) (fun M_5 => b_X1_become_48 M_5 b0 b1 (0 : Int32))))))
set_option maxRecDepth 20000 in
set_option maxHeartbeats 2000000 in
theorem w_X1_become_0 {x : xC} (C : CtC x RX1 cX1_become 4 ({ frames := 3, cells := 0, slots := 0, locals := 81 } : Room)) (M : xM) (b0 : Nat) (b1 : Nat) (h0 : KB b0) (h1 : KB b1) (o : xM) (h : b_X1_become_0 M b0 b1 = some o) (hr : (x_me x).sig.returnType = none) (ev : x_rv x = none) (eM : x_M x = o) : J x M 0 [(0, .ref (x_ad x b0)), (1, .ref (x_ad x b1))] [] := by
  unfold b_X1_become_0 at h
  refine r_aload_n C.1 1 dX1_become_0 rfl rfl ?_
  refine gfk_X1_23 C h1 dX1_become_1 ?_
  refine r_iconst (v := 0) C.1 dX1_become_4 rfl ?_
  refine r_aload_n C.1 0 dX1_become_5 rfl rfl ?_
  refine gfk_X1_23 C h0 dX1_become_6 ?_
  refine r_iconst (v := 0) C.1 dX1_become_9 rfl ?_
  refine r_iconst (v := 3) C.1 dX1_become_10 rfl ?_
  obtain ⟨M_1, eM_1, h⟩ := lt_E h
  refine r_copy C.1 ⟨kw_458, kw_460, kw_459, kw_17⟩ (cK C (kB2 h1)) (cK C (kB2 h0)) (cS C (sh_B2 h1)) (cS C (sh_B2 h0)) 0 (cT0 C) (N := 3) (by decide) (by decide) (by decide) (by decide) (by decide) (by decide) (Nat.le_of_ble_eq_true rfl) eM_1 dX1_become_11 ?_
  refine r_aload_n C.1 0 dX1_become_14 rfl rfl ?_
  refine r_aload_n C.1 1 dX1_become_15 rfl rfl ?_
  refine gfk_X1_19 C h1 dX1_become_16 ?_
  obtain ⟨M_2, eM_2, h⟩ := lt_E h
  refine pfk_X1_19 C h0 eM_2 dX1_become_19 ?_
  refine r_aload_n C.1 0 dX1_become_22 rfl rfl ?_
  refine r_aload_n C.1 1 dX1_become_23 rfl rfl ?_
  refine gfk_X1_26 C h1 dX1_become_24 ?_
  obtain ⟨M_3, eM_3, h⟩ := lt_E h
  refine pfk_X1_26 C h0 eM_3 dX1_become_27 ?_
  refine r_aload_n C.1 0 dX1_become_30 rfl rfl ?_
  refine r_aload_n C.1 1 dX1_become_31 rfl rfl ?_
  refine gfk_X1_35 C h1 dX1_become_32 ?_
  obtain ⟨M_4, eM_4, h⟩ := lt_E h
  refine pfk_X1_35 C h0 eM_4 dX1_become_35 ?_
  refine r_aload_n C.1 0 dX1_become_38 rfl rfl ?_
  refine r_aload_n C.1 1 dX1_become_39 rfl rfl ?_
  refine gfk_X1_44 C h1 dX1_become_40 ?_
  obtain ⟨M_5, eM_5, h⟩ := lt_E h
  refine pfk_X1_44 C h0 eM_5 dX1_become_43 ?_
  refine r_iconst (v := 0) C.1 dX1_become_46 rfl ?_
  refine r_istore_n C.1 [(2, .int (0 : Int32)), (0, .ref (x_ad x b0)), (1, .ref (x_ad x b1))] dX1_become_47 rfl (by decide) rfl rfl ?_
  exact r_sub [1, 2, 0] rfl (w_X1_become_48 C M_5 b0 b1 (0 : Int32) h0 h1 _ h hr ev eM)
def f_X1_become (M : xM) (b0 : Nat) (b1 : Nat) : Option (xM) := b_X1_become_0 M b0 b1
set_option maxRecDepth 20000 in
theorem m_X1_become (l : Launch) (D : va_G) (ad : Nat → Nat) (M : xM) (b0 : Nat) (b1 : Nat) (h0 : KB b0) (h1 : KB b1) {o : xM} (h : f_X1_become M b0 b1 = some o) : xMetC l yX1_become cX1_become 4 none ({ frames := 3, cells := 0, slots := 0, locals := 81 } : Room) [.ref (ad b0), .ref (ad b1)] D ad M none o := by
  refine xMetC_of (own := RX1) (by decide) rfl (Nat.le_of_ble_eq_true rfl) ?_
  intro x C e1 e2 e3 ev eM hr
  subst e1; subst e2; subst e3
  refine r_sub (L := [(0, .ref (x_ad x b0)), (1, .ref (x_ad x b1))]) (L' := [(0, .ref (x_ad x b0)), (1, .ref (x_ad x b1))]) [0, 1] rfl ?_
  exact w_X1_become_0 C M b0 b1 h0 h1 _ h hr ev eM

def b_X1_hasGuardian_17 (M : xM) (s0 : Int32) : Option (Int32) :=
  gz s0 (some s0)
set_option maxRecDepth 20000 in
set_option maxHeartbeats 2000000 in
theorem w_X1_hasGuardian_17 {x : xC} (C : CtC x RX1 cX1_hasGuardian 2 ({ frames := 0, cells := 0, slots := 0, locals := 0 } : Room)) (M : xM) (s0 : Int32)  (o : Int32) (h : b_X1_hasGuardian_17 M s0 = some o) (hr : (x_me x).sig.returnType = some .boolean) (ev : x_rv x = some (.int o)) (eM : x_M x = M) : J x M 17 [] [.int s0] := by
  unfold b_X1_hasGuardian_17 at h
  obtain ⟨z_1, h⟩ := gz_E h
  obtain rfl := Option.some.inj h
  exact r_zret C.1 hr (nz_n z_1) ev eM dX1_hasGuardian_17

def b_X1_hasGuardian_16 (M : xM)  : Option (Int32) :=
  b_X1_hasGuardian_17 M (0 : Int32)
set_option maxRecDepth 20000 in
set_option maxHeartbeats 2000000 in
theorem w_X1_hasGuardian_16 {x : xC} (C : CtC x RX1 cX1_hasGuardian 2 ({ frames := 0, cells := 0, slots := 0, locals := 0 } : Room)) (M : xM)   (o : Int32) (h : b_X1_hasGuardian_16 M = some o) (hr : (x_me x).sig.returnType = some .boolean) (ev : x_rv x = some (.int o)) (eM : x_M x = M) : J x M 16 [] [] := by
  unfold b_X1_hasGuardian_16 at h
  refine r_iconst (v := 0) C.1 dX1_hasGuardian_16 rfl ?_
  exact r_sub [] rfl (w_X1_hasGuardian_17 C M (0 : Int32) _ h hr ev eM)

def b_X1_hasGuardian_0 (M : xM) (x1 : Int32) : Option (Int32) :=
  if x1 < 0 then b_X1_hasGuardian_16 M else if (M 17 1) ≤ x1 then b_X1_hasGuardian_16 M else b_X1_hasGuardian_17 M (1 : Int32)
set_option maxRecDepth 20000 in
set_option maxHeartbeats 2000000 in
theorem w_X1_hasGuardian_0 {x : xC} (C : CtC x RX1 cX1_hasGuardian 2 ({ frames := 0, cells := 0, slots := 0, locals := 0 } : Room)) (M : xM) (x1 : Int32)  (o : Int32) (h : b_X1_hasGuardian_0 M x1 = some o) (hr : (x_me x).sig.returnType = some .boolean) (ev : x_rv x = some (.int o)) (eM : x_M x = M) : J x M 0 [(0, .ref (x_ad x 17)), (1, .int x1)] [] := by
  unfold b_X1_hasGuardian_0 at h
  refine r_iload_n C.1 1 dX1_hasGuardian_0 rfl rfl ?_
  refine r_if_lt C.1 16 dX1_hasGuardian_1 (by decide) (fun c_1 => ?_) (fun c_1 => ?_)
  · replace h := ite_T c_1 h
    exact r_sub [] rfl (w_X1_hasGuardian_16 C M _ h hr ev eM)
  · replace h := ite_F c_1 h
    refine r_iload_n C.1 1 dX1_hasGuardian_4 rfl rfl ?_
    refine r_aload_n C.1 0 dX1_hasGuardian_5 rfl rfl ?_
    refine gf_X1_19_17 C dX1_hasGuardian_6 ?_
    refine r_icmp_ge C.1 16 dX1_hasGuardian_9 (by decide) (fun c_2 => ?_) (fun c_2 => ?_)
    · replace h := ite_T c_2 h
      exact r_sub [] rfl (w_X1_hasGuardian_16 C M _ h hr ev eM)
    · replace h := ite_F c_2 h
      refine r_iconst (v := 1) C.1 dX1_hasGuardian_12 rfl ?_
      refine r_goto C.1 17 dX1_hasGuardian_13 (by decide) ?_
      exact r_sub [] rfl (w_X1_hasGuardian_17 C M (1 : Int32) _ h hr ev eM)
def f_X1_hasGuardian (M : xM) (x1 : Int32) : Option (Int32) := b_X1_hasGuardian_0 M x1
set_option maxRecDepth 20000 in
theorem m_X1_hasGuardian (l : Launch) (D : va_G) (ad : Nat → Nat) (M : xM) (x1 : Int32)  {o : Int32} (h : f_X1_hasGuardian M x1 = some o) : xMetC l yX1_hasGuardian cX1_hasGuardian 2 (some .boolean) ({ frames := 0, cells := 0, slots := 0, locals := 0 } : Room) [.ref (ad 17), .int x1] D ad M (some (.int o)) M := by
  refine xMetC_of (own := RX1) (by decide) rfl (Nat.le_of_ble_eq_true rfl) ?_
  intro x C e1 e2 e3 ev eM hr
  subst e1; subst e2; subst e3
  refine r_sub (L := [(0, .ref (x_ad x 17)), (1, .int x1)]) (L' := [(0, .ref (x_ad x 17)), (1, .int x1)]) [0, 1] rfl ?_
  exact w_X1_hasGuardian_0 C M x1 _ h hr ev eM

def b_X1_hasWard_17 (M : xM) (s0 : Int32) : Option (Int32) :=
  gz s0 (some s0)
set_option maxRecDepth 20000 in
set_option maxHeartbeats 2000000 in
theorem w_X1_hasWard_17 {x : xC} (C : CtC x RX1 cX1_hasWard 2 ({ frames := 0, cells := 0, slots := 0, locals := 0 } : Room)) (M : xM) (s0 : Int32)  (o : Int32) (h : b_X1_hasWard_17 M s0 = some o) (hr : (x_me x).sig.returnType = some .boolean) (ev : x_rv x = some (.int o)) (eM : x_M x = M) : J x M 17 [] [.int s0] := by
  unfold b_X1_hasWard_17 at h
  obtain ⟨z_1, h⟩ := gz_E h
  obtain rfl := Option.some.inj h
  exact r_zret C.1 hr (nz_n z_1) ev eM dX1_hasWard_17

def b_X1_hasWard_16 (M : xM)  : Option (Int32) :=
  b_X1_hasWard_17 M (0 : Int32)
set_option maxRecDepth 20000 in
set_option maxHeartbeats 2000000 in
theorem w_X1_hasWard_16 {x : xC} (C : CtC x RX1 cX1_hasWard 2 ({ frames := 0, cells := 0, slots := 0, locals := 0 } : Room)) (M : xM)   (o : Int32) (h : b_X1_hasWard_16 M = some o) (hr : (x_me x).sig.returnType = some .boolean) (ev : x_rv x = some (.int o)) (eM : x_M x = M) : J x M 16 [] [] := by
  unfold b_X1_hasWard_16 at h
  refine r_iconst (v := 0) C.1 dX1_hasWard_16 rfl ?_
  exact r_sub [] rfl (w_X1_hasWard_17 C M (0 : Int32) _ h hr ev eM)

def b_X1_hasWard_0 (M : xM) (x1 : Int32) : Option (Int32) :=
  if x1 < 0 then b_X1_hasWard_16 M else if (M 17 3) ≤ x1 then b_X1_hasWard_16 M else b_X1_hasWard_17 M (1 : Int32)
set_option maxRecDepth 20000 in
set_option maxHeartbeats 2000000 in
theorem w_X1_hasWard_0 {x : xC} (C : CtC x RX1 cX1_hasWard 2 ({ frames := 0, cells := 0, slots := 0, locals := 0 } : Room)) (M : xM) (x1 : Int32)  (o : Int32) (h : b_X1_hasWard_0 M x1 = some o) (hr : (x_me x).sig.returnType = some .boolean) (ev : x_rv x = some (.int o)) (eM : x_M x = M) : J x M 0 [(0, .ref (x_ad x 17)), (1, .int x1)] [] := by
  unfold b_X1_hasWard_0 at h
  refine r_iload_n C.1 1 dX1_hasWard_0 rfl rfl ?_
  refine r_if_lt C.1 16 dX1_hasWard_1 (by decide) (fun c_1 => ?_) (fun c_1 => ?_)
  · replace h := ite_T c_1 h
    exact r_sub [] rfl (w_X1_hasWard_16 C M _ h hr ev eM)
  · replace h := ite_F c_1 h
    refine r_iload_n C.1 1 dX1_hasWard_4 rfl rfl ?_
    refine r_aload_n C.1 0 dX1_hasWard_5 rfl rfl ?_
    refine gf_X1_26_17 C dX1_hasWard_6 ?_
    refine r_icmp_ge C.1 16 dX1_hasWard_9 (by decide) (fun c_2 => ?_) (fun c_2 => ?_)
    · replace h := ite_T c_2 h
      exact r_sub [] rfl (w_X1_hasWard_16 C M _ h hr ev eM)
    · replace h := ite_F c_2 h
      refine r_iconst (v := 1) C.1 dX1_hasWard_12 rfl ?_
      refine r_goto C.1 17 dX1_hasWard_13 (by decide) ?_
      exact r_sub [] rfl (w_X1_hasWard_17 C M (1 : Int32) _ h hr ev eM)
def f_X1_hasWard (M : xM) (x1 : Int32) : Option (Int32) := b_X1_hasWard_0 M x1
set_option maxRecDepth 20000 in
theorem m_X1_hasWard (l : Launch) (D : va_G) (ad : Nat → Nat) (M : xM) (x1 : Int32)  {o : Int32} (h : f_X1_hasWard M x1 = some o) : xMetC l yX1_hasWard cX1_hasWard 2 (some .boolean) ({ frames := 0, cells := 0, slots := 0, locals := 0 } : Room) [.ref (ad 17), .int x1] D ad M (some (.int o)) M := by
  refine xMetC_of (own := RX1) (by decide) rfl (Nat.le_of_ble_eq_true rfl) ?_
  intro x C e1 e2 e3 ev eM hr
  subst e1; subst e2; subst e3
  refine r_sub (L := [(0, .ref (x_ad x 17)), (1, .int x1)]) (L' := [(0, .ref (x_ad x 17)), (1, .int x1)]) [0, 1] rfl ?_
  exact w_X1_hasWard_0 C M x1 _ h hr ev eM

def b_X1_isPayment_30 (M : xM) (s0 : Int32) : Option (Int32) :=
  gz s0 (some s0)
set_option maxRecDepth 20000 in
set_option maxHeartbeats 2000000 in
theorem w_X1_isPayment_30 {x : xC} (C : CtC x RX1 cX1_isPayment 2 ({ frames := 0, cells := 0, slots := 0, locals := 0 } : Room)) (M : xM) (s0 : Int32)  (o : Int32) (h : b_X1_isPayment_30 M s0 = some o) (hr : (x_me x).sig.returnType = some .boolean) (ev : x_rv x = some (.int o)) (eM : x_M x = M) : J x M 30 [] [.int s0] := by
  unfold b_X1_isPayment_30 at h
  obtain ⟨z_1, h⟩ := gz_E h
  obtain rfl := Option.some.inj h
  exact r_zret C.1 hr (nz_n z_1) ev eM dX1_isPayment_30

def b_X1_isPayment_29 (M : xM)  : Option (Int32) :=
  b_X1_isPayment_30 M (0 : Int32)
set_option maxRecDepth 20000 in
set_option maxHeartbeats 2000000 in
theorem w_X1_isPayment_29 {x : xC} (C : CtC x RX1 cX1_isPayment 2 ({ frames := 0, cells := 0, slots := 0, locals := 0 } : Room)) (M : xM)   (o : Int32) (h : b_X1_isPayment_29 M = some o) (hr : (x_me x).sig.returnType = some .boolean) (ev : x_rv x = some (.int o)) (eM : x_M x = M) : J x M 29 [] [] := by
  unfold b_X1_isPayment_29 at h
  refine r_iconst (v := 0) C.1 dX1_isPayment_29 rfl ?_
  exact r_sub [] rfl (w_X1_isPayment_30 C M (0 : Int32) _ h hr ev eM)

def b_X1_isPayment_0 (M : xM) (x1 : Int32) : Option (Int32) :=
  if x1 < 0 then b_X1_isPayment_29 M else if (M 17 5) ≤ x1 then b_X1_isPayment_29 M else gd x1 40 (if (M (45 + x1.toNatClampNeg) 0) = (1 : Int32) then b_X1_isPayment_30 M (1 : Int32) else b_X1_isPayment_29 M)
set_option maxRecDepth 20000 in
set_option maxHeartbeats 2000000 in
theorem w_X1_isPayment_0 {x : xC} (C : CtC x RX1 cX1_isPayment 2 ({ frames := 0, cells := 0, slots := 0, locals := 0 } : Room)) (M : xM) (x1 : Int32)  (o : Int32) (h : b_X1_isPayment_0 M x1 = some o) (hr : (x_me x).sig.returnType = some .boolean) (ev : x_rv x = some (.int o)) (eM : x_M x = M) : J x M 0 [(0, .ref (x_ad x 17)), (1, .int x1)] [] := by
  unfold b_X1_isPayment_0 at h
  refine r_iload_n C.1 1 dX1_isPayment_0 rfl rfl ?_
  refine r_if_lt C.1 29 dX1_isPayment_1 (by decide) (fun c_1 => ?_) (fun c_1 => ?_)
  · replace h := ite_T c_1 h
    exact r_sub [] rfl (w_X1_isPayment_29 C M _ h hr ev eM)
  · replace h := ite_F c_1 h
    refine r_iload_n C.1 1 dX1_isPayment_4 rfl rfl ?_
    refine r_aload_n C.1 0 dX1_isPayment_5 rfl rfl ?_
    refine gf_X1_35_17 C dX1_isPayment_6 ?_
    refine r_icmp_ge C.1 29 dX1_isPayment_9 (by decide) (fun c_2 => ?_) (fun c_2 => ?_)
    · replace h := ite_T c_2 h
      exact r_sub [] rfl (w_X1_isPayment_29 C M _ h hr ev eM)
    · replace h := ite_F c_2 h
      refine r_aload_n C.1 0 dX1_isPayment_12 rfl rfl ?_
      refine gf_X1_40_17 C dX1_isPayment_13 ?_
      refine r_iload_n C.1 1 dX1_isPayment_16 rfl rfl ?_
      obtain ⟨q_3, h⟩ := gd_E h
      refine r_aldq C.1 (cK C (by decide)) (cS C (sh_21)) 3 (cT3 C) q_3 (y := x_ad x (45 + x1.toNatClampNeg)) rfl dX1_isPayment_17 ?_
      refine gfk_X1_115 C (kE_17 (vp_lt q_3)) dX1_isPayment_18 ?_
      refine r_iconst (v := 1) C.1 dX1_isPayment_21 rfl ?_
      refine r_icmp_ne C.1 29 dX1_isPayment_22 (by decide) (fun c_4 => ?_) (fun c_4 => ?_)
      · replace h := ite_F c_4 h
        exact r_sub [] rfl (w_X1_isPayment_29 C M _ h hr ev eM)
      · replace h := ite_T c_4 h
        refine r_iconst (v := 1) C.1 dX1_isPayment_25 rfl ?_
        refine r_goto C.1 30 dX1_isPayment_26 (by decide) ?_
        exact r_sub [] rfl (w_X1_isPayment_30 C M (1 : Int32) _ h hr ev eM)
def f_X1_isPayment (M : xM) (x1 : Int32) : Option (Int32) := b_X1_isPayment_0 M x1
set_option maxRecDepth 20000 in
theorem m_X1_isPayment (l : Launch) (D : va_G) (ad : Nat → Nat) (M : xM) (x1 : Int32)  {o : Int32} (h : f_X1_isPayment M x1 = some o) : xMetC l yX1_isPayment cX1_isPayment 2 (some .boolean) ({ frames := 0, cells := 0, slots := 0, locals := 0 } : Room) [.ref (ad 17), .int x1] D ad M (some (.int o)) M := by
  refine xMetC_of (own := RX1) (by decide) rfl (Nat.le_of_ble_eq_true rfl) ?_
  intro x C e1 e2 e3 ev eM hr
  subst e1; subst e2; subst e3
  refine r_sub (L := [(0, .ref (x_ad x 17)), (1, .int x1)]) (L' := [(0, .ref (x_ad x 17)), (1, .int x1)]) [0, 1] rfl ?_
  exact w_X1_isPayment_0 C M x1 _ h hr ev eM

def b_X1_holderOf_38 (M : xM) (x1 : Int32) (x2 : Int32) : Option ((Int32) ⊕ ((Int32) ⊕ (Unit))) :=
  lt (x2 + (1 : Int32)) (fun y_1 => some (.inl y_1))
set_option maxRecDepth 20000 in
set_option maxHeartbeats 2000000 in
theorem w_X1_holderOf_38 {x : xC} (C : CtC x RX1 cX1_holderOf 3 ({ frames := 0, cells := 0, slots := 0, locals := 0 } : Room)) (M : xM) (x1 : Int32) (x2 : Int32)  (o : (Int32) ⊕ ((Int32) ⊕ (Unit))) (h : b_X1_holderOf_38 M x1 x2 = some o) (kh : ∀ s : Int32, o = .inl s → J x M 2 [(0, .ref (x_ad x 17)), (1, .int x1), (2, .int s)] []) (ke_0 : ∀ v : Int32, o = .inr (.inl v) → J x M 36 [(2, .int v)] []) (ke_1 : ∀ v : Unit, o = .inr (.inr v) → J x M 44 [] []) : J x M 38 [(0, .ref (x_ad x 17)), (1, .int x1), (2, .int x2)] [] := by
  unfold b_X1_holderOf_38 at h
  obtain ⟨y_1, ey_1, h⟩ := lt_E h
  refine r_iinc C.1 2 [(2, .int y_1), (0, .ref (x_ad x 17)), (1, .int x1)] dX1_holderOf_38 rfl ey_1 (by decide) rfl ?_
  refine r_goto C.1 2 dX1_holderOf_41 (by decide) ?_
  exact r_sub [1, 2, 0] rfl (kh _ (Option.some.inj h).symm)

def bl_X1_holderOf_2 (M : xM) (x1 : Int32) (x2 : Int32) : Option ((Int32) ⊕ ((Int32) ⊕ (Unit))) :=
  if (M 17 5) ≤ x2 then some (.inr (.inr ())) else gd x2 40 (if (M (45 + x2.toNatClampNeg) 0) = (1 : Int32) then gd x2 40 (if (M (45 + x2.toNatClampNeg) 5) = x1 then some (.inr (.inl x2)) else b_X1_holderOf_38 M x1 x2) else b_X1_holderOf_38 M x1 x2)
set_option maxRecDepth 20000 in
set_option maxHeartbeats 2000000 in
theorem wl_X1_holderOf_2 {x : xC} (C : CtC x RX1 cX1_holderOf 3 ({ frames := 0, cells := 0, slots := 0, locals := 0 } : Room)) (M : xM) (x1 : Int32) (x2 : Int32)  (o : (Int32) ⊕ ((Int32) ⊕ (Unit))) (h : bl_X1_holderOf_2 M x1 x2 = some o) (kh : ∀ s : Int32, o = .inl s → J x M 2 [(0, .ref (x_ad x 17)), (1, .int x1), (2, .int s)] []) (ke_0 : ∀ v : Int32, o = .inr (.inl v) → J x M 36 [(2, .int v)] []) (ke_1 : ∀ v : Unit, o = .inr (.inr v) → J x M 44 [] []) : J x M 2 [(0, .ref (x_ad x 17)), (1, .int x1), (2, .int x2)] [] := by
  unfold bl_X1_holderOf_2 at h
  refine r_iload_n C.1 2 dX1_holderOf_2 rfl rfl ?_
  refine r_aload_n C.1 0 dX1_holderOf_3 rfl rfl ?_
  refine gf_X1_35_17 C dX1_holderOf_4 ?_
  refine r_icmp_ge C.1 44 dX1_holderOf_7 (by decide) (fun c_1 => ?_) (fun c_1 => ?_)
  · replace h := ite_T c_1 h
    exact r_sub [] rfl (ke_1 _ (Option.some.inj h).symm)
  · replace h := ite_F c_1 h
    refine r_aload_n C.1 0 dX1_holderOf_10 rfl rfl ?_
    refine gf_X1_40_17 C dX1_holderOf_11 ?_
    refine r_iload_n C.1 2 dX1_holderOf_14 rfl rfl ?_
    obtain ⟨q_2, h⟩ := gd_E h
    refine r_aldq C.1 (cK C (by decide)) (cS C (sh_21)) 3 (cT3 C) q_2 (y := x_ad x (45 + x2.toNatClampNeg)) rfl dX1_holderOf_15 ?_
    refine gfk_X1_115 C (kE_17 (vp_lt q_2)) dX1_holderOf_16 ?_
    refine r_iconst (v := 1) C.1 dX1_holderOf_19 rfl ?_
    refine r_icmp_ne C.1 38 dX1_holderOf_20 (by decide) (fun c_3 => ?_) (fun c_3 => ?_)
    · replace h := ite_F c_3 h
      exact r_sub [0, 1, 2] rfl (w_X1_holderOf_38 C M x1 x2 _ h kh ke_0 ke_1)
    · replace h := ite_T c_3 h
      refine r_aload_n C.1 0 dX1_holderOf_23 rfl rfl ?_
      refine gf_X1_40_17 C dX1_holderOf_24 ?_
      refine r_iload_n C.1 2 dX1_holderOf_27 rfl rfl ?_
      obtain ⟨q_4, h⟩ := gd_E h
      refine r_aldq C.1 (cK C (by decide)) (cS C (sh_21)) 3 (cT3 C) q_4 (y := x_ad x (45 + x2.toNatClampNeg)) rfl dX1_holderOf_28 ?_
      refine gfk_X1_118 C (kE_17 (vp_lt q_4)) dX1_holderOf_29 ?_
      refine r_iload_n C.1 1 dX1_holderOf_32 rfl rfl ?_
      refine r_icmp_ne C.1 38 dX1_holderOf_33 (by decide) (fun c_5 => ?_) (fun c_5 => ?_)
      · replace h := ite_F c_5 h
        exact r_sub [0, 1, 2] rfl (w_X1_holderOf_38 C M x1 x2 _ h kh ke_0 ke_1)
      · replace h := ite_T c_5 h
        exact r_sub [2] rfl (ke_0 _ (Option.some.inj h).symm)

def b_X1_holderOf_2 (M : xM) (x1 : Int32) (x2 : Int32) : Option (Int32) :=
  bd (loopN (fun s : Int32 => bl_X1_holderOf_2 M x1 s) BG x2) (fun r => sm r (fun v => some v) (fun v => some (-1 : Int32)))
set_option maxRecDepth 20000 in
set_option maxHeartbeats 2000000 in
theorem w_X1_holderOf_2 {x : xC} (C : CtC x RX1 cX1_holderOf 3 ({ frames := 0, cells := 0, slots := 0, locals := 0 } : Room)) (M : xM) (x1 : Int32) (x2 : Int32)  (o : Int32) (h : b_X1_holderOf_2 M x1 x2 = some o) (hr : (x_me x).sig.returnType = some .int) (ev : x_rv x = some (.int o)) (eM : x_M x = M) : J x M 2 [(0, .ref (x_ad x 17)), (1, .int x1), (2, .int x2)] [] := by
  unfold b_X1_holderOf_2 at h
  obtain ⟨r_0, hr_0, h⟩ := bd_E h
  refine loopN_ind (JJ := fun s => J x M 2 [(0, .ref (x_ad x 17)), (1, .int x1), (2, .int s)] []) (KX := fun q => q = r_0) ?_ BG x2 r_0 hr_0 rfl
  intro s o1 hb kk1 kk2
  refine wl_X1_holderOf_2 C M x1 s _ hb kk1 ?_ ?_
  · intro v e0
    have e1 := kk2 _ e0
    subst e1
    replace h := sm_l h
    refine r_iload_n C.1 0 dX1_holderOf_36 rfl rfl ?_
    obtain rfl := Option.some.inj h
    exact r_iret C.1 hr ev eM dX1_holderOf_37
  · intro v e0
    have e1 := kk2 _ e0
    subst e1
    replace h := sm_r h
    refine r_iconst (v := -1) C.1 dX1_holderOf_44 rfl ?_
    obtain rfl := Option.some.inj h
    exact r_iret C.1 hr ev eM dX1_holderOf_45

def b_X1_holderOf_0 (M : xM) (x1 : Int32) : Option (Int32) :=
  b_X1_holderOf_2 M x1 (0 : Int32)
set_option maxRecDepth 20000 in
set_option maxHeartbeats 2000000 in
theorem w_X1_holderOf_0 {x : xC} (C : CtC x RX1 cX1_holderOf 3 ({ frames := 0, cells := 0, slots := 0, locals := 0 } : Room)) (M : xM) (x1 : Int32)  (o : Int32) (h : b_X1_holderOf_0 M x1 = some o) (hr : (x_me x).sig.returnType = some .int) (ev : x_rv x = some (.int o)) (eM : x_M x = M) : J x M 0 [(0, .ref (x_ad x 17)), (1, .int x1)] [] := by
  unfold b_X1_holderOf_0 at h
  refine r_iconst (v := 0) C.1 dX1_holderOf_0 rfl ?_
  refine r_istore_n C.1 [(2, .int (0 : Int32)), (0, .ref (x_ad x 17)), (1, .int x1)] dX1_holderOf_1 rfl (by decide) rfl rfl ?_
  exact r_sub [1, 2, 0] rfl (w_X1_holderOf_2 C M x1 (0 : Int32) _ h hr ev eM)
def f_X1_holderOf (M : xM) (x1 : Int32) : Option (Int32) := b_X1_holderOf_0 M x1
set_option maxRecDepth 20000 in
theorem m_X1_holderOf (l : Launch) (D : va_G) (ad : Nat → Nat) (M : xM) (x1 : Int32)  {o : Int32} (h : f_X1_holderOf M x1 = some o) : xMetC l yX1_holderOf cX1_holderOf 3 (some .int) ({ frames := 0, cells := 0, slots := 0, locals := 0 } : Room) [.ref (ad 17), .int x1] D ad M (some (.int o)) M := by
  refine xMetC_of (own := RX1) (by decide) rfl (Nat.le_of_ble_eq_true rfl) ?_
  intro x C e1 e2 e3 ev eM hr
  subst e1; subst e2; subst e3
  refine r_sub (L := [(0, .ref (x_ad x 17)), (1, .int x1)]) (L' := [(0, .ref (x_ad x 17)), (1, .int x1)]) [0, 1] rfl ?_
  exact w_X1_holderOf_0 C M x1 _ h hr ev eM

def b_X10_lastDay_0 (M : xM) (x0 : Int32) : Option (Int32) :=
  some (((x0 * (360 : Int32)) + (360 : Int32)) - (1 : Int32))
set_option maxRecDepth 20000 in
set_option maxHeartbeats 2000000 in
theorem w_X10_lastDay_0 {x : xC} (C : CtC x RX10 cX10_lastDay 1 ({ frames := 0, cells := 0, slots := 0, locals := 0 } : Room)) (M : xM) (x0 : Int32)  (o : Int32) (h : b_X10_lastDay_0 M x0 = some o) (hr : (x_me x).sig.returnType = some .int) (ev : x_rv x = some (.int o)) (eM : x_M x = M) : J x M 0 [(0, .int x0)] [] := by
  unfold b_X10_lastDay_0 at h
  refine r_iload_n C.1 0 dX10_lastDay_0 rfl rfl ?_
  refine r_sipush (v := 360) C.1 dX10_lastDay_1 (by decide) ?_
  refine r_imul C.1 dX10_lastDay_4 ?_
  refine r_sipush (v := 360) C.1 dX10_lastDay_5 (by decide) ?_
  refine r_iadd C.1 dX10_lastDay_8 ?_
  refine r_iconst (v := 1) C.1 dX10_lastDay_9 rfl ?_
  refine r_isub C.1 dX10_lastDay_10 ?_
  obtain rfl := Option.some.inj h
  exact r_iret C.1 hr ev eM dX10_lastDay_11
def f_X10_lastDay (M : xM) (x0 : Int32) : Option (Int32) := b_X10_lastDay_0 M x0
set_option maxRecDepth 20000 in
theorem m_X10_lastDay (l : Launch) (D : va_G) (ad : Nat → Nat) (M : xM) (x0 : Int32)  {o : Int32} (h : f_X10_lastDay M x0 = some o) : xMetC l yX10_lastDay cX10_lastDay 1 (some .int) ({ frames := 0, cells := 0, slots := 0, locals := 0 } : Room) [.int x0] D ad M (some (.int o)) M := by
  refine xMetC_of (own := RX10) (by decide) rfl (Nat.le_of_ble_eq_true rfl) ?_
  intro x C e1 e2 e3 ev eM hr
  subst e1; subst e2; subst e3
  refine r_sub (L := [(0, .int x0)]) (L' := [(0, .int x0)]) [0] rfl ?_
  exact w_X10_lastDay_0 C M x0 _ h hr ev eM

def b_X10_firstDay_0 (M : xM) (x0 : Int32) : Option (Int32) :=
  some (x0 * (360 : Int32))
set_option maxRecDepth 20000 in
set_option maxHeartbeats 2000000 in
theorem w_X10_firstDay_0 {x : xC} (C : CtC x RX10 cX10_firstDay 1 ({ frames := 0, cells := 0, slots := 0, locals := 0 } : Room)) (M : xM) (x0 : Int32)  (o : Int32) (h : b_X10_firstDay_0 M x0 = some o) (hr : (x_me x).sig.returnType = some .int) (ev : x_rv x = some (.int o)) (eM : x_M x = M) : J x M 0 [(0, .int x0)] [] := by
  unfold b_X10_firstDay_0 at h
  refine r_iload_n C.1 0 dX10_firstDay_0 rfl rfl ?_
  refine r_sipush (v := 360) C.1 dX10_firstDay_1 (by decide) ?_
  refine r_imul C.1 dX10_firstDay_4 ?_
  obtain rfl := Option.some.inj h
  exact r_iret C.1 hr ev eM dX10_firstDay_5
def f_X10_firstDay (M : xM) (x0 : Int32) : Option (Int32) := b_X10_firstDay_0 M x0
set_option maxRecDepth 20000 in
theorem m_X10_firstDay (l : Launch) (D : va_G) (ad : Nat → Nat) (M : xM) (x0 : Int32)  {o : Int32} (h : f_X10_firstDay M x0 = some o) : xMetC l yX10_firstDay cX10_firstDay 1 (some .int) ({ frames := 0, cells := 0, slots := 0, locals := 0 } : Room) [.int x0] D ad M (some (.int o)) M := by
  refine xMetC_of (own := RX10) (by decide) rfl (Nat.le_of_ble_eq_true rfl) ?_
  intro x C e1 e2 e3 ev eM hr
  subst e1; subst e2; subst e3
  refine r_sub (L := [(0, .int x0)]) (L' := [(0, .int x0)]) [0] rfl ?_
  exact w_X10_firstDay_0 C M x0 _ h hr ev eM

def b_X3_shareOf_44 (M : xM) (s0 : Int32) : Option (Int32) :=
  some s0
set_option maxRecDepth 20000 in
set_option maxHeartbeats 2000000 in
theorem w_X3_shareOf_44 {x : xC} (C : CtC x RX3 cX3_shareOf 3 ({ frames := 1, cells := 0, slots := 0, locals := 24 } : Room)) (M : xM) (s0 : Int32)  (o : Int32) (h : b_X3_shareOf_44 M s0 = some o) (hr : (x_me x).sig.returnType = some .int) (ev : x_rv x = some (.int o)) (eM : x_M x = M) : J x M 44 [] [.int s0] := by
  unfold b_X3_shareOf_44 at h
  obtain rfl := Option.some.inj h
  exact r_iret C.1 hr ev eM dX3_shareOf_44

def b_X3_shareOf_0 (M : xM) (k0 : Nat) (x1 : Int32) : Option (Int32) :=
  bd (f_X10_lastDay M x1) (fun r_1 => bd (f_X10_firstDay M x1) (fun r_3 => lt (((imin (M k0 3) r_1) - (imax (M k0 2) r_3)) + (1 : Int32)) (fun y_5 => if 0 < y_5 then b_X3_shareOf_44 M (((M k0 4) * y_5) / (360 : Int32)) else b_X3_shareOf_44 M (0 : Int32))))
set_option maxRecDepth 20000 in
set_option maxHeartbeats 2000000 in
theorem w_X3_shareOf_0 {x : xC} (C : CtC x RX3 cX3_shareOf 3 ({ frames := 1, cells := 0, slots := 0, locals := 24 } : Room)) (M : xM) (k0 : Nat) (x1 : Int32) (h0 : KO k0) (o : Int32) (h : b_X3_shareOf_0 M k0 x1 = some o) (hr : (x_me x).sig.returnType = some .int) (ev : x_rv x = some (.int o)) (eM : x_M x = M) : J x M 0 [(0, .ref (x_ad x k0)), (1, .int x1)] [] := by
  unfold b_X3_shareOf_0 at h
  refine r_aload_n C.1 0 dX3_shareOf_0 rfl rfl ?_
  refine gfk_X3_21 C h0 dX3_shareOf_1 ?_
  refine r_iload_n C.1 1 dX3_shareOf_4 rfl rfl ?_
  obtain ⟨r_1, hc_2, h⟩ := bd_E h
  refine cl_X3_27 C ⟨Nat.le_of_ble_eq_true rfl, Nat.le_of_ble_eq_true rfl⟩ (m_X10_lastDay _ _ _ M x1 hc_2) (Nat.le_of_ble_eq_true rfl) dX3_shareOf_5 ?_
  refine cm_X3_31 C.1 (by decide) (by decide) (Nat.le_of_ble_eq_true rfl) dX3_shareOf_8 ?_
  refine r_aload_n C.1 0 dX3_shareOf_11 rfl rfl ?_
  refine gfk_X3_18 C h0 dX3_shareOf_12 ?_
  refine r_iload_n C.1 1 dX3_shareOf_15 rfl rfl ?_
  obtain ⟨r_3, hc_4, h⟩ := bd_E h
  refine cl_X3_37 C ⟨Nat.le_of_ble_eq_true rfl, Nat.le_of_ble_eq_true rfl⟩ (m_X10_firstDay _ _ _ M x1 hc_4) (Nat.le_of_ble_eq_true rfl) dX3_shareOf_16 ?_
  refine cm_X3_40 C.1 (by decide) (by decide) (Nat.le_of_ble_eq_true rfl) dX3_shareOf_19 ?_
  refine r_isub C.1 dX3_shareOf_22 ?_
  refine r_iconst (v := 1) C.1 dX3_shareOf_23 rfl ?_
  refine r_iadd C.1 dX3_shareOf_24 ?_
  obtain ⟨y_5, ey_5, h⟩ := lt_E h
  refine r_istore_n C.1 [(2, .int y_5), (0, .ref (x_ad x k0)), (1, .int x1)] dX3_shareOf_25 rfl (by decide) ey_5 rfl ?_
  refine r_iload_n C.1 0 dX3_shareOf_26 rfl rfl ?_
  refine r_if_gt C.1 34 dX3_shareOf_27 (by decide) (fun c_6 => ?_) (fun c_6 => ?_)
  · replace h := ite_T c_6 h
    refine r_aload_n C.1 1 dX3_shareOf_34 rfl rfl ?_
    refine gfk_X3_24 C h0 dX3_shareOf_35 ?_
    refine r_iload_n C.1 0 dX3_shareOf_38 rfl rfl ?_
    refine r_imul C.1 dX3_shareOf_39 ?_
    refine r_sipush (v := 360) C.1 dX3_shareOf_40 (by decide) ?_
    refine r_idiv C.1 (by decide) dX3_shareOf_43 ?_
    exact r_sub [] rfl (w_X3_shareOf_44 C M (((M k0 4) * y_5) / (360 : Int32)) _ h hr ev eM)
  · replace h := ite_F c_6 h
    refine r_iconst (v := 0) C.1 dX3_shareOf_30 rfl ?_
    refine r_goto C.1 44 dX3_shareOf_31 (by decide) ?_
    exact r_sub [] rfl (w_X3_shareOf_44 C M (0 : Int32) _ h hr ev eM)
def f_X3_shareOf (M : xM) (k0 : Nat) (x1 : Int32) : Option (Int32) := b_X3_shareOf_0 M k0 x1
set_option maxRecDepth 20000 in
theorem m_X3_shareOf (l : Launch) (D : va_G) (ad : Nat → Nat) (M : xM) (k0 : Nat) (x1 : Int32) (h0 : KO k0) {o : Int32} (h : f_X3_shareOf M k0 x1 = some o) : xMetC l yX3_shareOf cX3_shareOf 3 (some .int) ({ frames := 1, cells := 0, slots := 0, locals := 24 } : Room) [.ref (ad k0), .int x1] D ad M (some (.int o)) M := by
  refine xMetC_of (own := RX3) (by decide) rfl (Nat.le_of_ble_eq_true rfl) ?_
  intro x C e1 e2 e3 ev eM hr
  subst e1; subst e2; subst e3
  refine r_sub (L := [(0, .ref (x_ad x k0)), (1, .int x1)]) (L' := [(0, .ref (x_ad x k0)), (1, .int x1)]) [0, 1] rfl ?_
  exact w_X3_shareOf_0 C M k0 x1 h0 _ h hr ev eM

def b_X1_allowanceOf_59 (M : xM) (x1 : Int32) (x2 : Int32) (x3 : Int32) (x4 : Int32) (x5 : Int32) : Option ((Int32 × Int32) ⊕ (Int32)) :=
  lt (x5 + (1 : Int32)) (fun y_1 => some (.inl (x4, y_1)))
set_option maxRecDepth 20000 in
set_option maxHeartbeats 2000000 in
theorem w_X1_allowanceOf_59 {x : xC} (C : CtC x RX1 cX1_allowanceOf 6 ({ frames := 2, cells := 0, slots := 0, locals := 46 } : Room)) (M : xM) (x1 : Int32) (x2 : Int32) (x3 : Int32) (x4 : Int32) (x5 : Int32)  (o : (Int32 × Int32) ⊕ (Int32)) (h : b_X1_allowanceOf_59 M x1 x2 x3 x4 x5 = some o) (kh : ∀ s : Int32 × Int32, o = .inl s → J x M 6 [(0, .ref (x_ad x 17)), (1, .int x1), (2, .int x2), (3, .int x3), (4, .int s.1), (5, .int s.2)] []) (ke_0 : ∀ v : Int32, o = .inr v → J x M 65 [(4, .int v)] []) : J x M 59 [(0, .ref (x_ad x 17)), (1, .int x1), (2, .int x2), (3, .int x3), (4, .int x4), (5, .int x5)] [] := by
  unfold b_X1_allowanceOf_59 at h
  obtain ⟨y_1, ey_1, h⟩ := lt_E h
  refine r_iinc C.1 5 [(5, .int y_1), (0, .ref (x_ad x 17)), (1, .int x1), (2, .int x2), (3, .int x3), (4, .int x4)] dX1_allowanceOf_59 rfl ey_1 (by decide) rfl ?_
  refine r_goto C.1 6 dX1_allowanceOf_62 (by decide) ?_
  exact r_sub [1, 2, 3, 4, 5, 0] rfl (kh _ (Option.some.inj h).symm)

def bl_X1_allowanceOf_6 (M : xM) (x1 : Int32) (x2 : Int32) (x3 : Int32) (x4 : Int32) (x5 : Int32) : Option ((Int32 × Int32) ⊕ (Int32)) :=
  if (M 17 7) ≤ x5 then some (.inr x4) else gd x5 12 (if (M (85 + x5.toNatClampNeg) 0) = x1 then gd x5 12 (if (M (85 + x5.toNatClampNeg) 1) = x2 then gd x5 12 (bd (f_X3_shareOf M (85 + x5.toNatClampNeg) x3) (fun r_7 => lt (x4 + r_7) (fun y_9 => b_X1_allowanceOf_59 M x1 x2 x3 y_9 x5))) else b_X1_allowanceOf_59 M x1 x2 x3 x4 x5) else b_X1_allowanceOf_59 M x1 x2 x3 x4 x5)
set_option maxRecDepth 20000 in
set_option maxHeartbeats 2000000 in
theorem wl_X1_allowanceOf_6 {x : xC} (C : CtC x RX1 cX1_allowanceOf 6 ({ frames := 2, cells := 0, slots := 0, locals := 46 } : Room)) (M : xM) (x1 : Int32) (x2 : Int32) (x3 : Int32) (x4 : Int32) (x5 : Int32)  (o : (Int32 × Int32) ⊕ (Int32)) (h : bl_X1_allowanceOf_6 M x1 x2 x3 x4 x5 = some o) (kh : ∀ s : Int32 × Int32, o = .inl s → J x M 6 [(0, .ref (x_ad x 17)), (1, .int x1), (2, .int x2), (3, .int x3), (4, .int s.1), (5, .int s.2)] []) (ke_0 : ∀ v : Int32, o = .inr v → J x M 65 [(4, .int v)] []) : J x M 6 [(0, .ref (x_ad x 17)), (1, .int x1), (2, .int x2), (3, .int x3), (4, .int x4), (5, .int x5)] [] := by
  unfold bl_X1_allowanceOf_6 at h
  refine r_iload C.1 5 dX1_allowanceOf_6 rfl ?_
  refine r_aload_n C.1 0 dX1_allowanceOf_8 rfl rfl ?_
  refine gf_X1_44_17 C dX1_allowanceOf_9 ?_
  refine r_icmp_ge C.1 65 dX1_allowanceOf_12 (by decide) (fun c_1 => ?_) (fun c_1 => ?_)
  · replace h := ite_T c_1 h
    exact r_sub [4] rfl (ke_0 _ (Option.some.inj h).symm)
  · replace h := ite_F c_1 h
    refine r_aload_n C.1 0 dX1_allowanceOf_15 rfl rfl ?_
    refine gf_X1_49_17 C dX1_allowanceOf_16 ?_
    refine r_iload C.1 5 dX1_allowanceOf_19 rfl ?_
    obtain ⟨q_2, h⟩ := gd_E h
    refine r_aldq C.1 (cK C (by decide)) (cS C (sh_22)) 4 (cT4 C) q_2 (y := x_ad x (85 + x5.toNatClampNeg)) rfl dX1_allowanceOf_21 ?_
    refine gfk_X1_80 C (kO_17 (vp_lt q_2)) dX1_allowanceOf_22 ?_
    refine r_iload_n C.1 1 dX1_allowanceOf_25 rfl rfl ?_
    refine r_icmp_ne C.1 59 dX1_allowanceOf_26 (by decide) (fun c_3 => ?_) (fun c_3 => ?_)
    · replace h := ite_F c_3 h
      exact r_sub [0, 1, 2, 3, 4, 5] rfl (w_X1_allowanceOf_59 C M x1 x2 x3 x4 x5 _ h kh ke_0)
    · replace h := ite_T c_3 h
      refine r_aload_n C.1 0 dX1_allowanceOf_29 rfl rfl ?_
      refine gf_X1_49_17 C dX1_allowanceOf_30 ?_
      refine r_iload C.1 5 dX1_allowanceOf_33 rfl ?_
      obtain ⟨q_4, h⟩ := gd_E h
      refine r_aldq C.1 (cK C (by decide)) (cS C (sh_22)) 4 (cT4 C) q_4 (y := x_ad x (85 + x5.toNatClampNeg)) rfl dX1_allowanceOf_35 ?_
      refine gfk_X1_82 C (kO_17 (vp_lt q_4)) dX1_allowanceOf_36 ?_
      refine r_iload_n C.1 2 dX1_allowanceOf_39 rfl rfl ?_
      refine r_icmp_ne C.1 59 dX1_allowanceOf_40 (by decide) (fun c_5 => ?_) (fun c_5 => ?_)
      · replace h := ite_F c_5 h
        exact r_sub [0, 1, 2, 3, 4, 5] rfl (w_X1_allowanceOf_59 C M x1 x2 x3 x4 x5 _ h kh ke_0)
      · replace h := ite_T c_5 h
        refine r_iload C.1 4 dX1_allowanceOf_43 rfl ?_
        refine r_aload_n C.1 0 dX1_allowanceOf_45 rfl rfl ?_
        refine gf_X1_49_17 C dX1_allowanceOf_46 ?_
        refine r_iload C.1 5 dX1_allowanceOf_49 rfl ?_
        obtain ⟨q_6, h⟩ := gd_E h
        refine r_aldq C.1 (cK C (by decide)) (cS C (sh_22)) 4 (cT4 C) q_6 (y := x_ad x (85 + x5.toNatClampNeg)) rfl dX1_allowanceOf_51 ?_
        refine r_iload_n C.1 3 dX1_allowanceOf_52 rfl rfl ?_
        obtain ⟨r_7, hc_8, h⟩ := bd_E h
        refine cl_X1_121 C (kO_17 (vp_lt q_6)) ⟨Nat.le_of_ble_eq_true rfl, Nat.le_of_ble_eq_true rfl⟩ (m_X3_shareOf _ _ _ M (85 + x5.toNatClampNeg) x3 (kO_17 (vp_lt q_6)) hc_8) (Nat.le_of_ble_eq_true rfl) dX1_allowanceOf_53 ?_
        refine r_iadd C.1 dX1_allowanceOf_56 ?_
        obtain ⟨y_9, ey_9, h⟩ := lt_E h
        refine r_istore C.1 [(4, .int y_9), (0, .ref (x_ad x 17)), (1, .int x1), (2, .int x2), (3, .int x3), (5, .int x5)] dX1_allowanceOf_57 (by decide) ey_9 rfl ?_
        exact r_sub [1, 2, 3, 4, 0, 5] rfl (w_X1_allowanceOf_59 C M x1 x2 x3 y_9 x5 _ h kh ke_0)

def b_X1_allowanceOf_6 (M : xM) (x1 : Int32) (x2 : Int32) (x3 : Int32) (x4 : Int32) (x5 : Int32) : Option (Int32) :=
  bd (loopN (fun s : Int32 × Int32 => bl_X1_allowanceOf_6 M x1 x2 x3 s.1 s.2) BG (x4, x5)) (fun v => some v)
set_option maxRecDepth 20000 in
set_option maxHeartbeats 2000000 in
theorem w_X1_allowanceOf_6 {x : xC} (C : CtC x RX1 cX1_allowanceOf 6 ({ frames := 2, cells := 0, slots := 0, locals := 46 } : Room)) (M : xM) (x1 : Int32) (x2 : Int32) (x3 : Int32) (x4 : Int32) (x5 : Int32)  (o : Int32) (h : b_X1_allowanceOf_6 M x1 x2 x3 x4 x5 = some o) (hr : (x_me x).sig.returnType = some .int) (ev : x_rv x = some (.int o)) (eM : x_M x = M) : J x M 6 [(0, .ref (x_ad x 17)), (1, .int x1), (2, .int x2), (3, .int x3), (4, .int x4), (5, .int x5)] [] := by
  unfold b_X1_allowanceOf_6 at h
  obtain ⟨r_0, hr_0, h⟩ := bd_E h
  refine loopN_ind (JJ := fun s => J x M 6 [(0, .ref (x_ad x 17)), (1, .int x1), (2, .int x2), (3, .int x3), (4, .int s.1), (5, .int s.2)] []) (KX := fun q => q = r_0) ?_ BG (x4, x5) r_0 hr_0 rfl
  intro s o1 hb kk1 kk2
  refine wl_X1_allowanceOf_6 C M x1 x2 x3 s.1 s.2 _ hb kk1 ?_
  · intro v e0
    have e1 := kk2 _ e0
    subst e1
    refine r_iload C.1 0 dX1_allowanceOf_65 rfl ?_
    obtain rfl := Option.some.inj h
    exact r_iret C.1 hr ev eM dX1_allowanceOf_67

def b_X1_allowanceOf_0 (M : xM) (x1 : Int32) (x2 : Int32) (x3 : Int32) : Option (Int32) :=
  b_X1_allowanceOf_6 M x1 x2 x3 (0 : Int32) (0 : Int32)
set_option maxRecDepth 20000 in
set_option maxHeartbeats 2000000 in
theorem w_X1_allowanceOf_0 {x : xC} (C : CtC x RX1 cX1_allowanceOf 6 ({ frames := 2, cells := 0, slots := 0, locals := 46 } : Room)) (M : xM) (x1 : Int32) (x2 : Int32) (x3 : Int32)  (o : Int32) (h : b_X1_allowanceOf_0 M x1 x2 x3 = some o) (hr : (x_me x).sig.returnType = some .int) (ev : x_rv x = some (.int o)) (eM : x_M x = M) : J x M 0 [(0, .ref (x_ad x 17)), (1, .int x1), (2, .int x2), (3, .int x3)] [] := by
  unfold b_X1_allowanceOf_0 at h
  refine r_iconst (v := 0) C.1 dX1_allowanceOf_0 rfl ?_
  refine r_istore C.1 [(4, .int (0 : Int32)), (0, .ref (x_ad x 17)), (1, .int x1), (2, .int x2), (3, .int x3)] dX1_allowanceOf_1 (by decide) rfl rfl ?_
  refine r_iconst (v := 0) C.1 dX1_allowanceOf_3 rfl ?_
  refine r_istore C.1 [(5, .int (0 : Int32)), (4, .int (0 : Int32)), (0, .ref (x_ad x 17)), (1, .int x1), (2, .int x2), (3, .int x3)] dX1_allowanceOf_4 (by decide) rfl rfl ?_
  exact r_sub [2, 3, 4, 5, 1, 0] rfl (w_X1_allowanceOf_6 C M x1 x2 x3 (0 : Int32) (0 : Int32) _ h hr ev eM)
def f_X1_allowanceOf (M : xM) (x1 : Int32) (x2 : Int32) (x3 : Int32) : Option (Int32) := b_X1_allowanceOf_0 M x1 x2 x3
set_option maxRecDepth 20000 in
theorem m_X1_allowanceOf (l : Launch) (D : va_G) (ad : Nat → Nat) (M : xM) (x1 : Int32) (x2 : Int32) (x3 : Int32)  {o : Int32} (h : f_X1_allowanceOf M x1 x2 x3 = some o) : xMetC l yX1_allowanceOf cX1_allowanceOf 6 (some .int) ({ frames := 2, cells := 0, slots := 0, locals := 46 } : Room) [.ref (ad 17), .int x1, .int x2, .int x3] D ad M (some (.int o)) M := by
  refine xMetC_of (own := RX1) (by decide) rfl (Nat.le_of_ble_eq_true rfl) ?_
  intro x C e1 e2 e3 ev eM hr
  subst e1; subst e2; subst e3
  refine r_sub (L := [(0, .ref (x_ad x 17)), (1, .int x1), (2, .int x2), (3, .int x3)]) (L' := [(0, .ref (x_ad x 17)), (1, .int x1), (2, .int x2), (3, .int x3)]) [0, 1, 2, 3] rfl ?_
  exact w_X1_allowanceOf_0 C M x1 x2 x3 _ h hr ev eM

def b_X1_leftAt_0 (M : xM) (x1 : Int32) (x2 : Int32) (x3 : Int32) : Option (Int32) :=
  some ((((x1 * (2 : Int32)) + x2) * (10 : Int32)) + x3)
set_option maxRecDepth 20000 in
set_option maxHeartbeats 2000000 in
theorem w_X1_leftAt_0 {x : xC} (C : CtC x RX1 cX1_leftAt 4 ({ frames := 0, cells := 0, slots := 0, locals := 0 } : Room)) (M : xM) (x1 : Int32) (x2 : Int32) (x3 : Int32)  (o : Int32) (h : b_X1_leftAt_0 M x1 x2 x3 = some o) (hr : (x_me x).sig.returnType = some .int) (ev : x_rv x = some (.int o)) (eM : x_M x = M) : J x M 0 [(1, .int x1), (2, .int x2), (3, .int x3)] [] := by
  unfold b_X1_leftAt_0 at h
  refine r_iload_n C.1 0 dX1_leftAt_0 rfl rfl ?_
  refine r_iconst (v := 2) C.1 dX1_leftAt_1 rfl ?_
  refine r_imul C.1 dX1_leftAt_2 ?_
  refine r_iload_n C.1 1 dX1_leftAt_3 rfl rfl ?_
  refine r_iadd C.1 dX1_leftAt_4 ?_
  refine r_bipush (v := 10) C.1 dX1_leftAt_5 (by decide) ?_
  refine r_imul C.1 dX1_leftAt_7 ?_
  refine r_iload_n C.1 2 dX1_leftAt_8 rfl rfl ?_
  refine r_iadd C.1 dX1_leftAt_9 ?_
  obtain rfl := Option.some.inj h
  exact r_iret C.1 hr ev eM dX1_leftAt_10
def f_X1_leftAt (M : xM) (x1 : Int32) (x2 : Int32) (x3 : Int32) : Option (Int32) := b_X1_leftAt_0 M x1 x2 x3
set_option maxRecDepth 20000 in
theorem m_X1_leftAt (l : Launch) (D : va_G) (ad : Nat → Nat) (M : xM) (x1 : Int32) (x2 : Int32) (x3 : Int32)  {o : Int32} (h : f_X1_leftAt M x1 x2 x3 = some o) : xMetC l yX1_leftAt cX1_leftAt 4 (some .int) ({ frames := 0, cells := 0, slots := 0, locals := 0 } : Room) [.ref (ad 17), .int x1, .int x2, .int x3] D ad M (some (.int o)) M := by
  refine xMetC_of (own := RX1) (by decide) rfl (Nat.le_of_ble_eq_true rfl) ?_
  intro x C e1 e2 e3 ev eM hr
  subst e1; subst e2; subst e3
  refine r_sub (L := [(0, .ref (x_ad x 17)), (1, .int x1), (2, .int x2), (3, .int x3)]) (L' := [(1, .int x1), (2, .int x2), (3, .int x3)]) [1, 2, 3] rfl ?_
  exact w_X1_leftAt_0 C M x1 x2 x3 _ h hr ev eM

def bl_X1_fillLeft_20 (M : xM) (x1 : Int32) (x2 : Int32) : Option ((xM × Int32) ⊕ (xM)) :=
  if (10 : Int32) ≤ x2 then some (.inr M) else gd x1 12 (gd x1 12 (bd (f_X1_leftAt M (M (85 + x1.toNatClampNeg) 0) (M (85 + x1.toNatClampNeg) 1) x2) (fun r_4 => gd r_4 80 (gd x1 12 (bd (f_X3_shareOf M (85 + x1.toNatClampNeg) x2) (fun r_8 => gd r_4 80 (lt (uM M 23 r_4.toNatClampNeg ((M 23 r_4.toNatClampNeg) + r_8)) (fun M_11 => lt (x2 + (1 : Int32)) (fun y_12 => some (.inl (M_11, y_12)))))))))))
set_option maxRecDepth 20000 in
set_option maxHeartbeats 2000000 in
theorem wl_X1_fillLeft_20 {x : xC} (C : CtC x RX1 cX1_fillLeft 3 ({ frames := 2, cells := 0, slots := 0, locals := 46 } : Room)) (M : xM) (x1 : Int32) (x2 : Int32)  (o : (xM × Int32) ⊕ (xM)) (h : bl_X1_fillLeft_20 M x1 x2 = some o) (kh : ∀ s : xM × Int32, o = .inl s → J x s.1 20 [(0, .ref (x_ad x 17)), (1, .int x1), (2, .int s.2)] []) (ke_0 : ∀ v : xM, o = .inr v → J x v 73 [(0, .ref (x_ad x 17)), (1, .int x1)] []) : J x M 20 [(0, .ref (x_ad x 17)), (1, .int x1), (2, .int x2)] [] := by
  unfold bl_X1_fillLeft_20 at h
  refine r_iload_n C.1 2 dX1_fillLeft_20 rfl rfl ?_
  refine r_bipush (v := 10) C.1 dX1_fillLeft_21 (by decide) ?_
  refine r_icmp_ge C.1 73 dX1_fillLeft_23 (by decide) (fun c_1 => ?_) (fun c_1 => ?_)
  · replace h := ite_T c_1 h
    exact r_sub [0, 1] rfl (ke_0 _ (Option.some.inj h).symm)
  · replace h := ite_F c_1 h
    refine r_aload_n C.1 0 dX1_fillLeft_26 rfl rfl ?_
    refine gf_X1_53_17 C dX1_fillLeft_27 ?_
    refine r_aload_n C.1 0 dX1_fillLeft_30 rfl rfl ?_
    refine r_aload_n C.1 0 dX1_fillLeft_31 rfl rfl ?_
    refine gf_X1_49_17 C dX1_fillLeft_32 ?_
    refine r_iload_n C.1 1 dX1_fillLeft_35 rfl rfl ?_
    obtain ⟨q_2, h⟩ := gd_E h
    refine r_aldq C.1 (cK C (by decide)) (cS C (sh_22)) 4 (cT4 C) q_2 (y := x_ad x (85 + x1.toNatClampNeg)) rfl dX1_fillLeft_36 ?_
    refine gfk_X1_80 C (kO_17 (vp_lt q_2)) dX1_fillLeft_37 ?_
    refine r_aload_n C.1 0 dX1_fillLeft_40 rfl rfl ?_
    refine gf_X1_49_17 C dX1_fillLeft_41 ?_
    refine r_iload_n C.1 1 dX1_fillLeft_44 rfl rfl ?_
    obtain ⟨q_3, h⟩ := gd_E h
    refine r_aldq C.1 (cK C (by decide)) (cS C (sh_22)) 4 (cT4 C) q_3 (y := x_ad x (85 + x1.toNatClampNeg)) rfl dX1_fillLeft_45 ?_
    refine gfk_X1_82 C (kO_17 (vp_lt q_3)) dX1_fillLeft_46 ?_
    refine r_iload_n C.1 2 dX1_fillLeft_49 rfl rfl ?_
    obtain ⟨r_4, hc_5, h⟩ := bd_E h
    refine cl_X1_144 C ⟨Nat.le_of_ble_eq_true rfl, Nat.le_of_ble_eq_true rfl⟩ (m_X1_leftAt _ _ _ M (M (85 + x1.toNatClampNeg) 0) (M (85 + x1.toNatClampNeg) 1) x2 hc_5) (Nat.le_of_ble_eq_true rfl) dX1_fillLeft_50 ?_
    refine r_dup2 C.1 rfl rfl dX1_fillLeft_53 ?_
    obtain ⟨q_6, h⟩ := gd_E h
    refine r_iald C.1 (cK C (by decide)) (cS C (sh_23)) 0 (cT0 C) q_6 dX1_fillLeft_54 ?_
    refine r_aload_n C.1 0 dX1_fillLeft_55 rfl rfl ?_
    refine gf_X1_49_17 C dX1_fillLeft_56 ?_
    refine r_iload_n C.1 1 dX1_fillLeft_59 rfl rfl ?_
    obtain ⟨q_7, h⟩ := gd_E h
    refine r_aldq C.1 (cK C (by decide)) (cS C (sh_22)) 4 (cT4 C) q_7 (y := x_ad x (85 + x1.toNatClampNeg)) rfl dX1_fillLeft_60 ?_
    refine r_iload_n C.1 2 dX1_fillLeft_61 rfl rfl ?_
    obtain ⟨r_8, hc_9, h⟩ := bd_E h
    refine cl_X1_121 C (kO_17 (vp_lt q_7)) ⟨Nat.le_of_ble_eq_true rfl, Nat.le_of_ble_eq_true rfl⟩ (m_X3_shareOf _ _ _ M (85 + x1.toNatClampNeg) x2 (kO_17 (vp_lt q_7)) hc_9) (Nat.le_of_ble_eq_true rfl) dX1_fillLeft_62 ?_
    refine r_iadd C.1 dX1_fillLeft_65 ?_
    obtain ⟨q_10, h⟩ := gd_E h
    obtain ⟨M_11, eM_11, h⟩ := lt_E h
    refine r_iast C.1 (cK C (by decide)) (cS C (sh_23)) 0 (cT0 C) q_10 eM_11 dX1_fillLeft_66 ?_
    obtain ⟨y_12, ey_12, h⟩ := lt_E h
    refine r_iinc C.1 2 [(2, .int y_12), (0, .ref (x_ad x 17)), (1, .int x1)] dX1_fillLeft_67 rfl ey_12 (by decide) rfl ?_
    refine r_goto C.1 20 dX1_fillLeft_70 (by decide) ?_
    exact r_sub [1, 2, 0] rfl (kh _ (Option.some.inj h).symm)

def b_X1_fillLeft_20 (M : xM) (x1 : Int32) (x2 : Int32) : Option ((xM × Int32) ⊕ (xM)) :=
  bd (loopN (fun s : xM × Int32 => bl_X1_fillLeft_20 s.1 x1 s.2) BG (M, x2)) (fun v => lt (x1 + (1 : Int32)) (fun y_1 => some (.inl (v, y_1))))
set_option maxRecDepth 20000 in
set_option maxHeartbeats 2000000 in
theorem w_X1_fillLeft_20 {x : xC} (C : CtC x RX1 cX1_fillLeft 3 ({ frames := 2, cells := 0, slots := 0, locals := 46 } : Room)) (M : xM) (x1 : Int32) (x2 : Int32)  (o : (xM × Int32) ⊕ (xM)) (h : b_X1_fillLeft_20 M x1 x2 = some o) (kh : ∀ s : xM × Int32, o = .inl s → J x s.1 10 [(0, .ref (x_ad x 17)), (1, .int s.2)] []) (ke_0 : ∀ v : xM, o = .inr v → J x v 79 [] []) : J x M 20 [(0, .ref (x_ad x 17)), (1, .int x1), (2, .int x2)] [] := by
  unfold b_X1_fillLeft_20 at h
  obtain ⟨r_0, hr_0, h⟩ := bd_E h
  refine loopN_ind (JJ := fun s => J x s.1 20 [(0, .ref (x_ad x 17)), (1, .int x1), (2, .int s.2)] []) (KX := fun q => q = r_0) ?_ BG (M, x2) r_0 hr_0 rfl
  intro s o1 hb kk1 kk2
  refine wl_X1_fillLeft_20 C s.1 x1 s.2 _ hb kk1 ?_
  · intro v e0
    have e1 := kk2 _ e0
    subst e1
    obtain ⟨y_1, ey_1, h⟩ := lt_E h
    refine r_iinc C.1 1 [(1, .int y_1), (0, .ref (x_ad x 17))] dX1_fillLeft_73 rfl ey_1 (by decide) rfl ?_
    refine r_goto C.1 10 dX1_fillLeft_76 (by decide) ?_
    exact r_sub [1, 0] rfl (kh _ (Option.some.inj h).symm)

def bl_X1_fillLeft_10 (M : xM) (x1 : Int32) : Option ((xM × Int32) ⊕ (xM)) :=
  if (M 17 7) ≤ x1 then some (.inr M) else b_X1_fillLeft_20 M x1 (0 : Int32)
set_option maxRecDepth 20000 in
set_option maxHeartbeats 2000000 in
theorem wl_X1_fillLeft_10 {x : xC} (C : CtC x RX1 cX1_fillLeft 3 ({ frames := 2, cells := 0, slots := 0, locals := 46 } : Room)) (M : xM) (x1 : Int32)  (o : (xM × Int32) ⊕ (xM)) (h : bl_X1_fillLeft_10 M x1 = some o) (kh : ∀ s : xM × Int32, o = .inl s → J x s.1 10 [(0, .ref (x_ad x 17)), (1, .int s.2)] []) (ke_0 : ∀ v : xM, o = .inr v → J x v 79 [] []) : J x M 10 [(0, .ref (x_ad x 17)), (1, .int x1)] [] := by
  unfold bl_X1_fillLeft_10 at h
  refine r_iload_n C.1 1 dX1_fillLeft_10 rfl rfl ?_
  refine r_aload_n C.1 0 dX1_fillLeft_11 rfl rfl ?_
  refine gf_X1_44_17 C dX1_fillLeft_12 ?_
  refine r_icmp_ge C.1 79 dX1_fillLeft_15 (by decide) (fun c_1 => ?_) (fun c_1 => ?_)
  · replace h := ite_T c_1 h
    exact r_sub [] rfl (ke_0 _ (Option.some.inj h).symm)
  · replace h := ite_F c_1 h
    refine r_iconst (v := 0) C.1 dX1_fillLeft_18 rfl ?_
    refine r_istore_n C.1 [(2, .int (0 : Int32)), (0, .ref (x_ad x 17)), (1, .int x1)] dX1_fillLeft_19 rfl (by decide) rfl rfl ?_
    exact r_sub [1, 2, 0] rfl (w_X1_fillLeft_20 C M x1 (0 : Int32) _ h kh ke_0)

def b_X1_fillLeft_10 (M : xM) (x1 : Int32) : Option (xM) :=
  bd (loopN (fun s : xM × Int32 => bl_X1_fillLeft_10 s.1 s.2) BG (M, x1)) (fun v => some v)
set_option maxRecDepth 20000 in
set_option maxHeartbeats 2000000 in
theorem w_X1_fillLeft_10 {x : xC} (C : CtC x RX1 cX1_fillLeft 3 ({ frames := 2, cells := 0, slots := 0, locals := 46 } : Room)) (M : xM) (x1 : Int32)  (o : xM) (h : b_X1_fillLeft_10 M x1 = some o) (hr : (x_me x).sig.returnType = none) (ev : x_rv x = none) (eM : x_M x = o) : J x M 10 [(0, .ref (x_ad x 17)), (1, .int x1)] [] := by
  unfold b_X1_fillLeft_10 at h
  obtain ⟨r_0, hr_0, h⟩ := bd_E h
  refine loopN_ind (JJ := fun s => J x s.1 10 [(0, .ref (x_ad x 17)), (1, .int s.2)] []) (KX := fun q => q = r_0) ?_ BG (M, x1) r_0 hr_0 rfl
  intro s o1 hb kk1 kk2
  refine wl_X1_fillLeft_10 C s.1 s.2 _ hb kk1 ?_
  · intro v e0
    have e1 := kk2 _ e0
    subst e1
    obtain rfl := Option.some.inj h
    exact r_vret C.1 hr ev eM dX1_fillLeft_79

def b_X1_fillLeft_0 (M : xM)  : Option (xM) :=
  bd (f_J7_fill23 M (0 : Int32)) (fun M_3 => b_X1_fillLeft_10 M_3 (0 : Int32))
set_option maxRecDepth 20000 in
set_option maxHeartbeats 2000000 in
theorem w_X1_fillLeft_0 {x : xC} (C : CtC x RX1 cX1_fillLeft 3 ({ frames := 2, cells := 0, slots := 0, locals := 46 } : Room)) (M : xM)   (o : xM) (h : b_X1_fillLeft_0 M = some o) (hr : (x_me x).sig.returnType = none) (ev : x_rv x = none) (eM : x_M x = o) : J x M 0 [(0, .ref (x_ad x 17))] [] := by
  unfold b_X1_fillLeft_0 at h
  refine r_aload_n C.1 0 dX1_fillLeft_0 rfl rfl ?_
  refine gf_X1_53_17 C dX1_fillLeft_1 ?_
  refine r_iconst (v := 0) C.1 dX1_fillLeft_4 rfl ?_
  obtain ⟨M_3, hc_2, h⟩ := bd_E h
  refine cl_X1_138 C ⟨Nat.le_of_ble_eq_true rfl, Nat.le_of_ble_eq_true rfl⟩ (m_J7_fill23 _ _ _ M (0 : Int32) hc_2) (Nat.le_of_ble_eq_true rfl) dX1_fillLeft_5 ?_
  refine r_iconst (v := 0) C.1 dX1_fillLeft_8 rfl ?_
  refine r_istore_n C.1 [(1, .int (0 : Int32)), (0, .ref (x_ad x 17))] dX1_fillLeft_9 rfl (by decide) rfl rfl ?_
  exact r_sub [1, 0] rfl (w_X1_fillLeft_10 C M_3 (0 : Int32) _ h hr ev eM)
def f_X1_fillLeft (M : xM)  : Option (xM) := b_X1_fillLeft_0 M 
set_option maxRecDepth 20000 in
theorem m_X1_fillLeft (l : Launch) (D : va_G) (ad : Nat → Nat) (M : xM)   {o : xM} (h : f_X1_fillLeft M = some o) : xMetC l yX1_fillLeft cX1_fillLeft 3 none ({ frames := 2, cells := 0, slots := 0, locals := 46 } : Room) [.ref (ad 17)] D ad M none o := by
  refine xMetC_of (own := RX1) (by decide) rfl (Nat.le_of_ble_eq_true rfl) ?_
  intro x C e1 e2 e3 ev eM hr
  subst e1; subst e2; subst e3
  refine r_sub (L := [(0, .ref (x_ad x 17))]) (L' := [(0, .ref (x_ad x 17))]) [0] rfl ?_
  exact w_X1_fillLeft_0 C M _ h hr ev eM

def b_X1_fillTurn_64 (M : xM) (x1 : Int32) (x2 : Int32) : Option ((xM × Int32) ⊕ (xM)) :=
  gd x2 40 (lt (uM M 24 x2.toNatClampNeg x1) (fun M_2 => lt (x1 + (1 : Int32)) (fun y_3 => some (.inl (M_2, y_3)))))
set_option maxRecDepth 20000 in
set_option maxHeartbeats 2000000 in
theorem w_X1_fillTurn_64 {x : xC} (C : CtC x RX1 cX1_fillTurn 3 ({ frames := 0, cells := 0, slots := 0, locals := 0 } : Room)) (M : xM) (x1 : Int32) (x2 : Int32)  (o : (xM × Int32) ⊕ (xM)) (h : b_X1_fillTurn_64 M x1 x2 = some o) (kh : ∀ s : xM × Int32, o = .inl s → J x s.1 2 [(0, .ref (x_ad x 17)), (1, .int s.2)] []) (ke_0 : ∀ v : xM, o = .inr v → J x v 77 [] []) : J x M 64 [(0, .ref (x_ad x 17)), (1, .int x1), (2, .int x2)] [] := by
  unfold b_X1_fillTurn_64 at h
  refine r_aload_n C.1 0 dX1_fillTurn_64 rfl rfl ?_
  refine gf_X1_56_17 C dX1_fillTurn_65 ?_
  refine r_iload_n C.1 2 dX1_fillTurn_68 rfl rfl ?_
  refine r_iload_n C.1 1 dX1_fillTurn_69 rfl rfl ?_
  obtain ⟨q_1, h⟩ := gd_E h
  obtain ⟨M_2, eM_2, h⟩ := lt_E h
  refine r_iast C.1 (cK C (by decide)) (cS C (sh_24)) 0 (cT0 C) q_1 eM_2 dX1_fillTurn_70 ?_
  obtain ⟨y_3, ey_3, h⟩ := lt_E h
  refine r_iinc C.1 1 [(1, .int y_3), (0, .ref (x_ad x 17)), (2, .int x2)] dX1_fillTurn_71 rfl ey_3 (by decide) rfl ?_
  refine r_goto C.1 2 dX1_fillTurn_74 (by decide) ?_
  exact r_sub [1, 0] rfl (kh _ (Option.some.inj h).symm)

def bl_X1_fillTurn_12 (M : xM) (x1 : Int32) (x2 : Int32) : Option ((xM × Int32) ⊕ (xM × Int32)) :=
  if x2 ≤ 0 then some (.inr (M, x2)) else gd (x2 - (1 : Int32)) 40 (gd (M 24 (x2 - (1 : Int32)).toNatClampNeg) 40 (gd x1 40 (if (M (45 + (M 24 (x2 - (1 : Int32)).toNatClampNeg).toNatClampNeg) 2) ≤ (M (45 + x1.toNatClampNeg) 2) then some (.inr (M, x2)) else gd (x2 - (1 : Int32)) 40 (gd x2 40 (lt (uM M 24 x2.toNatClampNeg (M 24 (x2 - (1 : Int32)).toNatClampNeg)) (fun M_8 => lt (x2 + (-1 : Int32)) (fun y_9 => some (.inl (M_8, y_9)))))))))
set_option maxRecDepth 20000 in
set_option maxHeartbeats 2000000 in
theorem wl_X1_fillTurn_12 {x : xC} (C : CtC x RX1 cX1_fillTurn 3 ({ frames := 0, cells := 0, slots := 0, locals := 0 } : Room)) (M : xM) (x1 : Int32) (x2 : Int32)  (o : (xM × Int32) ⊕ (xM × Int32)) (h : bl_X1_fillTurn_12 M x1 x2 = some o) (kh : ∀ s : xM × Int32, o = .inl s → J x s.1 12 [(0, .ref (x_ad x 17)), (1, .int x1), (2, .int s.2)] []) (ke_0 : ∀ v : xM × Int32, o = .inr v → J x v.1 64 [(0, .ref (x_ad x 17)), (1, .int x1), (2, .int v.2)] []) : J x M 12 [(0, .ref (x_ad x 17)), (1, .int x1), (2, .int x2)] [] := by
  unfold bl_X1_fillTurn_12 at h
  refine r_iload_n C.1 2 dX1_fillTurn_12 rfl rfl ?_
  refine r_if_le C.1 64 dX1_fillTurn_13 (by decide) (fun c_1 => ?_) (fun c_1 => ?_)
  · replace h := ite_T c_1 h
    exact r_sub [0, 1, 2] rfl (ke_0 _ (Option.some.inj h).symm)
  · replace h := ite_F c_1 h
    refine r_aload_n C.1 0 dX1_fillTurn_16 rfl rfl ?_
    refine gf_X1_40_17 C dX1_fillTurn_17 ?_
    refine r_aload_n C.1 0 dX1_fillTurn_20 rfl rfl ?_
    refine gf_X1_56_17 C dX1_fillTurn_21 ?_
    refine r_iload_n C.1 2 dX1_fillTurn_24 rfl rfl ?_
    refine r_iconst (v := 1) C.1 dX1_fillTurn_25 rfl ?_
    refine r_isub C.1 dX1_fillTurn_26 ?_
    obtain ⟨q_2, h⟩ := gd_E h
    refine r_iald C.1 (cK C (by decide)) (cS C (sh_24)) 0 (cT0 C) q_2 dX1_fillTurn_27 ?_
    obtain ⟨q_3, h⟩ := gd_E h
    refine r_aldq C.1 (cK C (by decide)) (cS C (sh_21)) 3 (cT3 C) q_3 (y := x_ad x (45 + (M 24 (x2 - (1 : Int32)).toNatClampNeg).toNatClampNeg)) rfl dX1_fillTurn_28 ?_
    refine gfk_X1_148 C (kE_17 (vp_lt q_3)) dX1_fillTurn_29 ?_
    refine r_aload_n C.1 0 dX1_fillTurn_32 rfl rfl ?_
    refine gf_X1_40_17 C dX1_fillTurn_33 ?_
    refine r_iload_n C.1 1 dX1_fillTurn_36 rfl rfl ?_
    obtain ⟨q_4, h⟩ := gd_E h
    refine r_aldq C.1 (cK C (by decide)) (cS C (sh_21)) 3 (cT3 C) q_4 (y := x_ad x (45 + x1.toNatClampNeg)) rfl dX1_fillTurn_37 ?_
    refine gfk_X1_148 C (kE_17 (vp_lt q_4)) dX1_fillTurn_38 ?_
    refine r_icmp_le C.1 64 dX1_fillTurn_41 (by decide) (fun c_5 => ?_) (fun c_5 => ?_)
    · replace h := ite_T c_5 h
      exact r_sub [0, 1, 2] rfl (ke_0 _ (Option.some.inj h).symm)
    · replace h := ite_F c_5 h
      refine r_aload_n C.1 0 dX1_fillTurn_44 rfl rfl ?_
      refine gf_X1_56_17 C dX1_fillTurn_45 ?_
      refine r_iload_n C.1 2 dX1_fillTurn_48 rfl rfl ?_
      refine r_aload_n C.1 0 dX1_fillTurn_49 rfl rfl ?_
      refine gf_X1_56_17 C dX1_fillTurn_50 ?_
      refine r_iload_n C.1 2 dX1_fillTurn_53 rfl rfl ?_
      refine r_iconst (v := 1) C.1 dX1_fillTurn_54 rfl ?_
      refine r_isub C.1 dX1_fillTurn_55 ?_
      obtain ⟨q_6, h⟩ := gd_E h
      refine r_iald C.1 (cK C (by decide)) (cS C (sh_24)) 0 (cT0 C) q_6 dX1_fillTurn_56 ?_
      obtain ⟨q_7, h⟩ := gd_E h
      obtain ⟨M_8, eM_8, h⟩ := lt_E h
      refine r_iast C.1 (cK C (by decide)) (cS C (sh_24)) 0 (cT0 C) q_7 eM_8 dX1_fillTurn_57 ?_
      obtain ⟨y_9, ey_9, h⟩ := lt_E h
      refine r_iinc C.1 2 [(2, .int y_9), (0, .ref (x_ad x 17)), (1, .int x1)] dX1_fillTurn_58 rfl ey_9 (by decide) rfl ?_
      refine r_goto C.1 12 dX1_fillTurn_61 (by decide) ?_
      exact r_sub [1, 2, 0] rfl (kh _ (Option.some.inj h).symm)

def b_X1_fillTurn_12 (M : xM) (x1 : Int32) (x2 : Int32) : Option ((xM × Int32) ⊕ (xM)) :=
  bd (loopN (fun s : xM × Int32 => bl_X1_fillTurn_12 s.1 x1 s.2) BG (M, x2)) (fun v => b_X1_fillTurn_64 v.1 x1 v.2)
set_option maxRecDepth 20000 in
set_option maxHeartbeats 2000000 in
theorem w_X1_fillTurn_12 {x : xC} (C : CtC x RX1 cX1_fillTurn 3 ({ frames := 0, cells := 0, slots := 0, locals := 0 } : Room)) (M : xM) (x1 : Int32) (x2 : Int32)  (o : (xM × Int32) ⊕ (xM)) (h : b_X1_fillTurn_12 M x1 x2 = some o) (kh : ∀ s : xM × Int32, o = .inl s → J x s.1 2 [(0, .ref (x_ad x 17)), (1, .int s.2)] []) (ke_0 : ∀ v : xM, o = .inr v → J x v 77 [] []) : J x M 12 [(0, .ref (x_ad x 17)), (1, .int x1), (2, .int x2)] [] := by
  unfold b_X1_fillTurn_12 at h
  obtain ⟨r_0, hr_0, h⟩ := bd_E h
  refine loopN_ind (JJ := fun s => J x s.1 12 [(0, .ref (x_ad x 17)), (1, .int x1), (2, .int s.2)] []) (KX := fun q => q = r_0) ?_ BG (M, x2) r_0 hr_0 rfl
  intro s o1 hb kk1 kk2
  refine wl_X1_fillTurn_12 C s.1 x1 s.2 _ hb kk1 ?_
  · intro v e0
    have e1 := kk2 _ e0
    subst e1
    exact r_sub [0, 1, 2] rfl (w_X1_fillTurn_64 C v.1 x1 v.2 _ h kh ke_0)

def bl_X1_fillTurn_2 (M : xM) (x1 : Int32) : Option ((xM × Int32) ⊕ (xM)) :=
  if (M 17 5) ≤ x1 then some (.inr M) else b_X1_fillTurn_12 M x1 x1
set_option maxRecDepth 20000 in
set_option maxHeartbeats 2000000 in
theorem wl_X1_fillTurn_2 {x : xC} (C : CtC x RX1 cX1_fillTurn 3 ({ frames := 0, cells := 0, slots := 0, locals := 0 } : Room)) (M : xM) (x1 : Int32)  (o : (xM × Int32) ⊕ (xM)) (h : bl_X1_fillTurn_2 M x1 = some o) (kh : ∀ s : xM × Int32, o = .inl s → J x s.1 2 [(0, .ref (x_ad x 17)), (1, .int s.2)] []) (ke_0 : ∀ v : xM, o = .inr v → J x v 77 [] []) : J x M 2 [(0, .ref (x_ad x 17)), (1, .int x1)] [] := by
  unfold bl_X1_fillTurn_2 at h
  refine r_iload_n C.1 1 dX1_fillTurn_2 rfl rfl ?_
  refine r_aload_n C.1 0 dX1_fillTurn_3 rfl rfl ?_
  refine gf_X1_35_17 C dX1_fillTurn_4 ?_
  refine r_icmp_ge C.1 77 dX1_fillTurn_7 (by decide) (fun c_1 => ?_) (fun c_1 => ?_)
  · replace h := ite_T c_1 h
    exact r_sub [] rfl (ke_0 _ (Option.some.inj h).symm)
  · replace h := ite_F c_1 h
    refine r_iload_n C.1 1 dX1_fillTurn_10 rfl rfl ?_
    refine r_istore_n C.1 [(2, .int x1), (0, .ref (x_ad x 17)), (1, .int x1)] dX1_fillTurn_11 rfl (by decide) rfl rfl ?_
    exact r_sub [1, 2, 0] rfl (w_X1_fillTurn_12 C M x1 x1 _ h kh ke_0)

def b_X1_fillTurn_2 (M : xM) (x1 : Int32) : Option (xM) :=
  bd (loopN (fun s : xM × Int32 => bl_X1_fillTurn_2 s.1 s.2) BG (M, x1)) (fun v => some v)
set_option maxRecDepth 20000 in
set_option maxHeartbeats 2000000 in
theorem w_X1_fillTurn_2 {x : xC} (C : CtC x RX1 cX1_fillTurn 3 ({ frames := 0, cells := 0, slots := 0, locals := 0 } : Room)) (M : xM) (x1 : Int32)  (o : xM) (h : b_X1_fillTurn_2 M x1 = some o) (hr : (x_me x).sig.returnType = none) (ev : x_rv x = none) (eM : x_M x = o) : J x M 2 [(0, .ref (x_ad x 17)), (1, .int x1)] [] := by
  unfold b_X1_fillTurn_2 at h
  obtain ⟨r_0, hr_0, h⟩ := bd_E h
  refine loopN_ind (JJ := fun s => J x s.1 2 [(0, .ref (x_ad x 17)), (1, .int s.2)] []) (KX := fun q => q = r_0) ?_ BG (M, x1) r_0 hr_0 rfl
  intro s o1 hb kk1 kk2
  refine wl_X1_fillTurn_2 C s.1 s.2 _ hb kk1 ?_
  · intro v e0
    have e1 := kk2 _ e0
    subst e1
    obtain rfl := Option.some.inj h
    exact r_vret C.1 hr ev eM dX1_fillTurn_77

def b_X1_fillTurn_0 (M : xM)  : Option (xM) :=
  b_X1_fillTurn_2 M (0 : Int32)
set_option maxRecDepth 20000 in
set_option maxHeartbeats 2000000 in
theorem w_X1_fillTurn_0 {x : xC} (C : CtC x RX1 cX1_fillTurn 3 ({ frames := 0, cells := 0, slots := 0, locals := 0 } : Room)) (M : xM)   (o : xM) (h : b_X1_fillTurn_0 M = some o) (hr : (x_me x).sig.returnType = none) (ev : x_rv x = none) (eM : x_M x = o) : J x M 0 [(0, .ref (x_ad x 17))] [] := by
  unfold b_X1_fillTurn_0 at h
  refine r_iconst (v := 0) C.1 dX1_fillTurn_0 rfl ?_
  refine r_istore_n C.1 [(1, .int (0 : Int32)), (0, .ref (x_ad x 17))] dX1_fillTurn_1 rfl (by decide) rfl rfl ?_
  exact r_sub [1, 0] rfl (w_X1_fillTurn_2 C M (0 : Int32) _ h hr ev eM)
def f_X1_fillTurn (M : xM)  : Option (xM) := b_X1_fillTurn_0 M 
set_option maxRecDepth 20000 in
theorem m_X1_fillTurn (l : Launch) (D : va_G) (ad : Nat → Nat) (M : xM)   {o : xM} (h : f_X1_fillTurn M = some o) : xMetC l yX1_fillTurn cX1_fillTurn 3 none ({ frames := 0, cells := 0, slots := 0, locals := 0 } : Room) [.ref (ad 17)] D ad M none o := by
  refine xMetC_of (own := RX1) (by decide) rfl (Nat.le_of_ble_eq_true rfl) ?_
  intro x C e1 e2 e3 ev eM hr
  subst e1; subst e2; subst e3
  refine r_sub (L := [(0, .ref (x_ad x 17))]) (L' := [(0, .ref (x_ad x 17))]) [0] rfl ?_
  exact w_X1_fillTurn_0 C M _ h hr ev eM

def b_X2_isBacked_27 (M : xM) (s0 : Int32) : Option (Int32) :=
  gz s0 (some s0)
set_option maxRecDepth 20000 in
set_option maxHeartbeats 2000000 in
theorem w_X2_isBacked_27 {x : xC} (C : CtC x RX2 cX2_isBacked 2 ({ frames := 0, cells := 0, slots := 0, locals := 0 } : Room)) (M : xM) (s0 : Int32)  (o : Int32) (h : b_X2_isBacked_27 M s0 = some o) (hr : (x_me x).sig.returnType = some .boolean) (ev : x_rv x = some (.int o)) (eM : x_M x = M) : J x M 27 [] [.int s0] := by
  unfold b_X2_isBacked_27 at h
  obtain ⟨z_1, h⟩ := gz_E h
  obtain rfl := Option.some.inj h
  exact r_zret C.1 hr (nz_n z_1) ev eM dX2_isBacked_27

def b_X2_isBacked_22 (M : xM)  : Option (Int32) :=
  b_X2_isBacked_27 M (1 : Int32)
set_option maxRecDepth 20000 in
set_option maxHeartbeats 2000000 in
theorem w_X2_isBacked_22 {x : xC} (C : CtC x RX2 cX2_isBacked 2 ({ frames := 0, cells := 0, slots := 0, locals := 0 } : Room)) (M : xM)   (o : Int32) (h : b_X2_isBacked_22 M = some o) (hr : (x_me x).sig.returnType = some .boolean) (ev : x_rv x = some (.int o)) (eM : x_M x = M) : J x M 22 [] [] := by
  unfold b_X2_isBacked_22 at h
  refine r_iconst (v := 1) C.1 dX2_isBacked_22 rfl ?_
  refine r_goto C.1 27 dX2_isBacked_23 (by decide) ?_
  exact r_sub [] rfl (w_X2_isBacked_27 C M (1 : Int32) _ h hr ev eM)

def b_X2_isBacked_0 (M : xM) (k0 : Nat) (x1 : Int32) : Option (Int32) :=
  if (M k0 6) = 0 then if (M k0 3) ≤ x1 then b_X2_isBacked_22 M else if (M k0 7) = 0 then b_X2_isBacked_27 M (0 : Int32) else b_X2_isBacked_22 M else b_X2_isBacked_22 M
set_option maxRecDepth 20000 in
set_option maxHeartbeats 2000000 in
theorem w_X2_isBacked_0 {x : xC} (C : CtC x RX2 cX2_isBacked 2 ({ frames := 0, cells := 0, slots := 0, locals := 0 } : Room)) (M : xM) (k0 : Nat) (x1 : Int32) (h0 : KE k0) (o : Int32) (h : b_X2_isBacked_0 M k0 x1 = some o) (hr : (x_me x).sig.returnType = some .boolean) (ev : x_rv x = some (.int o)) (eM : x_M x = M) : J x M 0 [(0, .ref (x_ad x k0)), (1, .int x1)] [] := by
  unfold b_X2_isBacked_0 at h
  refine r_aload_n C.1 0 dX2_isBacked_0 rfl rfl ?_
  refine gfk_X2_30 C h0 dX2_isBacked_1 ?_
  refine r_if_ne C.1 22 dX2_isBacked_4 (by decide) (fun c_1 => ?_) (fun c_1 => ?_)
  · replace h := ite_F c_1 h
    exact r_sub [] rfl (w_X2_isBacked_22 C M _ h hr ev eM)
  · replace h := ite_T c_1 h
    refine r_aload_n C.1 0 dX2_isBacked_7 rfl rfl ?_
    refine gfk_X2_21 C h0 dX2_isBacked_8 ?_
    refine r_iload_n C.1 1 dX2_isBacked_11 rfl rfl ?_
    refine r_icmp_le C.1 22 dX2_isBacked_12 (by decide) (fun c_2 => ?_) (fun c_2 => ?_)
    · replace h := ite_T c_2 h
      exact r_sub [] rfl (w_X2_isBacked_22 C M _ h hr ev eM)
    · replace h := ite_F c_2 h
      refine r_aload_n C.1 0 dX2_isBacked_15 rfl rfl ?_
      refine gfk_X2_34 C h0 dX2_isBacked_16 ?_
      refine r_if_eq C.1 26 dX2_isBacked_19 (by decide) (fun c_3 => ?_) (fun c_3 => ?_)
      · replace h := ite_T c_3 h
        refine r_iconst (v := 0) C.1 dX2_isBacked_26 rfl ?_
        exact r_sub [] rfl (w_X2_isBacked_27 C M (0 : Int32) _ h hr ev eM)
      · replace h := ite_F c_3 h
        exact r_sub [] rfl (w_X2_isBacked_22 C M _ h hr ev eM)
def f_X2_isBacked (M : xM) (k0 : Nat) (x1 : Int32) : Option (Int32) := b_X2_isBacked_0 M k0 x1
set_option maxRecDepth 20000 in
theorem m_X2_isBacked (l : Launch) (D : va_G) (ad : Nat → Nat) (M : xM) (k0 : Nat) (x1 : Int32) (h0 : KE k0) {o : Int32} (h : f_X2_isBacked M k0 x1 = some o) : xMetC l yX2_isBacked cX2_isBacked 2 (some .boolean) ({ frames := 0, cells := 0, slots := 0, locals := 0 } : Room) [.ref (ad k0), .int x1] D ad M (some (.int o)) M := by
  refine xMetC_of (own := RX2) (by decide) rfl (Nat.le_of_ble_eq_true rfl) ?_
  intro x C e1 e2 e3 ev eM hr
  subst e1; subst e2; subst e3
  refine r_sub (L := [(0, .ref (x_ad x k0)), (1, .int x1)]) (L' := [(0, .ref (x_ad x k0)), (1, .int x1)]) [0, 1] rfl ?_
  exact w_X2_isBacked_0 C M k0 x1 h0 _ h hr ev eM

def b_X1_takeAllowed_0 (M : xM) (k1 : Nat) : Option (Int32 × xM) :=
  if (M k1 7) = 0 then gd (1 : Int32) 7 (bd (f_X2_isBacked M k1 (M 18 (1 : Int32).toNatClampNeg)) (fun r_3 => if r_3 = 0 then some ((0 : Int32), M) else if (M k1 4) < (2 : Int32) then bd (f_X1_leftAt M (M k1 1) (M k1 4) ((M k1 2) / (360 : Int32))) (fun r_7 => gd r_7 80 (lt (imin (M k1 3) (M 23 r_7.toNatClampNeg)) (fun y_10 => gd r_7 80 (gd r_7 80 (lt (uM M 23 r_7.toNatClampNeg ((M 23 r_7.toNatClampNeg) - y_10)) (fun M_13 => some (y_10, M_13))))))) else some (M k1 3, M))) else some (M k1 3, M)
set_option maxRecDepth 20000 in
set_option maxHeartbeats 2000000 in
theorem w_X1_takeAllowed_0 {x : xC} (C : CtC x RX1 cX1_takeAllowed 4 ({ frames := 1, cells := 0, slots := 0, locals := 24 } : Room)) (M : xM) (k1 : Nat) (h1 : KE k1) (o : Int32 × xM) (h : b_X1_takeAllowed_0 M k1 = some o) (hr : (x_me x).sig.returnType = some .int) (ev : x_rv x = some (.int o.1)) (eM : x_M x = o.2) : J x M 0 [(0, .ref (x_ad x 17)), (1, .ref (x_ad x k1))] [] := by
  unfold b_X1_takeAllowed_0 at h
  refine r_aload_n C.1 1 dX1_takeAllowed_0 rfl rfl ?_
  refine gfk_X1_151 C h1 dX1_takeAllowed_1 ?_
  refine r_if_eq C.1 12 dX1_takeAllowed_4 (by decide) (fun c_1 => ?_) (fun c_1 => ?_)
  · replace h := ite_T c_1 h
    refine r_aload_n C.1 1 dX1_takeAllowed_12 rfl rfl ?_
    refine r_aload_n C.1 0 dX1_takeAllowed_13 rfl rfl ?_
    refine gf_X1_13_17 C dX1_takeAllowed_14 ?_
    refine r_iconst (v := 1) C.1 dX1_takeAllowed_17 rfl ?_
    obtain ⟨q_2, h⟩ := gd_E h
    refine r_iald C.1 (cK C (by decide)) (cS C (sh_18)) 0 (cT0 C) q_2 dX1_takeAllowed_18 ?_
    obtain ⟨r_3, hc_4, h⟩ := bd_E h
    refine cl_X1_156 C h1 ⟨Nat.le_of_ble_eq_true rfl, Nat.le_of_ble_eq_true rfl⟩ (m_X2_isBacked _ _ _ M k1 (M 18 (1 : Int32).toNatClampNeg) h1 hc_4) (Nat.le_of_ble_eq_true rfl) dX1_takeAllowed_19 ?_
    refine r_if_ne C.1 27 dX1_takeAllowed_22 (by decide) (fun c_5 => ?_) (fun c_5 => ?_)
    · replace h := ite_F c_5 h
      refine r_aload_n C.1 1 dX1_takeAllowed_27 rfl rfl ?_
      refine gfk_X1_160 C h1 dX1_takeAllowed_28 ?_
      refine r_iconst (v := 2) C.1 dX1_takeAllowed_31 rfl ?_
      refine r_icmp_lt C.1 40 dX1_takeAllowed_32 (by decide) (fun c_6 => ?_) (fun c_6 => ?_)
      · replace h := ite_T c_6 h
        refine r_aload_n C.1 0 dX1_takeAllowed_40 rfl rfl ?_
        refine r_aload_n C.1 1 dX1_takeAllowed_41 rfl rfl ?_
        refine gfk_X1_161 C h1 dX1_takeAllowed_42 ?_
        refine r_aload_n C.1 1 dX1_takeAllowed_45 rfl rfl ?_
        refine gfk_X1_160 C h1 dX1_takeAllowed_46 ?_
        refine r_aload_n C.1 1 dX1_takeAllowed_49 rfl rfl ?_
        refine gfk_X1_148 C h1 dX1_takeAllowed_50 ?_
        refine r_sipush (v := 360) C.1 dX1_takeAllowed_53 (by decide) ?_
        refine r_idiv C.1 (by decide) dX1_takeAllowed_56 ?_
        obtain ⟨r_7, hc_8, h⟩ := bd_E h
        refine cl_X1_144 C ⟨Nat.le_of_ble_eq_true rfl, Nat.le_of_ble_eq_true rfl⟩ (m_X1_leftAt _ _ _ M (M k1 1) (M k1 4) ((M k1 2) / (360 : Int32)) hc_8) (Nat.le_of_ble_eq_true rfl) dX1_takeAllowed_57 ?_
        refine r_istore_n C.1 [(2, .int r_7), (0, .ref (x_ad x 17)), (1, .ref (x_ad x k1))] dX1_takeAllowed_60 rfl (by decide) rfl rfl ?_
        refine r_aload_n C.1 2 dX1_takeAllowed_61 rfl rfl ?_
        refine gfk_X1_155 C h1 dX1_takeAllowed_62 ?_
        refine r_aload_n C.1 1 dX1_takeAllowed_65 rfl rfl ?_
        refine gf_X1_53_17 C dX1_takeAllowed_66 ?_
        refine r_iload_n C.1 0 dX1_takeAllowed_69 rfl rfl ?_
        obtain ⟨q_9, h⟩ := gd_E h
        refine r_iald C.1 (cK C (by decide)) (cS C (sh_23)) 0 (cT0 C) q_9 dX1_takeAllowed_70 ?_
        refine cm_X1_162 C.1 (by decide) (by decide) (Nat.le_of_ble_eq_true rfl) dX1_takeAllowed_71 ?_
        obtain ⟨y_10, ey_10, h⟩ := lt_E h
        refine r_istore_n C.1 [(3, .int y_10), (2, .int r_7), (0, .ref (x_ad x 17)), (1, .ref (x_ad x k1))] dX1_takeAllowed_74 rfl (by decide) ey_10 rfl ?_
        refine r_aload_n C.1 2 dX1_takeAllowed_75 rfl rfl ?_
        refine gf_X1_53_17 C dX1_takeAllowed_76 ?_
        refine r_iload_n C.1 1 dX1_takeAllowed_79 rfl rfl ?_
        refine r_dup2 C.1 rfl rfl dX1_takeAllowed_80 ?_
        obtain ⟨q_11, h⟩ := gd_E h
        refine r_iald C.1 (cK C (by decide)) (cS C (sh_23)) 0 (cT0 C) q_11 dX1_takeAllowed_81 ?_
        refine r_iload_n C.1 0 dX1_takeAllowed_82 rfl rfl ?_
        refine r_isub C.1 dX1_takeAllowed_83 ?_
        obtain ⟨q_12, h⟩ := gd_E h
        obtain ⟨M_13, eM_13, h⟩ := lt_E h
        refine r_iast C.1 (cK C (by decide)) (cS C (sh_23)) 0 (cT0 C) q_12 eM_13 dX1_takeAllowed_84 ?_
        refine r_iload_n C.1 0 dX1_takeAllowed_85 rfl rfl ?_
        obtain rfl := Option.some.inj h
        exact r_iret C.1 hr ev eM dX1_takeAllowed_86
      · replace h := ite_F c_6 h
        refine r_aload_n C.1 1 dX1_takeAllowed_35 rfl rfl ?_
        refine gfk_X1_155 C h1 dX1_takeAllowed_36 ?_
        obtain rfl := Option.some.inj h
        exact r_iret C.1 hr ev eM dX1_takeAllowed_39
    · replace h := ite_T c_5 h
      refine r_iconst (v := 0) C.1 dX1_takeAllowed_25 rfl ?_
      obtain rfl := Option.some.inj h
      exact r_iret C.1 hr ev eM dX1_takeAllowed_26
  · replace h := ite_F c_1 h
    refine r_aload_n C.1 1 dX1_takeAllowed_7 rfl rfl ?_
    refine gfk_X1_155 C h1 dX1_takeAllowed_8 ?_
    obtain rfl := Option.some.inj h
    exact r_iret C.1 hr ev eM dX1_takeAllowed_11
def f_X1_takeAllowed (M : xM) (k1 : Nat) : Option (Int32 × xM) := b_X1_takeAllowed_0 M k1
set_option maxRecDepth 20000 in
theorem m_X1_takeAllowed (l : Launch) (D : va_G) (ad : Nat → Nat) (M : xM) (k1 : Nat) (h1 : KE k1) {r : Int32} {M1 : xM} (h : f_X1_takeAllowed M k1 = some (r, M1)) : xMetC l yX1_takeAllowed cX1_takeAllowed 4 (some .int) ({ frames := 1, cells := 0, slots := 0, locals := 24 } : Room) [.ref (ad 17), .ref (ad k1)] D ad M (some (.int r)) M1 := by
  refine xMetC_of (own := RX1) (by decide) rfl (Nat.le_of_ble_eq_true rfl) ?_
  intro x C e1 e2 e3 ev eM hr
  subst e1; subst e2; subst e3
  refine r_sub (L := [(0, .ref (x_ad x 17)), (1, .ref (x_ad x k1))]) (L' := [(0, .ref (x_ad x 17)), (1, .ref (x_ad x k1))]) [0, 1] rfl ?_
  exact w_X1_takeAllowed_0 C M k1 h1 _ h hr ev eM

def b_X1_reckon_47 (M : xM) (x1 : Int32) : Option ((xM × Int32) ⊕ (xM)) :=
  lt (x1 + (1 : Int32)) (fun y_1 => some (.inl (M, y_1)))
set_option maxRecDepth 20000 in
set_option maxHeartbeats 2000000 in
theorem w_X1_reckon_47 {x : xC} (C : CtC x RX1 cX1_reckon 3 ({ frames := 3, cells := 0, slots := 0, locals := 68 } : Room)) (M : xM) (x1 : Int32)  (o : (xM × Int32) ⊕ (xM)) (h : b_X1_reckon_47 M x1 = some o) (kh : ∀ s : xM × Int32, o = .inl s → J x s.1 10 [(0, .ref (x_ad x 17)), (1, .int s.2)] []) (ke_0 : ∀ v : xM, o = .inr v → J x v 53 [] []) : J x M 47 [(0, .ref (x_ad x 17)), (1, .int x1)] [] := by
  unfold b_X1_reckon_47 at h
  obtain ⟨y_1, ey_1, h⟩ := lt_E h
  refine r_iinc C.1 1 [(1, .int y_1), (0, .ref (x_ad x 17))] dX1_reckon_47 rfl ey_1 (by decide) rfl ?_
  refine r_goto C.1 10 dX1_reckon_50 (by decide) ?_
  exact r_sub [1, 0] rfl (kh _ (Option.some.inj h).symm)

def bl_X1_reckon_10 (M : xM) (x1 : Int32) : Option ((xM × Int32) ⊕ (xM)) :=
  if (M 17 5) ≤ x1 then some (.inr M) else gd x1 40 (gd (M 24 x1.toNatClampNeg) 40 (if (M (45 + (M 24 x1.toNatClampNeg).toNatClampNeg) 0) = (1 : Int32) then bd2 (f_X1_takeAllowed M (45 + (M 24 x1.toNatClampNeg).toNatClampNeg)) (fun r_5 M_7 => lt (uM M_7 (45 + (M 24 x1.toNatClampNeg).toNatClampNeg) 8 r_5) (fun M_8 => b_X1_reckon_47 M_8 x1)) else b_X1_reckon_47 M x1))
set_option maxRecDepth 20000 in
set_option maxHeartbeats 2000000 in
theorem wl_X1_reckon_10 {x : xC} (C : CtC x RX1 cX1_reckon 3 ({ frames := 3, cells := 0, slots := 0, locals := 68 } : Room)) (M : xM) (x1 : Int32)  (o : (xM × Int32) ⊕ (xM)) (h : bl_X1_reckon_10 M x1 = some o) (kh : ∀ s : xM × Int32, o = .inl s → J x s.1 10 [(0, .ref (x_ad x 17)), (1, .int s.2)] []) (ke_0 : ∀ v : xM, o = .inr v → J x v 53 [] []) : J x M 10 [(0, .ref (x_ad x 17)), (1, .int x1)] [] := by
  unfold bl_X1_reckon_10 at h
  refine r_iload_n C.1 1 dX1_reckon_10 rfl rfl ?_
  refine r_aload_n C.1 0 dX1_reckon_11 rfl rfl ?_
  refine gf_X1_35_17 C dX1_reckon_12 ?_
  refine r_icmp_ge C.1 53 dX1_reckon_15 (by decide) (fun c_1 => ?_) (fun c_1 => ?_)
  · replace h := ite_T c_1 h
    exact r_sub [] rfl (ke_0 _ (Option.some.inj h).symm)
  · replace h := ite_F c_1 h
    refine r_aload_n C.1 0 dX1_reckon_18 rfl rfl ?_
    refine gf_X1_40_17 C dX1_reckon_19 ?_
    refine r_aload_n C.1 0 dX1_reckon_22 rfl rfl ?_
    refine gf_X1_56_17 C dX1_reckon_23 ?_
    refine r_iload_n C.1 1 dX1_reckon_26 rfl rfl ?_
    obtain ⟨q_2, h⟩ := gd_E h
    refine r_iald C.1 (cK C (by decide)) (cS C (sh_24)) 0 (cT0 C) q_2 dX1_reckon_27 ?_
    obtain ⟨q_3, h⟩ := gd_E h
    refine r_aldq C.1 (cK C (by decide)) (cS C (sh_21)) 3 (cT3 C) q_3 (y := x_ad x (45 + (M 24 x1.toNatClampNeg).toNatClampNeg)) rfl dX1_reckon_28 ?_
    refine r_astore_n C.1 [(2, .ref (x_ad x (45 + (M 24 x1.toNatClampNeg).toNatClampNeg))), (0, .ref (x_ad x 17)), (1, .int x1)] dX1_reckon_29 rfl (by decide) rfl ?_
    refine r_aload_n C.1 0 dX1_reckon_30 rfl rfl ?_
    refine gfk_X1_115 C (kE_17 (vp_lt q_3)) dX1_reckon_31 ?_
    refine r_iconst (v := 1) C.1 dX1_reckon_34 rfl ?_
    refine r_icmp_ne C.1 47 dX1_reckon_35 (by decide) (fun c_4 => ?_) (fun c_4 => ?_)
    · replace h := ite_F c_4 h
      exact r_sub [1, 2] rfl (w_X1_reckon_47 C M x1 _ h kh ke_0)
    · replace h := ite_T c_4 h
      refine r_aload_n C.1 0 dX1_reckon_38 rfl rfl ?_
      refine r_aload_n C.1 1 dX1_reckon_39 rfl rfl ?_
      refine r_aload_n C.1 0 dX1_reckon_40 rfl rfl ?_
      obtain ⟨r_5, M_7, hc_6, h⟩ := bd2_E h
      refine cl_X1_131 C ⟨Nat.le_of_ble_eq_true rfl, Nat.le_of_ble_eq_true rfl⟩ (m_X1_takeAllowed _ _ _ M (45 + (M 24 x1.toNatClampNeg).toNatClampNeg) (kE_17 (vp_lt q_3)) hc_6) (Nat.le_of_ble_eq_true rfl) dX1_reckon_41 ?_
      obtain ⟨M_8, eM_8, h⟩ := lt_E h
      refine pfk_X1_135 C (kE_17 (vp_lt q_3)) eM_8 dX1_reckon_44 ?_
      exact r_sub [1, 2] rfl (w_X1_reckon_47 C M_8 x1 _ h kh ke_0)

def b_X1_reckon_10 (M : xM) (x1 : Int32) : Option (xM) :=
  bd (loopN (fun s : xM × Int32 => bl_X1_reckon_10 s.1 s.2) BG (M, x1)) (fun v => some v)
set_option maxRecDepth 20000 in
set_option maxHeartbeats 2000000 in
theorem w_X1_reckon_10 {x : xC} (C : CtC x RX1 cX1_reckon 3 ({ frames := 3, cells := 0, slots := 0, locals := 68 } : Room)) (M : xM) (x1 : Int32)  (o : xM) (h : b_X1_reckon_10 M x1 = some o) (hr : (x_me x).sig.returnType = none) (ev : x_rv x = none) (eM : x_M x = o) : J x M 10 [(0, .ref (x_ad x 17)), (1, .int x1)] [] := by
  unfold b_X1_reckon_10 at h
  obtain ⟨r_0, hr_0, h⟩ := bd_E h
  refine loopN_ind (JJ := fun s => J x s.1 10 [(0, .ref (x_ad x 17)), (1, .int s.2)] []) (KX := fun q => q = r_0) ?_ BG (M, x1) r_0 hr_0 rfl
  intro s o1 hb kk1 kk2
  refine wl_X1_reckon_10 C s.1 s.2 _ hb kk1 ?_
  · intro v e0
    have e1 := kk2 _ e0
    subst e1
    obtain rfl := Option.some.inj h
    exact r_vret C.1 hr ev eM dX1_reckon_53

def b_X1_reckon_0 (M : xM)  : Option (xM) :=
  bd (f_X1_fillLeft M) (fun M_3 => bd (f_X1_fillTurn M_3) (fun M_6 => b_X1_reckon_10 M_6 (0 : Int32)))
set_option maxRecDepth 20000 in
set_option maxHeartbeats 2000000 in
theorem w_X1_reckon_0 {x : xC} (C : CtC x RX1 cX1_reckon 3 ({ frames := 3, cells := 0, slots := 0, locals := 68 } : Room)) (M : xM)   (o : xM) (h : b_X1_reckon_0 M = some o) (hr : (x_me x).sig.returnType = none) (ev : x_rv x = none) (eM : x_M x = o) : J x M 0 [(0, .ref (x_ad x 17))] [] := by
  unfold b_X1_reckon_0 at h
  refine r_aload_n C.1 0 dX1_reckon_0 rfl rfl ?_
  obtain ⟨M_3, hc_2, h⟩ := bd_E h
  refine cl_X1_125 C ⟨Nat.le_of_ble_eq_true rfl, Nat.le_of_ble_eq_true rfl⟩ (m_X1_fillLeft _ _ _ M hc_2) (Nat.le_of_ble_eq_true rfl) dX1_reckon_1 ?_
  refine r_aload_n C.1 0 dX1_reckon_4 rfl rfl ?_
  obtain ⟨M_6, hc_5, h⟩ := bd_E h
  refine cl_X1_128 C ⟨Nat.le_of_ble_eq_true rfl, Nat.le_of_ble_eq_true rfl⟩ (m_X1_fillTurn _ _ _ M_3 hc_5) (Nat.le_of_ble_eq_true rfl) dX1_reckon_5 ?_
  refine r_iconst (v := 0) C.1 dX1_reckon_8 rfl ?_
  refine r_istore_n C.1 [(1, .int (0 : Int32)), (0, .ref (x_ad x 17))] dX1_reckon_9 rfl (by decide) rfl rfl ?_
  exact r_sub [1, 0] rfl (w_X1_reckon_10 C M_6 (0 : Int32) _ h hr ev eM)
def f_X1_reckon (M : xM)  : Option (xM) := b_X1_reckon_0 M 
set_option maxRecDepth 20000 in
theorem m_X1_reckon (l : Launch) (D : va_G) (ad : Nat → Nat) (M : xM)   {o : xM} (h : f_X1_reckon M = some o) : xMetC l yX1_reckon cX1_reckon 3 none ({ frames := 3, cells := 0, slots := 0, locals := 68 } : Room) [.ref (ad 17)] D ad M none o := by
  refine xMetC_of (own := RX1) (by decide) rfl (Nat.le_of_ble_eq_true rfl) ?_
  intro x C e1 e2 e3 ev eM hr
  subst e1; subst e2; subst e3
  refine r_sub (L := [(0, .ref (x_ad x 17))]) (L' := [(0, .ref (x_ad x 17))]) [0] rfl ?_
  exact w_X1_reckon_0 C M _ h hr ev eM

def b_X2_part_115 (M : xM) (s0 : Int32) : Option (Int32) :=
  some s0
set_option maxRecDepth 20000 in
set_option maxHeartbeats 2000000 in
theorem w_X2_part_115 {x : xC} (C : CtC x RX2 cX2_part 2 ({ frames := 0, cells := 0, slots := 0, locals := 0 } : Room)) (M : xM) (s0 : Int32)  (o : Int32) (h : b_X2_part_115 M s0 = some o) (hr : (x_me x).sig.returnType = some .int) (ev : x_rv x = some (.int o)) (eM : x_M x = M) : J x M 115 [] [.int s0] := by
  unfold b_X2_part_115 at h
  obtain rfl := Option.some.inj h
  exact r_iret C.1 hr ev eM dX2_part_115

def b_X2_part_43 (M : xM) (s0 : Int32) : Option (Int32) :=
  some s0
set_option maxRecDepth 20000 in
set_option maxHeartbeats 2000000 in
theorem w_X2_part_43 {x : xC} (C : CtC x RX2 cX2_part 2 ({ frames := 0, cells := 0, slots := 0, locals := 0 } : Room)) (M : xM) (s0 : Int32)  (o : Int32) (h : b_X2_part_43 M s0 = some o) (hr : (x_me x).sig.returnType = some .int) (ev : x_rv x = some (.int o)) (eM : x_M x = M) : J x M 43 [] [.int s0] := by
  unfold b_X2_part_43 at h
  obtain rfl := Option.some.inj h
  exact r_iret C.1 hr ev eM dX2_part_43

def b_X2_part_60 (M : xM) (s0 : Int32) : Option (Int32) :=
  some s0
set_option maxRecDepth 20000 in
set_option maxHeartbeats 2000000 in
theorem w_X2_part_60 {x : xC} (C : CtC x RX2 cX2_part 2 ({ frames := 0, cells := 0, slots := 0, locals := 0 } : Room)) (M : xM) (s0 : Int32)  (o : Int32) (h : b_X2_part_60 M s0 = some o) (hr : (x_me x).sig.returnType = some .int) (ev : x_rv x = some (.int o)) (eM : x_M x = M) : J x M 60 [] [.int s0] := by
  unfold b_X2_part_60 at h
  obtain rfl := Option.some.inj h
  exact r_iret C.1 hr ev eM dX2_part_60

def b_X2_part_82 (M : xM) (s0 : Int32) : Option (Int32) :=
  some s0
set_option maxRecDepth 20000 in
set_option maxHeartbeats 2000000 in
theorem w_X2_part_82 {x : xC} (C : CtC x RX2 cX2_part 2 ({ frames := 0, cells := 0, slots := 0, locals := 0 } : Room)) (M : xM) (s0 : Int32)  (o : Int32) (h : b_X2_part_82 M s0 = some o) (hr : (x_me x).sig.returnType = some .int) (ev : x_rv x = some (.int o)) (eM : x_M x = M) : J x M 82 [] [.int s0] := by
  unfold b_X2_part_82 at h
  obtain rfl := Option.some.inj h
  exact r_iret C.1 hr ev eM dX2_part_82

def b_X2_part_0 (M : xM) (k0 : Nat) (x1 : Int32) : Option (Int32) :=
  if x1 = (1 : Int32) then if (M k0 0) = 0 then b_X2_part_43 M (M k0 3) else b_X2_part_43 M (0 : Int32) else (if x1 = (2 : Int32) then if (M k0 0) = (1 : Int32) then b_X2_part_60 M (M k0 8) else b_X2_part_60 M (0 : Int32) else (if x1 = (3 : Int32) then if (M k0 0) = (1 : Int32) then b_X2_part_82 M ((M k0 3) - (M k0 8)) else b_X2_part_82 M (0 : Int32) else (if (M k0 0) = (2 : Int32) then b_X2_part_115 M (M k0 3) else if (M k0 0) = (3 : Int32) then b_X2_part_115 M (-(M k0 3)) else b_X2_part_115 M (0 : Int32))))
set_option maxRecDepth 20000 in
set_option maxHeartbeats 2000000 in
theorem w_X2_part_0 {x : xC} (C : CtC x RX2 cX2_part 2 ({ frames := 0, cells := 0, slots := 0, locals := 0 } : Room)) (M : xM) (k0 : Nat) (x1 : Int32) (h0 : KE k0) (o : Int32) (h : b_X2_part_0 M k0 x1 = some o) (hr : (x_me x).sig.returnType = some .int) (ev : x_rv x = some (.int o)) (eM : x_M x = M) : J x M 0 [(0, .ref (x_ad x k0)), (1, .int x1)] [] := by
  unfold b_X2_part_0 at h
  refine r_iload_n C.1 1 dX2_part_0 rfl rfl ?_
  by_cases c_10 : x1 = (1 : Int32)
  · replace h := ite_T c_10 h
    refine r_tin C.1 c_10 28 dX2_part_1 (by decide) (by decide) rfl (by decide) ?_
    refine r_aload_n C.1 0 dX2_part_28 rfl rfl ?_
    refine gfk_X2_9 C h0 dX2_part_29 ?_
    refine r_if_ne C.1 42 dX2_part_32 (by decide) (fun c_2 => ?_) (fun c_2 => ?_)
    · replace h := ite_F c_2 h
      refine r_iconst (v := 0) C.1 dX2_part_42 rfl ?_
      exact r_sub [] rfl (w_X2_part_43 C M (0 : Int32) _ h hr ev eM)
    · replace h := ite_T c_2 h
      refine r_aload_n C.1 0 dX2_part_35 rfl rfl ?_
      refine gfk_X2_21 C h0 dX2_part_36 ?_
      refine r_goto C.1 43 dX2_part_39 (by decide) ?_
      exact r_sub [] rfl (w_X2_part_43 C M (M k0 3) _ h hr ev eM)
  · replace h := ite_F c_10 h
    by_cases c_11 : x1 = (2 : Int32)
    · replace h := ite_T c_11 h
      refine r_tin C.1 c_11 44 dX2_part_1 (by decide) (by decide) rfl (by decide) ?_
      refine r_aload_n C.1 0 dX2_part_44 rfl rfl ?_
      refine gfk_X2_9 C h0 dX2_part_45 ?_
      refine r_iconst (v := 1) C.1 dX2_part_48 rfl ?_
      refine r_icmp_ne C.1 59 dX2_part_49 (by decide) (fun c_3 => ?_) (fun c_3 => ?_)
      · replace h := ite_F c_3 h
        refine r_iconst (v := 0) C.1 dX2_part_59 rfl ?_
        exact r_sub [] rfl (w_X2_part_60 C M (0 : Int32) _ h hr ev eM)
      · replace h := ite_T c_3 h
        refine r_aload_n C.1 0 dX2_part_52 rfl rfl ?_
        refine gfk_X2_37 C h0 dX2_part_53 ?_
        refine r_goto C.1 60 dX2_part_56 (by decide) ?_
        exact r_sub [] rfl (w_X2_part_60 C M (M k0 8) _ h hr ev eM)
    · replace h := ite_F c_11 h
      by_cases c_12 : x1 = (3 : Int32)
      · replace h := ite_T c_12 h
        refine r_tin C.1 c_12 61 dX2_part_1 (by decide) (by decide) rfl (by decide) ?_
        refine r_aload_n C.1 0 dX2_part_61 rfl rfl ?_
        refine gfk_X2_9 C h0 dX2_part_62 ?_
        refine r_iconst (v := 1) C.1 dX2_part_65 rfl ?_
        refine r_icmp_ne C.1 81 dX2_part_66 (by decide) (fun c_4 => ?_) (fun c_4 => ?_)
        · replace h := ite_F c_4 h
          refine r_iconst (v := 0) C.1 dX2_part_81 rfl ?_
          exact r_sub [] rfl (w_X2_part_82 C M (0 : Int32) _ h hr ev eM)
        · replace h := ite_T c_4 h
          refine r_aload_n C.1 0 dX2_part_69 rfl rfl ?_
          refine gfk_X2_21 C h0 dX2_part_70 ?_
          refine r_aload_n C.1 0 dX2_part_73 rfl rfl ?_
          refine gfk_X2_37 C h0 dX2_part_74 ?_
          refine r_isub C.1 dX2_part_77 ?_
          refine r_goto C.1 82 dX2_part_78 (by decide) ?_
          exact r_sub [] rfl (w_X2_part_82 C M ((M k0 3) - (M k0 8)) _ h hr ev eM)
      · replace h := ite_F c_12 h
        have qc_10 := ne_toInt c_10
        have qc_11 := ne_toInt c_11
        have qc_12 := ne_toInt c_12
        refine r_tout C.1 83 dX2_part_1 (tout_1_3 qc_10 qc_11 qc_12) (by decide) ?_
        refine r_aload_n C.1 0 dX2_part_83 rfl rfl ?_
        refine gfk_X2_9 C h0 dX2_part_84 ?_
        refine r_iconst (v := 2) C.1 dX2_part_87 rfl ?_
        refine r_icmp_ne C.1 98 dX2_part_88 (by decide) (fun c_5 => ?_) (fun c_5 => ?_)
        · replace h := ite_F c_5 h
          refine r_aload_n C.1 0 dX2_part_98 rfl rfl ?_
          refine gfk_X2_9 C h0 dX2_part_99 ?_
          refine r_iconst (v := 3) C.1 dX2_part_102 rfl ?_
          refine r_icmp_ne C.1 114 dX2_part_103 (by decide) (fun c_6 => ?_) (fun c_6 => ?_)
          · replace h := ite_F c_6 h
            refine r_iconst (v := 0) C.1 dX2_part_114 rfl ?_
            exact r_sub [] rfl (w_X2_part_115 C M (0 : Int32) _ h hr ev eM)
          · replace h := ite_T c_6 h
            refine r_aload_n C.1 0 dX2_part_106 rfl rfl ?_
            refine gfk_X2_21 C h0 dX2_part_107 ?_
            refine r_ineg C.1 dX2_part_110 ?_
            refine r_goto C.1 115 dX2_part_111 (by decide) ?_
            exact r_sub [] rfl (w_X2_part_115 C M (-(M k0 3)) _ h hr ev eM)
        · replace h := ite_T c_5 h
          refine r_aload_n C.1 0 dX2_part_91 rfl rfl ?_
          refine gfk_X2_21 C h0 dX2_part_92 ?_
          refine r_goto C.1 115 dX2_part_95 (by decide) ?_
          exact r_sub [] rfl (w_X2_part_115 C M (M k0 3) _ h hr ev eM)
def f_X2_part (M : xM) (k0 : Nat) (x1 : Int32) : Option (Int32) := b_X2_part_0 M k0 x1
set_option maxRecDepth 20000 in
theorem m_X2_part (l : Launch) (D : va_G) (ad : Nat → Nat) (M : xM) (k0 : Nat) (x1 : Int32) (h0 : KE k0) {o : Int32} (h : f_X2_part M k0 x1 = some o) : xMetC l yX2_part cX2_part 2 (some .int) ({ frames := 0, cells := 0, slots := 0, locals := 0 } : Room) [.ref (ad k0), .int x1] D ad M (some (.int o)) M := by
  refine xMetC_of (own := RX2) (by decide) rfl (Nat.le_of_ble_eq_true rfl) ?_
  intro x C e1 e2 e3 ev eM hr
  subst e1; subst e2; subst e3
  refine r_sub (L := [(0, .ref (x_ad x k0)), (1, .int x1)]) (L' := [(0, .ref (x_ad x k0)), (1, .int x1)]) [0, 1] rfl ?_
  exact w_X2_part_0 C M k0 x1 h0 _ h hr ev eM

def b_X1_partOf_63 (M : xM) (x1 : Int32) (x2 : Int32) (x3 : Int32) (x4 : Int32) (x5 : Int32) (x6 : Int32) : Option ((Int32 × Int32) ⊕ (Int32)) :=
  lt (x6 + (1 : Int32)) (fun y_1 => some (.inl (x5, y_1)))
set_option maxRecDepth 20000 in
set_option maxHeartbeats 2000000 in
theorem w_X1_partOf_63 {x : xC} (C : CtC x RX1 cX1_partOf 8 ({ frames := 1, cells := 0, slots := 0, locals := 21 } : Room)) (M : xM) (x1 : Int32) (x2 : Int32) (x3 : Int32) (x4 : Int32) (x5 : Int32) (x6 : Int32)  (o : (Int32 × Int32) ⊕ (Int32)) (h : b_X1_partOf_63 M x1 x2 x3 x4 x5 x6 = some o) (kh : ∀ s : Int32 × Int32, o = .inl s → J x M 6 [(0, .ref (x_ad x 17)), (1, .int x1), (2, .int x2), (3, .int x3), (4, .int x4), (5, .int s.1), (6, .int s.2)] []) (ke_0 : ∀ v : Int32, o = .inr v → J x M 69 [(5, .int v)] []) : J x M 63 [(0, .ref (x_ad x 17)), (1, .int x1), (2, .int x2), (3, .int x3), (4, .int x4), (5, .int x5), (6, .int x6)] [] := by
  unfold b_X1_partOf_63 at h
  obtain ⟨y_1, ey_1, h⟩ := lt_E h
  refine r_iinc C.1 6 [(6, .int y_1), (0, .ref (x_ad x 17)), (1, .int x1), (2, .int x2), (3, .int x3), (4, .int x4), (5, .int x5)] dX1_partOf_63 rfl ey_1 (by decide) rfl ?_
  refine r_goto C.1 6 dX1_partOf_66 (by decide) ?_
  exact r_sub [1, 2, 3, 4, 5, 6, 0] rfl (kh _ (Option.some.inj h).symm)

def bl_X1_partOf_6 (M : xM) (x1 : Int32) (x2 : Int32) (x3 : Int32) (x4 : Int32) (x5 : Int32) (x6 : Int32) : Option ((Int32 × Int32) ⊕ (Int32)) :=
  if (M 17 5) ≤ x6 then some (.inr x5) else gd x6 40 (if (M (45 + x6.toNatClampNeg) 1) = x1 then if (M (45 + x6.toNatClampNeg) 2) < x2 then b_X1_partOf_63 M x1 x2 x3 x4 x5 x6 else if x3 < (M (45 + x6.toNatClampNeg) 2) then b_X1_partOf_63 M x1 x2 x3 x4 x5 x6 else bd (f_X2_part M (45 + x6.toNatClampNeg) x4) (fun r_6 => lt (x5 + r_6) (fun y_8 => b_X1_partOf_63 M x1 x2 x3 x4 y_8 x6)) else b_X1_partOf_63 M x1 x2 x3 x4 x5 x6)
set_option maxRecDepth 20000 in
set_option maxHeartbeats 2000000 in
theorem wl_X1_partOf_6 {x : xC} (C : CtC x RX1 cX1_partOf 8 ({ frames := 1, cells := 0, slots := 0, locals := 21 } : Room)) (M : xM) (x1 : Int32) (x2 : Int32) (x3 : Int32) (x4 : Int32) (x5 : Int32) (x6 : Int32)  (o : (Int32 × Int32) ⊕ (Int32)) (h : bl_X1_partOf_6 M x1 x2 x3 x4 x5 x6 = some o) (kh : ∀ s : Int32 × Int32, o = .inl s → J x M 6 [(0, .ref (x_ad x 17)), (1, .int x1), (2, .int x2), (3, .int x3), (4, .int x4), (5, .int s.1), (6, .int s.2)] []) (ke_0 : ∀ v : Int32, o = .inr v → J x M 69 [(5, .int v)] []) : J x M 6 [(0, .ref (x_ad x 17)), (1, .int x1), (2, .int x2), (3, .int x3), (4, .int x4), (5, .int x5), (6, .int x6)] [] := by
  unfold bl_X1_partOf_6 at h
  refine r_iload C.1 6 dX1_partOf_6 rfl ?_
  refine r_aload_n C.1 0 dX1_partOf_8 rfl rfl ?_
  refine gf_X1_35_17 C dX1_partOf_9 ?_
  refine r_icmp_ge C.1 69 dX1_partOf_12 (by decide) (fun c_1 => ?_) (fun c_1 => ?_)
  · replace h := ite_T c_1 h
    exact r_sub [5] rfl (ke_0 _ (Option.some.inj h).symm)
  · replace h := ite_F c_1 h
    refine r_aload_n C.1 0 dX1_partOf_15 rfl rfl ?_
    refine gf_X1_40_17 C dX1_partOf_16 ?_
    refine r_iload C.1 6 dX1_partOf_19 rfl ?_
    obtain ⟨q_2, h⟩ := gd_E h
    refine r_aldq C.1 (cK C (by decide)) (cS C (sh_21)) 3 (cT3 C) q_2 (y := x_ad x (45 + x6.toNatClampNeg)) rfl dX1_partOf_21 ?_
    refine r_astore C.1 [(7, .ref (x_ad x (45 + x6.toNatClampNeg))), (0, .ref (x_ad x 17)), (1, .int x1), (2, .int x2), (3, .int x3), (4, .int x4), (5, .int x5), (6, .int x6)] dX1_partOf_22 (by decide) rfl ?_
    refine r_aload C.1 0 dX1_partOf_24 rfl ?_
    refine gfk_X1_161 C (kE_17 (vp_lt q_2)) dX1_partOf_26 ?_
    refine r_iload_n C.1 2 dX1_partOf_29 rfl rfl ?_
    refine r_icmp_ne C.1 63 dX1_partOf_30 (by decide) (fun c_3 => ?_) (fun c_3 => ?_)
    · replace h := ite_F c_3 h
      exact r_sub [1, 2, 3, 4, 5, 6, 7] rfl (w_X1_partOf_63 C M x1 x2 x3 x4 x5 x6 _ h kh ke_0)
    · replace h := ite_T c_3 h
      refine r_aload C.1 0 dX1_partOf_33 rfl ?_
      refine gfk_X1_148 C (kE_17 (vp_lt q_2)) dX1_partOf_35 ?_
      refine r_iload_n C.1 3 dX1_partOf_38 rfl rfl ?_
      refine r_icmp_lt C.1 63 dX1_partOf_39 (by decide) (fun c_4 => ?_) (fun c_4 => ?_)
      · replace h := ite_T c_4 h
        exact r_sub [1, 2, 3, 4, 5, 6, 7] rfl (w_X1_partOf_63 C M x1 x2 x3 x4 x5 x6 _ h kh ke_0)
      · replace h := ite_F c_4 h
        refine r_aload C.1 0 dX1_partOf_42 rfl ?_
        refine gfk_X1_148 C (kE_17 (vp_lt q_2)) dX1_partOf_44 ?_
        refine r_iload_n C.1 4 dX1_partOf_47 rfl rfl ?_
        refine r_icmp_gt C.1 63 dX1_partOf_48 (by decide) (fun c_5 => ?_) (fun c_5 => ?_)
        · replace h := ite_T c_5 h
          exact r_sub [1, 2, 3, 4, 5, 6, 7] rfl (w_X1_partOf_63 C M x1 x2 x3 x4 x5 x6 _ h kh ke_0)
        · replace h := ite_F c_5 h
          refine r_iload C.1 6 dX1_partOf_51 rfl ?_
          refine r_aload C.1 0 dX1_partOf_53 rfl ?_
          refine r_iload C.1 5 dX1_partOf_55 rfl ?_
          obtain ⟨r_6, hc_7, h⟩ := bd_E h
          refine cl_X1_168 C (kE_17 (vp_lt q_2)) ⟨Nat.le_of_ble_eq_true rfl, Nat.le_of_ble_eq_true rfl⟩ (m_X2_part _ _ _ M (45 + x6.toNatClampNeg) x4 (kE_17 (vp_lt q_2)) hc_7) (Nat.le_of_ble_eq_true rfl) dX1_partOf_57 ?_
          refine r_iadd C.1 dX1_partOf_60 ?_
          obtain ⟨y_8, ey_8, h⟩ := lt_E h
          refine r_istore C.1 [(5, .int y_8), (7, .ref (x_ad x (45 + x6.toNatClampNeg))), (0, .ref (x_ad x 17)), (1, .int x1), (2, .int x2), (3, .int x3), (4, .int x4), (6, .int x6)] dX1_partOf_61 (by decide) ey_8 rfl ?_
          exact r_sub [2, 3, 4, 5, 6, 0, 7] rfl (w_X1_partOf_63 C M x1 x2 x3 x4 y_8 x6 _ h kh ke_0)

def b_X1_partOf_6 (M : xM) (x1 : Int32) (x2 : Int32) (x3 : Int32) (x4 : Int32) (x5 : Int32) (x6 : Int32) : Option (Int32) :=
  bd (loopN (fun s : Int32 × Int32 => bl_X1_partOf_6 M x1 x2 x3 x4 s.1 s.2) BG (x5, x6)) (fun v => some v)
set_option maxRecDepth 20000 in
set_option maxHeartbeats 2000000 in
theorem w_X1_partOf_6 {x : xC} (C : CtC x RX1 cX1_partOf 8 ({ frames := 1, cells := 0, slots := 0, locals := 21 } : Room)) (M : xM) (x1 : Int32) (x2 : Int32) (x3 : Int32) (x4 : Int32) (x5 : Int32) (x6 : Int32)  (o : Int32) (h : b_X1_partOf_6 M x1 x2 x3 x4 x5 x6 = some o) (hr : (x_me x).sig.returnType = some .int) (ev : x_rv x = some (.int o)) (eM : x_M x = M) : J x M 6 [(0, .ref (x_ad x 17)), (1, .int x1), (2, .int x2), (3, .int x3), (4, .int x4), (5, .int x5), (6, .int x6)] [] := by
  unfold b_X1_partOf_6 at h
  obtain ⟨r_0, hr_0, h⟩ := bd_E h
  refine loopN_ind (JJ := fun s => J x M 6 [(0, .ref (x_ad x 17)), (1, .int x1), (2, .int x2), (3, .int x3), (4, .int x4), (5, .int s.1), (6, .int s.2)] []) (KX := fun q => q = r_0) ?_ BG (x5, x6) r_0 hr_0 rfl
  intro s o1 hb kk1 kk2
  refine wl_X1_partOf_6 C M x1 x2 x3 x4 s.1 s.2 _ hb kk1 ?_
  · intro v e0
    have e1 := kk2 _ e0
    subst e1
    refine r_iload C.1 0 dX1_partOf_69 rfl ?_
    obtain rfl := Option.some.inj h
    exact r_iret C.1 hr ev eM dX1_partOf_71

def b_X1_partOf_0 (M : xM) (x1 : Int32) (x2 : Int32) (x3 : Int32) (x4 : Int32) : Option (Int32) :=
  b_X1_partOf_6 M x1 x2 x3 x4 (0 : Int32) (0 : Int32)
set_option maxRecDepth 20000 in
set_option maxHeartbeats 2000000 in
theorem w_X1_partOf_0 {x : xC} (C : CtC x RX1 cX1_partOf 8 ({ frames := 1, cells := 0, slots := 0, locals := 21 } : Room)) (M : xM) (x1 : Int32) (x2 : Int32) (x3 : Int32) (x4 : Int32)  (o : Int32) (h : b_X1_partOf_0 M x1 x2 x3 x4 = some o) (hr : (x_me x).sig.returnType = some .int) (ev : x_rv x = some (.int o)) (eM : x_M x = M) : J x M 0 [(0, .ref (x_ad x 17)), (1, .int x1), (2, .int x2), (3, .int x3), (4, .int x4)] [] := by
  unfold b_X1_partOf_0 at h
  refine r_iconst (v := 0) C.1 dX1_partOf_0 rfl ?_
  refine r_istore C.1 [(5, .int (0 : Int32)), (0, .ref (x_ad x 17)), (1, .int x1), (2, .int x2), (3, .int x3), (4, .int x4)] dX1_partOf_1 (by decide) rfl rfl ?_
  refine r_iconst (v := 0) C.1 dX1_partOf_3 rfl ?_
  refine r_istore C.1 [(6, .int (0 : Int32)), (5, .int (0 : Int32)), (0, .ref (x_ad x 17)), (1, .int x1), (2, .int x2), (3, .int x3), (4, .int x4)] dX1_partOf_4 (by decide) rfl rfl ?_
  exact r_sub [2, 3, 4, 5, 6, 1, 0] rfl (w_X1_partOf_6 C M x1 x2 x3 x4 (0 : Int32) (0 : Int32) _ h hr ev eM)
def f_X1_partOf (M : xM) (x1 : Int32) (x2 : Int32) (x3 : Int32) (x4 : Int32) : Option (Int32) := b_X1_partOf_0 M x1 x2 x3 x4
set_option maxRecDepth 20000 in
theorem m_X1_partOf (l : Launch) (D : va_G) (ad : Nat → Nat) (M : xM) (x1 : Int32) (x2 : Int32) (x3 : Int32) (x4 : Int32)  {o : Int32} (h : f_X1_partOf M x1 x2 x3 x4 = some o) : xMetC l yX1_partOf cX1_partOf 8 (some .int) ({ frames := 1, cells := 0, slots := 0, locals := 21 } : Room) [.ref (ad 17), .int x1, .int x2, .int x3, .int x4] D ad M (some (.int o)) M := by
  refine xMetC_of (own := RX1) (by decide) rfl (Nat.le_of_ble_eq_true rfl) ?_
  intro x C e1 e2 e3 ev eM hr
  subst e1; subst e2; subst e3
  refine r_sub (L := [(0, .ref (x_ad x 17)), (1, .int x1), (2, .int x2), (3, .int x3), (4, .int x4)]) (L' := [(0, .ref (x_ad x 17)), (1, .int x1), (2, .int x2), (3, .int x3), (4, .int x4)]) [0, 1, 2, 3, 4] rfl ?_
  exact w_X1_partOf_0 C M x1 x2 x3 x4 _ h hr ev eM

def b_X8_broughtAheadOf_45 (M : xM) (x2 : Int32) : Option (Int32) :=
  some x2
set_option maxRecDepth 20000 in
set_option maxHeartbeats 2000000 in
theorem w_X8_broughtAheadOf_45 {x : xC} (C : CtC x RX8 cX8_broughtAheadOf 4 ({ frames := 0, cells := 0, slots := 0, locals := 0 } : Room)) (M : xM) (x2 : Int32)  (o : Int32) (h : b_X8_broughtAheadOf_45 M x2 = some o) (hr : (x_me x).sig.returnType = some .int) (ev : x_rv x = some (.int o)) (eM : x_M x = M) : J x M 45 [(2, .int x2)] [] := by
  unfold b_X8_broughtAheadOf_45 at h
  refine r_iload_n C.1 0 dX8_broughtAheadOf_45 rfl rfl ?_
  obtain rfl := Option.some.inj h
  exact r_iret C.1 hr ev eM dX8_broughtAheadOf_46

def bl_X8_broughtAheadOf_4 (M : xM) (k0 : Nat) (x1 : Int32) (x2 : Int32) (x3 : Int32) : Option ((Int32 × Int32) ⊕ (Int32)) :=
  if (M k0 5) ≤ x3 then some (.inr x2) else if x1 < ((x3 + (1 : Int32)) * (360 : Int32)) then some (.inr x2) else gd x3 10 (gd x3 10 (lt (x2 + ((M (k0 + 3) x3.toNatClampNeg) - (M (k0 + 4) x3.toNatClampNeg))) (fun y_5 => lt (x3 + (1 : Int32)) (fun y_6 => some (.inl (y_5, y_6))))))
set_option maxRecDepth 20000 in
set_option maxHeartbeats 2000000 in
theorem wl_X8_broughtAheadOf_4 {x : xC} (C : CtC x RX8 cX8_broughtAheadOf 4 ({ frames := 0, cells := 0, slots := 0, locals := 0 } : Room)) (M : xM) (k0 : Nat) (x1 : Int32) (x2 : Int32) (x3 : Int32) (h0 : KW k0) (o : (Int32 × Int32) ⊕ (Int32)) (h : bl_X8_broughtAheadOf_4 M k0 x1 x2 x3 = some o) (kh : ∀ s : Int32 × Int32, o = .inl s → J x M 4 [(0, .ref (x_ad x k0)), (1, .int x1), (2, .int s.1), (3, .int s.2)] []) (ke_0 : ∀ v : Int32, o = .inr v → J x M 45 [(2, .int v)] []) : J x M 4 [(0, .ref (x_ad x k0)), (1, .int x1), (2, .int x2), (3, .int x3)] [] := by
  unfold bl_X8_broughtAheadOf_4 at h
  refine r_iload_n C.1 3 dX8_broughtAheadOf_4 rfl rfl ?_
  refine r_aload_n C.1 0 dX8_broughtAheadOf_5 rfl rfl ?_
  refine gfk_X8_28 C h0 dX8_broughtAheadOf_6 ?_
  refine r_icmp_ge C.1 45 dX8_broughtAheadOf_9 (by decide) (fun c_1 => ?_) (fun c_1 => ?_)
  · replace h := ite_T c_1 h
    exact r_sub [2] rfl (ke_0 _ (Option.some.inj h).symm)
  · replace h := ite_F c_1 h
    refine r_iload_n C.1 3 dX8_broughtAheadOf_12 rfl rfl ?_
    refine r_iconst (v := 1) C.1 dX8_broughtAheadOf_13 rfl ?_
    refine r_iadd C.1 dX8_broughtAheadOf_14 ?_
    refine r_sipush (v := 360) C.1 dX8_broughtAheadOf_15 (by decide) ?_
    refine r_imul C.1 dX8_broughtAheadOf_18 ?_
    refine r_iload_n C.1 1 dX8_broughtAheadOf_19 rfl rfl ?_
    refine r_icmp_gt C.1 45 dX8_broughtAheadOf_20 (by decide) (fun c_2 => ?_) (fun c_2 => ?_)
    · replace h := ite_T c_2 h
      exact r_sub [2] rfl (ke_0 _ (Option.some.inj h).symm)
    · replace h := ite_F c_2 h
      refine r_iload_n C.1 2 dX8_broughtAheadOf_23 rfl rfl ?_
      refine r_aload_n C.1 0 dX8_broughtAheadOf_24 rfl rfl ?_
      refine gfk_X8_35 C h0 dX8_broughtAheadOf_25 ?_
      refine r_iload_n C.1 3 dX8_broughtAheadOf_28 rfl rfl ?_
      obtain ⟨q_3, h⟩ := gd_E h
      refine r_iald C.1 (cK C (kW3 h0)) (cS C (sh_W3 h0)) 0 (cT0 C) q_3 dX8_broughtAheadOf_29 ?_
      refine r_aload_n C.1 0 dX8_broughtAheadOf_30 rfl rfl ?_
      refine gfk_X8_38 C h0 dX8_broughtAheadOf_31 ?_
      refine r_iload_n C.1 3 dX8_broughtAheadOf_34 rfl rfl ?_
      obtain ⟨q_4, h⟩ := gd_E h
      refine r_iald C.1 (cK C (kW4 h0)) (cS C (sh_W4 h0)) 0 (cT0 C) q_4 dX8_broughtAheadOf_35 ?_
      refine r_isub C.1 dX8_broughtAheadOf_36 ?_
      refine r_iadd C.1 dX8_broughtAheadOf_37 ?_
      obtain ⟨y_5, ey_5, h⟩ := lt_E h
      refine r_istore_n C.1 [(2, .int y_5), (0, .ref (x_ad x k0)), (1, .int x1), (3, .int x3)] dX8_broughtAheadOf_38 rfl (by decide) ey_5 rfl ?_
      obtain ⟨y_6, ey_6, h⟩ := lt_E h
      refine r_iinc C.1 3 [(3, .int y_6), (2, .int y_5), (0, .ref (x_ad x k0)), (1, .int x1)] dX8_broughtAheadOf_39 rfl ey_6 (by decide) rfl ?_
      refine r_goto C.1 4 dX8_broughtAheadOf_42 (by decide) ?_
      exact r_sub [2, 3, 1, 0] rfl (kh _ (Option.some.inj h).symm)

def b_X8_broughtAheadOf_4 (M : xM) (k0 : Nat) (x1 : Int32) (x2 : Int32) (x3 : Int32) : Option (Int32) :=
  bd (loopN (fun s : Int32 × Int32 => bl_X8_broughtAheadOf_4 M k0 x1 s.1 s.2) BG (x2, x3)) (fun v => b_X8_broughtAheadOf_45 M v)
set_option maxRecDepth 20000 in
set_option maxHeartbeats 2000000 in
theorem w_X8_broughtAheadOf_4 {x : xC} (C : CtC x RX8 cX8_broughtAheadOf 4 ({ frames := 0, cells := 0, slots := 0, locals := 0 } : Room)) (M : xM) (k0 : Nat) (x1 : Int32) (x2 : Int32) (x3 : Int32) (h0 : KW k0) (o : Int32) (h : b_X8_broughtAheadOf_4 M k0 x1 x2 x3 = some o) (hr : (x_me x).sig.returnType = some .int) (ev : x_rv x = some (.int o)) (eM : x_M x = M) : J x M 4 [(0, .ref (x_ad x k0)), (1, .int x1), (2, .int x2), (3, .int x3)] [] := by
  unfold b_X8_broughtAheadOf_4 at h
  obtain ⟨r_0, hr_0, h⟩ := bd_E h
  refine loopN_ind (JJ := fun s => J x M 4 [(0, .ref (x_ad x k0)), (1, .int x1), (2, .int s.1), (3, .int s.2)] []) (KX := fun q => q = r_0) ?_ BG (x2, x3) r_0 hr_0 rfl
  intro s o1 hb kk1 kk2
  refine wl_X8_broughtAheadOf_4 C M k0 x1 s.1 s.2 h0 _ hb kk1 ?_
  · intro v e0
    have e1 := kk2 _ e0
    subst e1
    exact r_sub [0] rfl (w_X8_broughtAheadOf_45 C M v _ h hr ev eM)

def b_X8_broughtAheadOf_0 (M : xM) (k0 : Nat) (x1 : Int32) : Option (Int32) :=
  b_X8_broughtAheadOf_4 M k0 x1 (0 : Int32) (0 : Int32)
set_option maxRecDepth 20000 in
set_option maxHeartbeats 2000000 in
theorem w_X8_broughtAheadOf_0 {x : xC} (C : CtC x RX8 cX8_broughtAheadOf 4 ({ frames := 0, cells := 0, slots := 0, locals := 0 } : Room)) (M : xM) (k0 : Nat) (x1 : Int32) (h0 : KW k0) (o : Int32) (h : b_X8_broughtAheadOf_0 M k0 x1 = some o) (hr : (x_me x).sig.returnType = some .int) (ev : x_rv x = some (.int o)) (eM : x_M x = M) : J x M 0 [(0, .ref (x_ad x k0)), (1, .int x1)] [] := by
  unfold b_X8_broughtAheadOf_0 at h
  refine r_iconst (v := 0) C.1 dX8_broughtAheadOf_0 rfl ?_
  refine r_istore_n C.1 [(2, .int (0 : Int32)), (0, .ref (x_ad x k0)), (1, .int x1)] dX8_broughtAheadOf_1 rfl (by decide) rfl rfl ?_
  refine r_iconst (v := 0) C.1 dX8_broughtAheadOf_2 rfl ?_
  refine r_istore_n C.1 [(3, .int (0 : Int32)), (2, .int (0 : Int32)), (0, .ref (x_ad x k0)), (1, .int x1)] dX8_broughtAheadOf_3 rfl (by decide) rfl rfl ?_
  exact r_sub [2, 3, 1, 0] rfl (w_X8_broughtAheadOf_4 C M k0 x1 (0 : Int32) (0 : Int32) h0 _ h hr ev eM)
def f_X8_broughtAheadOf (M : xM) (k0 : Nat) (x1 : Int32) : Option (Int32) := b_X8_broughtAheadOf_0 M k0 x1
set_option maxRecDepth 20000 in
theorem m_X8_broughtAheadOf (l : Launch) (D : va_G) (ad : Nat → Nat) (M : xM) (k0 : Nat) (x1 : Int32) (h0 : KW k0) {o : Int32} (h : f_X8_broughtAheadOf M k0 x1 = some o) : xMetC l yX8_broughtAheadOf cX8_broughtAheadOf 4 (some .int) ({ frames := 0, cells := 0, slots := 0, locals := 0 } : Room) [.ref (ad k0), .int x1] D ad M (some (.int o)) M := by
  refine xMetC_of (own := RX8) (by decide) rfl (Nat.le_of_ble_eq_true rfl) ?_
  intro x C e1 e2 e3 ev eM hr
  subst e1; subst e2; subst e3
  refine r_sub (L := [(0, .ref (x_ad x k0)), (1, .int x1)]) (L' := [(0, .ref (x_ad x k0)), (1, .int x1)]) [0, 1] rfl ?_
  exact w_X8_broughtAheadOf_0 C M k0 x1 h0 _ h hr ev eM

def b_X2_effectOnEstate_31 (M : xM) (s0 : Int32) : Option (Int32) :=
  some s0
set_option maxRecDepth 20000 in
set_option maxHeartbeats 2000000 in
theorem w_X2_effectOnEstate_31 {x : xC} (C : CtC x RX2 cX2_effectOnEstate 1 ({ frames := 0, cells := 0, slots := 0, locals := 0 } : Room)) (M : xM) (s0 : Int32)  (o : Int32) (h : b_X2_effectOnEstate_31 M s0 = some o) (hr : (x_me x).sig.returnType = some .int) (ev : x_rv x = some (.int o)) (eM : x_M x = M) : J x M 31 [] [.int s0] := by
  unfold b_X2_effectOnEstate_31 at h
  obtain rfl := Option.some.inj h
  exact r_iret C.1 hr ev eM dX2_effectOnEstate_31

def b_X2_effectOnEstate_0 (M : xM) (k0 : Nat) : Option (Int32) :=
  if (M k0 0) = 0 then b_X2_effectOnEstate_31 M (M k0 3) else if (M k0 0) = (1 : Int32) then b_X2_effectOnEstate_31 M (-(M k0 8)) else b_X2_effectOnEstate_31 M (0 : Int32)
set_option maxRecDepth 20000 in
set_option maxHeartbeats 2000000 in
theorem w_X2_effectOnEstate_0 {x : xC} (C : CtC x RX2 cX2_effectOnEstate 1 ({ frames := 0, cells := 0, slots := 0, locals := 0 } : Room)) (M : xM) (k0 : Nat) (h0 : KE k0) (o : Int32) (h : b_X2_effectOnEstate_0 M k0 = some o) (hr : (x_me x).sig.returnType = some .int) (ev : x_rv x = some (.int o)) (eM : x_M x = M) : J x M 0 [(0, .ref (x_ad x k0))] [] := by
  unfold b_X2_effectOnEstate_0 at h
  refine r_aload_n C.1 0 dX2_effectOnEstate_0 rfl rfl ?_
  refine gfk_X2_9 C h0 dX2_effectOnEstate_1 ?_
  refine r_if_ne C.1 14 dX2_effectOnEstate_4 (by decide) (fun c_1 => ?_) (fun c_1 => ?_)
  · replace h := ite_F c_1 h
    refine r_aload_n C.1 0 dX2_effectOnEstate_14 rfl rfl ?_
    refine gfk_X2_9 C h0 dX2_effectOnEstate_15 ?_
    refine r_iconst (v := 1) C.1 dX2_effectOnEstate_18 rfl ?_
    refine r_icmp_ne C.1 30 dX2_effectOnEstate_19 (by decide) (fun c_2 => ?_) (fun c_2 => ?_)
    · replace h := ite_F c_2 h
      refine r_iconst (v := 0) C.1 dX2_effectOnEstate_30 rfl ?_
      exact r_sub [] rfl (w_X2_effectOnEstate_31 C M (0 : Int32) _ h hr ev eM)
    · replace h := ite_T c_2 h
      refine r_aload_n C.1 0 dX2_effectOnEstate_22 rfl rfl ?_
      refine gfk_X2_37 C h0 dX2_effectOnEstate_23 ?_
      refine r_ineg C.1 dX2_effectOnEstate_26 ?_
      refine r_goto C.1 31 dX2_effectOnEstate_27 (by decide) ?_
      exact r_sub [] rfl (w_X2_effectOnEstate_31 C M (-(M k0 8)) _ h hr ev eM)
  · replace h := ite_T c_1 h
    refine r_aload_n C.1 0 dX2_effectOnEstate_7 rfl rfl ?_
    refine gfk_X2_21 C h0 dX2_effectOnEstate_8 ?_
    refine r_goto C.1 31 dX2_effectOnEstate_11 (by decide) ?_
    exact r_sub [] rfl (w_X2_effectOnEstate_31 C M (M k0 3) _ h hr ev eM)
def f_X2_effectOnEstate (M : xM) (k0 : Nat) : Option (Int32) := b_X2_effectOnEstate_0 M k0
set_option maxRecDepth 20000 in
theorem m_X2_effectOnEstate (l : Launch) (D : va_G) (ad : Nat → Nat) (M : xM) (k0 : Nat) (h0 : KE k0) {o : Int32} (h : f_X2_effectOnEstate M k0 = some o) : xMetC l yX2_effectOnEstate cX2_effectOnEstate 1 (some .int) ({ frames := 0, cells := 0, slots := 0, locals := 0 } : Room) [.ref (ad k0)] D ad M (some (.int o)) M := by
  refine xMetC_of (own := RX2) (by decide) rfl (Nat.le_of_ble_eq_true rfl) ?_
  intro x C e1 e2 e3 ev eM hr
  subst e1; subst e2; subst e3
  refine r_sub (L := [(0, .ref (x_ad x k0))]) (L' := [(0, .ref (x_ad x k0))]) [0] rfl ?_
  exact w_X2_effectOnEstate_0 C M k0 h0 _ h hr ev eM

def b_X1_estateOn_64 (M : xM) (x1 : Int32) (x2 : Int32) (x3 : Int32) (x4 : Int32) : Option ((Int32 × Int32) ⊕ (Int32)) :=
  lt (x4 + (1 : Int32)) (fun y_1 => some (.inl (x3, y_1)))
set_option maxRecDepth 20000 in
set_option maxHeartbeats 2000000 in
theorem w_X1_estateOn_64 {x : xC} (C : CtC x RX1 cX1_estateOn 5 ({ frames := 1, cells := 0, slots := 0, locals := 23 } : Room)) (M : xM) (x1 : Int32) (x2 : Int32) (x3 : Int32) (x4 : Int32)  (o : (Int32 × Int32) ⊕ (Int32)) (h : b_X1_estateOn_64 M x1 x2 x3 x4 = some o) (kh : ∀ s : Int32 × Int32, o = .inl s → J x M 14 [(0, .ref (x_ad x 17)), (1, .int x1), (2, .int x2), (3, .int s.1), (4, .int s.2)] []) (ke_0 : ∀ v : Int32, o = .inr v → J x M 70 [(3, .int v)] []) : J x M 64 [(0, .ref (x_ad x 17)), (1, .int x1), (2, .int x2), (3, .int x3), (4, .int x4)] [] := by
  unfold b_X1_estateOn_64 at h
  obtain ⟨y_1, ey_1, h⟩ := lt_E h
  refine r_iinc C.1 4 [(4, .int y_1), (0, .ref (x_ad x 17)), (1, .int x1), (2, .int x2), (3, .int x3)] dX1_estateOn_64 rfl ey_1 (by decide) rfl ?_
  refine r_goto C.1 14 dX1_estateOn_67 (by decide) ?_
  exact r_sub [1, 2, 3, 4, 0] rfl (kh _ (Option.some.inj h).symm)

def bl_X1_estateOn_14 (M : xM) (x1 : Int32) (x2 : Int32) (x3 : Int32) (x4 : Int32) : Option ((Int32 × Int32) ⊕ (Int32)) :=
  if (M 17 5) ≤ x4 then some (.inr x3) else gd x4 40 (if (M (45 + x4.toNatClampNeg) 1) = x1 then gd x4 40 (if x2 < (M (45 + x4.toNatClampNeg) 2) then b_X1_estateOn_64 M x1 x2 x3 x4 else gd x4 40 (bd (f_X2_effectOnEstate M (45 + x4.toNatClampNeg)) (fun r_7 => lt (x3 + r_7) (fun y_9 => b_X1_estateOn_64 M x1 x2 y_9 x4)))) else b_X1_estateOn_64 M x1 x2 x3 x4)
set_option maxRecDepth 20000 in
set_option maxHeartbeats 2000000 in
theorem wl_X1_estateOn_14 {x : xC} (C : CtC x RX1 cX1_estateOn 5 ({ frames := 1, cells := 0, slots := 0, locals := 23 } : Room)) (M : xM) (x1 : Int32) (x2 : Int32) (x3 : Int32) (x4 : Int32)  (o : (Int32 × Int32) ⊕ (Int32)) (h : bl_X1_estateOn_14 M x1 x2 x3 x4 = some o) (kh : ∀ s : Int32 × Int32, o = .inl s → J x M 14 [(0, .ref (x_ad x 17)), (1, .int x1), (2, .int x2), (3, .int s.1), (4, .int s.2)] []) (ke_0 : ∀ v : Int32, o = .inr v → J x M 70 [(3, .int v)] []) : J x M 14 [(0, .ref (x_ad x 17)), (1, .int x1), (2, .int x2), (3, .int x3), (4, .int x4)] [] := by
  unfold bl_X1_estateOn_14 at h
  refine r_iload C.1 4 dX1_estateOn_14 rfl ?_
  refine r_aload_n C.1 0 dX1_estateOn_16 rfl rfl ?_
  refine gf_X1_35_17 C dX1_estateOn_17 ?_
  refine r_icmp_ge C.1 70 dX1_estateOn_20 (by decide) (fun c_1 => ?_) (fun c_1 => ?_)
  · replace h := ite_T c_1 h
    exact r_sub [3] rfl (ke_0 _ (Option.some.inj h).symm)
  · replace h := ite_F c_1 h
    refine r_aload_n C.1 0 dX1_estateOn_23 rfl rfl ?_
    refine gf_X1_40_17 C dX1_estateOn_24 ?_
    refine r_iload C.1 4 dX1_estateOn_27 rfl ?_
    obtain ⟨q_2, h⟩ := gd_E h
    refine r_aldq C.1 (cK C (by decide)) (cS C (sh_21)) 3 (cT3 C) q_2 (y := x_ad x (45 + x4.toNatClampNeg)) rfl dX1_estateOn_29 ?_
    refine gfk_X1_161 C (kE_17 (vp_lt q_2)) dX1_estateOn_30 ?_
    refine r_iload_n C.1 1 dX1_estateOn_33 rfl rfl ?_
    refine r_icmp_ne C.1 64 dX1_estateOn_34 (by decide) (fun c_3 => ?_) (fun c_3 => ?_)
    · replace h := ite_F c_3 h
      exact r_sub [0, 1, 2, 3, 4] rfl (w_X1_estateOn_64 C M x1 x2 x3 x4 _ h kh ke_0)
    · replace h := ite_T c_3 h
      refine r_aload_n C.1 0 dX1_estateOn_37 rfl rfl ?_
      refine gf_X1_40_17 C dX1_estateOn_38 ?_
      refine r_iload C.1 4 dX1_estateOn_41 rfl ?_
      obtain ⟨q_4, h⟩ := gd_E h
      refine r_aldq C.1 (cK C (by decide)) (cS C (sh_21)) 3 (cT3 C) q_4 (y := x_ad x (45 + x4.toNatClampNeg)) rfl dX1_estateOn_43 ?_
      refine gfk_X1_148 C (kE_17 (vp_lt q_4)) dX1_estateOn_44 ?_
      refine r_iload_n C.1 2 dX1_estateOn_47 rfl rfl ?_
      refine r_icmp_gt C.1 64 dX1_estateOn_48 (by decide) (fun c_5 => ?_) (fun c_5 => ?_)
      · replace h := ite_T c_5 h
        exact r_sub [0, 1, 2, 3, 4] rfl (w_X1_estateOn_64 C M x1 x2 x3 x4 _ h kh ke_0)
      · replace h := ite_F c_5 h
        refine r_iload_n C.1 3 dX1_estateOn_51 rfl rfl ?_
        refine r_aload_n C.1 0 dX1_estateOn_52 rfl rfl ?_
        refine gf_X1_40_17 C dX1_estateOn_53 ?_
        refine r_iload C.1 4 dX1_estateOn_56 rfl ?_
        obtain ⟨q_6, h⟩ := gd_E h
        refine r_aldq C.1 (cK C (by decide)) (cS C (sh_21)) 3 (cT3 C) q_6 (y := x_ad x (45 + x4.toNatClampNeg)) rfl dX1_estateOn_58 ?_
        obtain ⟨r_7, hc_8, h⟩ := bd_E h
        refine cl_X1_184 C (kE_17 (vp_lt q_6)) ⟨Nat.le_of_ble_eq_true rfl, Nat.le_of_ble_eq_true rfl⟩ (m_X2_effectOnEstate _ _ _ M (45 + x4.toNatClampNeg) (kE_17 (vp_lt q_6)) hc_8) (Nat.le_of_ble_eq_true rfl) dX1_estateOn_59 ?_
        refine r_iadd C.1 dX1_estateOn_62 ?_
        obtain ⟨y_9, ey_9, h⟩ := lt_E h
        refine r_istore_n C.1 [(3, .int y_9), (0, .ref (x_ad x 17)), (1, .int x1), (2, .int x2), (4, .int x4)] dX1_estateOn_63 rfl (by decide) ey_9 rfl ?_
        exact r_sub [1, 2, 3, 0, 4] rfl (w_X1_estateOn_64 C M x1 x2 y_9 x4 _ h kh ke_0)

def b_X1_estateOn_14 (M : xM) (x1 : Int32) (x2 : Int32) (x3 : Int32) (x4 : Int32) : Option (Int32) :=
  bd (loopN (fun s : Int32 × Int32 => bl_X1_estateOn_14 M x1 x2 s.1 s.2) BG (x3, x4)) (fun v => some v)
set_option maxRecDepth 20000 in
set_option maxHeartbeats 2000000 in
theorem w_X1_estateOn_14 {x : xC} (C : CtC x RX1 cX1_estateOn 5 ({ frames := 1, cells := 0, slots := 0, locals := 23 } : Room)) (M : xM) (x1 : Int32) (x2 : Int32) (x3 : Int32) (x4 : Int32)  (o : Int32) (h : b_X1_estateOn_14 M x1 x2 x3 x4 = some o) (hr : (x_me x).sig.returnType = some .int) (ev : x_rv x = some (.int o)) (eM : x_M x = M) : J x M 14 [(0, .ref (x_ad x 17)), (1, .int x1), (2, .int x2), (3, .int x3), (4, .int x4)] [] := by
  unfold b_X1_estateOn_14 at h
  obtain ⟨r_0, hr_0, h⟩ := bd_E h
  refine loopN_ind (JJ := fun s => J x M 14 [(0, .ref (x_ad x 17)), (1, .int x1), (2, .int x2), (3, .int s.1), (4, .int s.2)] []) (KX := fun q => q = r_0) ?_ BG (x3, x4) r_0 hr_0 rfl
  intro s o1 hb kk1 kk2
  refine wl_X1_estateOn_14 C M x1 x2 s.1 s.2 _ hb kk1 ?_
  · intro v e0
    have e1 := kk2 _ e0
    subst e1
    refine r_iload_n C.1 0 dX1_estateOn_70 rfl rfl ?_
    obtain rfl := Option.some.inj h
    exact r_iret C.1 hr ev eM dX1_estateOn_71

def b_X1_estateOn_0 (M : xM) (x1 : Int32) (x2 : Int32) : Option (Int32) :=
  gd x1 4 (bd (f_X8_broughtAheadOf M (25 + 5 * x1.toNatClampNeg) x2) (fun r_2 => b_X1_estateOn_14 M x1 x2 r_2 (0 : Int32)))
set_option maxRecDepth 20000 in
set_option maxHeartbeats 2000000 in
theorem w_X1_estateOn_0 {x : xC} (C : CtC x RX1 cX1_estateOn 5 ({ frames := 1, cells := 0, slots := 0, locals := 23 } : Room)) (M : xM) (x1 : Int32) (x2 : Int32)  (o : Int32) (h : b_X1_estateOn_0 M x1 x2 = some o) (hr : (x_me x).sig.returnType = some .int) (ev : x_rv x = some (.int o)) (eM : x_M x = M) : J x M 0 [(0, .ref (x_ad x 17)), (1, .int x1), (2, .int x2)] [] := by
  unfold b_X1_estateOn_0 at h
  refine r_aload_n C.1 0 dX1_estateOn_0 rfl rfl ?_
  refine gf_X1_31_17 C dX1_estateOn_1 ?_
  refine r_iload_n C.1 1 dX1_estateOn_4 rfl rfl ?_
  obtain ⟨q_1, h⟩ := gd_E h
  refine r_aldq C.1 (cK C (by decide)) (cS C (sh_20)) 2 (cT2 C) q_1 (y := x_ad x (25 + 5 * x1.toNatClampNeg)) rfl dX1_estateOn_5 ?_
  refine r_iload_n C.1 2 dX1_estateOn_6 rfl rfl ?_
  obtain ⟨r_2, hc_3, h⟩ := bd_E h
  refine cl_X1_181 C (kW_17 (vp_lt q_1)) ⟨Nat.le_of_ble_eq_true rfl, Nat.le_of_ble_eq_true rfl⟩ (m_X8_broughtAheadOf _ _ _ M (25 + 5 * x1.toNatClampNeg) x2 (kW_17 (vp_lt q_1)) hc_3) (Nat.le_of_ble_eq_true rfl) dX1_estateOn_7 ?_
  refine r_istore_n C.1 [(3, .int r_2), (0, .ref (x_ad x 17)), (1, .int x1), (2, .int x2)] dX1_estateOn_10 rfl (by decide) rfl rfl ?_
  refine r_iconst (v := 0) C.1 dX1_estateOn_11 rfl ?_
  refine r_istore C.1 [(4, .int (0 : Int32)), (3, .int r_2), (0, .ref (x_ad x 17)), (1, .int x1), (2, .int x2)] dX1_estateOn_12 (by decide) rfl rfl ?_
  exact r_sub [2, 3, 4, 1, 0] rfl (w_X1_estateOn_14 C M x1 x2 r_2 (0 : Int32) _ h hr ev eM)
def f_X1_estateOn (M : xM) (x1 : Int32) (x2 : Int32) : Option (Int32) := b_X1_estateOn_0 M x1 x2
set_option maxRecDepth 20000 in
theorem m_X1_estateOn (l : Launch) (D : va_G) (ad : Nat → Nat) (M : xM) (x1 : Int32) (x2 : Int32)  {o : Int32} (h : f_X1_estateOn M x1 x2 = some o) : xMetC l yX1_estateOn cX1_estateOn 5 (some .int) ({ frames := 1, cells := 0, slots := 0, locals := 23 } : Room) [.ref (ad 17), .int x1, .int x2] D ad M (some (.int o)) M := by
  refine xMetC_of (own := RX1) (by decide) rfl (Nat.le_of_ble_eq_true rfl) ?_
  intro x C e1 e2 e3 ev eM hr
  subst e1; subst e2; subst e3
  refine r_sub (L := [(0, .ref (x_ad x 17)), (1, .int x1), (2, .int x2)]) (L' := [(0, .ref (x_ad x 17)), (1, .int x1), (2, .int x2)]) [0, 1, 2] rfl ?_
  exact w_X1_estateOn_0 C M x1 x2 _ h hr ev eM

def b_X1_outOn_0 (M : xM) (x1 : Int32) (x2 : Int32) : Option (Int32) :=
  bd (f_X1_partOf M x1 (0 : Int32) x2 (4 : Int32)) (fun r_1 => some r_1)
set_option maxRecDepth 20000 in
set_option maxHeartbeats 2000000 in
theorem w_X1_outOn_0 {x : xC} (C : CtC x RX1 cX1_outOn 3 ({ frames := 2, cells := 0, slots := 0, locals := 48 } : Room)) (M : xM) (x1 : Int32) (x2 : Int32)  (o : Int32) (h : b_X1_outOn_0 M x1 x2 = some o) (hr : (x_me x).sig.returnType = some .int) (ev : x_rv x = some (.int o)) (eM : x_M x = M) : J x M 0 [(0, .ref (x_ad x 17)), (1, .int x1), (2, .int x2)] [] := by
  unfold b_X1_outOn_0 at h
  refine r_aload_n C.1 0 dX1_outOn_0 rfl rfl ?_
  refine r_iload_n C.1 1 dX1_outOn_1 rfl rfl ?_
  refine r_iconst (v := 0) C.1 dX1_outOn_2 rfl ?_
  refine r_iload_n C.1 2 dX1_outOn_3 rfl rfl ?_
  refine r_iconst (v := 4) C.1 dX1_outOn_4 rfl ?_
  obtain ⟨r_1, hc_2, h⟩ := bd_E h
  refine cl_X1_177 C ⟨Nat.le_of_ble_eq_true rfl, Nat.le_of_ble_eq_true rfl⟩ (m_X1_partOf _ _ _ M x1 (0 : Int32) x2 (4 : Int32) hc_2) (Nat.le_of_ble_eq_true rfl) dX1_outOn_5 ?_
  obtain rfl := Option.some.inj h
  exact r_iret C.1 hr ev eM dX1_outOn_8
def f_X1_outOn (M : xM) (x1 : Int32) (x2 : Int32) : Option (Int32) := b_X1_outOn_0 M x1 x2
set_option maxRecDepth 20000 in
theorem m_X1_outOn (l : Launch) (D : va_G) (ad : Nat → Nat) (M : xM) (x1 : Int32) (x2 : Int32)  {o : Int32} (h : f_X1_outOn M x1 x2 = some o) : xMetC l yX1_outOn cX1_outOn 3 (some .int) ({ frames := 2, cells := 0, slots := 0, locals := 48 } : Room) [.ref (ad 17), .int x1, .int x2] D ad M (some (.int o)) M := by
  refine xMetC_of (own := RX1) (by decide) rfl (Nat.le_of_ble_eq_true rfl) ?_
  intro x C e1 e2 e3 ev eM hr
  subst e1; subst e2; subst e3
  refine r_sub (L := [(0, .ref (x_ad x 17)), (1, .int x1), (2, .int x2)]) (L' := [(0, .ref (x_ad x 17)), (1, .int x1), (2, .int x2)]) [0, 1, 2] rfl ?_
  exact w_X1_outOn_0 C M x1 x2 _ h hr ev eM

def b_X1_moneyOn_0 (M : xM) (x1 : Int32) (x2 : Int32) : Option (Int32) :=
  bd (f_X1_estateOn M x1 x2) (fun r_1 => bd (f_X1_outOn M x1 x2) (fun r_3 => some (r_1 - r_3)))
set_option maxRecDepth 20000 in
set_option maxHeartbeats 2000000 in
theorem w_X1_moneyOn_0 {x : xC} (C : CtC x RX1 cX1_moneyOn 3 ({ frames := 3, cells := 0, slots := 0, locals := 70 } : Room)) (M : xM) (x1 : Int32) (x2 : Int32)  (o : Int32) (h : b_X1_moneyOn_0 M x1 x2 = some o) (hr : (x_me x).sig.returnType = some .int) (ev : x_rv x = some (.int o)) (eM : x_M x = M) : J x M 0 [(0, .ref (x_ad x 17)), (1, .int x1), (2, .int x2)] [] := by
  unfold b_X1_moneyOn_0 at h
  refine r_aload_n C.1 0 dX1_moneyOn_0 rfl rfl ?_
  refine r_iload_n C.1 1 dX1_moneyOn_1 rfl rfl ?_
  refine r_iload_n C.1 2 dX1_moneyOn_2 rfl rfl ?_
  obtain ⟨r_1, hc_2, h⟩ := bd_E h
  refine cl_X1_171 C ⟨Nat.le_of_ble_eq_true rfl, Nat.le_of_ble_eq_true rfl⟩ (m_X1_estateOn _ _ _ M x1 x2 hc_2) (Nat.le_of_ble_eq_true rfl) dX1_moneyOn_3 ?_
  refine r_aload_n C.1 0 dX1_moneyOn_6 rfl rfl ?_
  refine r_iload_n C.1 1 dX1_moneyOn_7 rfl rfl ?_
  refine r_iload_n C.1 2 dX1_moneyOn_8 rfl rfl ?_
  obtain ⟨r_3, hc_4, h⟩ := bd_E h
  refine cl_X1_174 C ⟨Nat.le_of_ble_eq_true rfl, Nat.le_of_ble_eq_true rfl⟩ (m_X1_outOn _ _ _ M x1 x2 hc_4) (Nat.le_of_ble_eq_true rfl) dX1_moneyOn_9 ?_
  refine r_isub C.1 dX1_moneyOn_12 ?_
  obtain rfl := Option.some.inj h
  exact r_iret C.1 hr ev eM dX1_moneyOn_13
def f_X1_moneyOn (M : xM) (x1 : Int32) (x2 : Int32) : Option (Int32) := b_X1_moneyOn_0 M x1 x2
set_option maxRecDepth 20000 in
theorem m_X1_moneyOn (l : Launch) (D : va_G) (ad : Nat → Nat) (M : xM) (x1 : Int32) (x2 : Int32)  {o : Int32} (h : f_X1_moneyOn M x1 x2 = some o) : xMetC l yX1_moneyOn cX1_moneyOn 3 (some .int) ({ frames := 3, cells := 0, slots := 0, locals := 70 } : Room) [.ref (ad 17), .int x1, .int x2] D ad M (some (.int o)) M := by
  refine xMetC_of (own := RX1) (by decide) rfl (Nat.le_of_ble_eq_true rfl) ?_
  intro x C e1 e2 e3 ev eM hr
  subst e1; subst e2; subst e3
  refine r_sub (L := [(0, .ref (x_ad x 17)), (1, .int x1), (2, .int x2)]) (L' := [(0, .ref (x_ad x 17)), (1, .int x1), (2, .int x2)]) [0, 1, 2] rfl ?_
  exact w_X1_moneyOn_0 C M x1 x2 _ h hr ev eM

def b_X1_meanOf_0 (M : xM) (x1 : Int32) : Option (Int32) :=
  gd x1 4 (lt (M (25 + 5 * x1.toNatClampNeg) 5) (fun y_2 => if 0 < y_2 then bd (f_X10_firstDay M y_2) (fun r_4 => lt (r_4 - (1 : Int32)) (fun y_6 => bd (f_X1_partOf M x1 (0 : Int32) y_6 (1 : Int32)) (fun r_7 => bd (f_X1_partOf M x1 (0 : Int32) y_6 (2 : Int32)) (fun r_9 => g0 y_2 (some ((r_7 - r_9) / y_2)))))) else some (-1000000000 : Int32)))
set_option maxRecDepth 20000 in
set_option maxHeartbeats 2000000 in
theorem w_X1_meanOf_0 {x : xC} (C : CtC x RX1 cX1_meanOf 4 ({ frames := 2, cells := 0, slots := 0, locals := 48 } : Room)) (M : xM) (x1 : Int32)  (o : Int32) (h : b_X1_meanOf_0 M x1 = some o) (hr : (x_me x).sig.returnType = some .int) (ev : x_rv x = some (.int o)) (eM : x_M x = M) : J x M 0 [(0, .ref (x_ad x 17)), (1, .int x1)] [] := by
  unfold b_X1_meanOf_0 at h
  refine r_aload_n C.1 0 dX1_meanOf_0 rfl rfl ?_
  refine gf_X1_31_17 C dX1_meanOf_1 ?_
  refine r_iload_n C.1 1 dX1_meanOf_4 rfl rfl ?_
  obtain ⟨q_1, h⟩ := gd_E h
  refine r_aldq C.1 (cK C (by decide)) (cS C (sh_20)) 2 (cT2 C) q_1 (y := x_ad x (25 + 5 * x1.toNatClampNeg)) rfl dX1_meanOf_5 ?_
  refine gfk_X1_188 C (kW_17 (vp_lt q_1)) dX1_meanOf_6 ?_
  obtain ⟨y_2, ey_2, h⟩ := lt_E h
  refine r_istore_n C.1 [(2, .int y_2), (0, .ref (x_ad x 17)), (1, .int x1)] dX1_meanOf_9 rfl (by decide) ey_2 rfl ?_
  refine r_iload_n C.1 0 dX1_meanOf_10 rfl rfl ?_
  refine r_if_gt C.1 17 dX1_meanOf_11 (by decide) (fun c_3 => ?_) (fun c_3 => ?_)
  · replace h := ite_T c_3 h
    refine r_iload_n C.1 0 dX1_meanOf_17 rfl rfl ?_
    obtain ⟨r_4, hc_5, h⟩ := bd_E h
    refine cl_X1_192 C ⟨Nat.le_of_ble_eq_true rfl, Nat.le_of_ble_eq_true rfl⟩ (m_X10_firstDay _ _ _ M y_2 hc_5) (Nat.le_of_ble_eq_true rfl) dX1_meanOf_18 ?_
    refine r_iconst (v := 1) C.1 dX1_meanOf_21 rfl ?_
    refine r_isub C.1 dX1_meanOf_22 ?_
    obtain ⟨y_6, ey_6, h⟩ := lt_E h
    refine r_istore_n C.1 [(3, .int y_6), (2, .int y_2), (0, .ref (x_ad x 17)), (1, .int x1)] dX1_meanOf_23 rfl (by decide) ey_6 rfl ?_
    refine r_aload_n C.1 2 dX1_meanOf_24 rfl rfl ?_
    refine r_iload_n C.1 3 dX1_meanOf_25 rfl rfl ?_
    refine r_iconst (v := 0) C.1 dX1_meanOf_26 rfl ?_
    refine r_iload_n C.1 0 dX1_meanOf_27 rfl rfl ?_
    refine r_iconst (v := 1) C.1 dX1_meanOf_28 rfl ?_
    obtain ⟨r_7, hc_8, h⟩ := bd_E h
    refine cl_X1_177 C ⟨Nat.le_of_ble_eq_true rfl, Nat.le_of_ble_eq_true rfl⟩ (m_X1_partOf _ _ _ M x1 (0 : Int32) y_6 (1 : Int32) hc_8) (Nat.le_of_ble_eq_true rfl) dX1_meanOf_29 ?_
    refine r_aload_n C.1 2 dX1_meanOf_32 rfl rfl ?_
    refine r_iload_n C.1 3 dX1_meanOf_33 rfl rfl ?_
    refine r_iconst (v := 0) C.1 dX1_meanOf_34 rfl ?_
    refine r_iload_n C.1 0 dX1_meanOf_35 rfl rfl ?_
    refine r_iconst (v := 2) C.1 dX1_meanOf_36 rfl ?_
    obtain ⟨r_9, hc_10, h⟩ := bd_E h
    refine cl_X1_177 C ⟨Nat.le_of_ble_eq_true rfl, Nat.le_of_ble_eq_true rfl⟩ (m_X1_partOf _ _ _ M x1 (0 : Int32) y_6 (2 : Int32) hc_10) (Nat.le_of_ble_eq_true rfl) dX1_meanOf_37 ?_
    refine r_isub C.1 dX1_meanOf_40 ?_
    refine r_iload_n C.1 1 dX1_meanOf_41 rfl rfl ?_
    obtain ⟨z_11, h⟩ := g0_E h
    refine r_idiv C.1 z_11 dX1_meanOf_42 ?_
    obtain rfl := Option.some.inj h
    exact r_iret C.1 hr ev eM dX1_meanOf_43
  · replace h := ite_F c_3 h
    refine r_ldc (v := -1000000000) C.1 kw_807 dX1_meanOf_14 ?_
    obtain rfl := Option.some.inj h
    exact r_iret C.1 hr ev eM dX1_meanOf_16
def f_X1_meanOf (M : xM) (x1 : Int32) : Option (Int32) := b_X1_meanOf_0 M x1
set_option maxRecDepth 20000 in
theorem m_X1_meanOf (l : Launch) (D : va_G) (ad : Nat → Nat) (M : xM) (x1 : Int32)  {o : Int32} (h : f_X1_meanOf M x1 = some o) : xMetC l yX1_meanOf cX1_meanOf 4 (some .int) ({ frames := 2, cells := 0, slots := 0, locals := 48 } : Room) [.ref (ad 17), .int x1] D ad M (some (.int o)) M := by
  refine xMetC_of (own := RX1) (by decide) rfl (Nat.le_of_ble_eq_true rfl) ?_
  intro x C e1 e2 e3 ev eM hr
  subst e1; subst e2; subst e3
  refine r_sub (L := [(0, .ref (x_ad x 17)), (1, .int x1)]) (L' := [(0, .ref (x_ad x 17)), (1, .int x1)]) [0, 1] rfl ?_
  exact w_X1_meanOf_0 C M x1 _ h hr ev eM

def b_X8_guardianOn_38 (M : xM) (x2 : Int32) : Option (Int32) :=
  some x2
set_option maxRecDepth 20000 in
set_option maxHeartbeats 2000000 in
theorem w_X8_guardianOn_38 {x : xC} (C : CtC x RX8 cX8_guardianOn 4 ({ frames := 0, cells := 0, slots := 0, locals := 0 } : Room)) (M : xM) (x2 : Int32)  (o : Int32) (h : b_X8_guardianOn_38 M x2 = some o) (hr : (x_me x).sig.returnType = some .int) (ev : x_rv x = some (.int o)) (eM : x_M x = M) : J x M 38 [(2, .int x2)] [] := by
  unfold b_X8_guardianOn_38 at h
  refine r_iload_n C.1 0 dX8_guardianOn_38 rfl rfl ?_
  obtain rfl := Option.some.inj h
  exact r_iret C.1 hr ev eM dX8_guardianOn_39

def bl_X8_guardianOn_7 (M : xM) (k0 : Nat) (x1 : Int32) (x2 : Int32) (x3 : Int32) : Option ((Int32 × Int32) ⊕ (Int32)) :=
  if (M k0 2) ≤ x3 then some (.inr x2) else gd x3 6 (if x1 < (M (k0 + 1) x3.toNatClampNeg) then some (.inr x2) else gd x3 6 (lt (M (k0 + 2) x3.toNatClampNeg) (fun y_5 => lt (x3 + (1 : Int32)) (fun y_6 => some (.inl (y_5, y_6))))))
set_option maxRecDepth 20000 in
set_option maxHeartbeats 2000000 in
theorem wl_X8_guardianOn_7 {x : xC} (C : CtC x RX8 cX8_guardianOn 4 ({ frames := 0, cells := 0, slots := 0, locals := 0 } : Room)) (M : xM) (k0 : Nat) (x1 : Int32) (x2 : Int32) (x3 : Int32) (h0 : KW k0) (o : (Int32 × Int32) ⊕ (Int32)) (h : bl_X8_guardianOn_7 M k0 x1 x2 x3 = some o) (kh : ∀ s : Int32 × Int32, o = .inl s → J x M 7 [(0, .ref (x_ad x k0)), (1, .int x1), (2, .int s.1), (3, .int s.2)] []) (ke_0 : ∀ v : Int32, o = .inr v → J x M 38 [(2, .int v)] []) : J x M 7 [(0, .ref (x_ad x k0)), (1, .int x1), (2, .int x2), (3, .int x3)] [] := by
  unfold bl_X8_guardianOn_7 at h
  refine r_iload_n C.1 3 dX8_guardianOn_7 rfl rfl ?_
  refine r_aload_n C.1 0 dX8_guardianOn_8 rfl rfl ?_
  refine gfk_X8_18 C h0 dX8_guardianOn_9 ?_
  refine r_icmp_ge C.1 38 dX8_guardianOn_12 (by decide) (fun c_1 => ?_) (fun c_1 => ?_)
  · replace h := ite_T c_1 h
    exact r_sub [2] rfl (ke_0 _ (Option.some.inj h).symm)
  · replace h := ite_F c_1 h
    refine r_aload_n C.1 0 dX8_guardianOn_15 rfl rfl ?_
    refine gfk_X8_21 C h0 dX8_guardianOn_16 ?_
    refine r_iload_n C.1 3 dX8_guardianOn_19 rfl rfl ?_
    obtain ⟨q_2, h⟩ := gd_E h
    refine r_iald C.1 (cK C (kW1 h0)) (cS C (sh_W1 h0)) 0 (cT0 C) q_2 dX8_guardianOn_20 ?_
    refine r_iload_n C.1 1 dX8_guardianOn_21 rfl rfl ?_
    refine r_icmp_gt C.1 38 dX8_guardianOn_22 (by decide) (fun c_3 => ?_) (fun c_3 => ?_)
    · replace h := ite_T c_3 h
      exact r_sub [2] rfl (ke_0 _ (Option.some.inj h).symm)
    · replace h := ite_F c_3 h
      refine r_aload_n C.1 0 dX8_guardianOn_25 rfl rfl ?_
      refine gfk_X8_25 C h0 dX8_guardianOn_26 ?_
      refine r_iload_n C.1 3 dX8_guardianOn_29 rfl rfl ?_
      obtain ⟨q_4, h⟩ := gd_E h
      refine r_iald C.1 (cK C (kW2 h0)) (cS C (sh_W2 h0)) 0 (cT0 C) q_4 dX8_guardianOn_30 ?_
      obtain ⟨y_5, ey_5, h⟩ := lt_E h
      refine r_istore_n C.1 [(2, .int y_5), (0, .ref (x_ad x k0)), (1, .int x1), (3, .int x3)] dX8_guardianOn_31 rfl (by decide) ey_5 rfl ?_
      obtain ⟨y_6, ey_6, h⟩ := lt_E h
      refine r_iinc C.1 3 [(3, .int y_6), (2, .int y_5), (0, .ref (x_ad x k0)), (1, .int x1)] dX8_guardianOn_32 rfl ey_6 (by decide) rfl ?_
      refine r_goto C.1 7 dX8_guardianOn_35 (by decide) ?_
      exact r_sub [2, 3, 1, 0] rfl (kh _ (Option.some.inj h).symm)

def b_X8_guardianOn_7 (M : xM) (k0 : Nat) (x1 : Int32) (x2 : Int32) (x3 : Int32) : Option (Int32) :=
  bd (loopN (fun s : Int32 × Int32 => bl_X8_guardianOn_7 M k0 x1 s.1 s.2) BG (x2, x3)) (fun v => b_X8_guardianOn_38 M v)
set_option maxRecDepth 20000 in
set_option maxHeartbeats 2000000 in
theorem w_X8_guardianOn_7 {x : xC} (C : CtC x RX8 cX8_guardianOn 4 ({ frames := 0, cells := 0, slots := 0, locals := 0 } : Room)) (M : xM) (k0 : Nat) (x1 : Int32) (x2 : Int32) (x3 : Int32) (h0 : KW k0) (o : Int32) (h : b_X8_guardianOn_7 M k0 x1 x2 x3 = some o) (hr : (x_me x).sig.returnType = some .int) (ev : x_rv x = some (.int o)) (eM : x_M x = M) : J x M 7 [(0, .ref (x_ad x k0)), (1, .int x1), (2, .int x2), (3, .int x3)] [] := by
  unfold b_X8_guardianOn_7 at h
  obtain ⟨r_0, hr_0, h⟩ := bd_E h
  refine loopN_ind (JJ := fun s => J x M 7 [(0, .ref (x_ad x k0)), (1, .int x1), (2, .int s.1), (3, .int s.2)] []) (KX := fun q => q = r_0) ?_ BG (x2, x3) r_0 hr_0 rfl
  intro s o1 hb kk1 kk2
  refine wl_X8_guardianOn_7 C M k0 x1 s.1 s.2 h0 _ hb kk1 ?_
  · intro v e0
    have e1 := kk2 _ e0
    subst e1
    exact r_sub [0] rfl (w_X8_guardianOn_38 C M v _ h hr ev eM)

def b_X8_guardianOn_0 (M : xM) (k0 : Nat) (x1 : Int32) : Option (Int32) :=
  lt (M k0 1) (fun y_1 => b_X8_guardianOn_7 M k0 x1 y_1 (0 : Int32))
set_option maxRecDepth 20000 in
set_option maxHeartbeats 2000000 in
theorem w_X8_guardianOn_0 {x : xC} (C : CtC x RX8 cX8_guardianOn 4 ({ frames := 0, cells := 0, slots := 0, locals := 0 } : Room)) (M : xM) (k0 : Nat) (x1 : Int32) (h0 : KW k0) (o : Int32) (h : b_X8_guardianOn_0 M k0 x1 = some o) (hr : (x_me x).sig.returnType = some .int) (ev : x_rv x = some (.int o)) (eM : x_M x = M) : J x M 0 [(0, .ref (x_ad x k0)), (1, .int x1)] [] := by
  unfold b_X8_guardianOn_0 at h
  refine r_aload_n C.1 0 dX8_guardianOn_0 rfl rfl ?_
  refine gfk_X8_15 C h0 dX8_guardianOn_1 ?_
  obtain ⟨y_1, ey_1, h⟩ := lt_E h
  refine r_istore_n C.1 [(2, .int y_1), (0, .ref (x_ad x k0)), (1, .int x1)] dX8_guardianOn_4 rfl (by decide) ey_1 rfl ?_
  refine r_iconst (v := 0) C.1 dX8_guardianOn_5 rfl ?_
  refine r_istore_n C.1 [(3, .int (0 : Int32)), (2, .int y_1), (0, .ref (x_ad x k0)), (1, .int x1)] dX8_guardianOn_6 rfl (by decide) rfl rfl ?_
  exact r_sub [2, 3, 1, 0] rfl (w_X8_guardianOn_7 C M k0 x1 y_1 (0 : Int32) h0 _ h hr ev eM)
def f_X8_guardianOn (M : xM) (k0 : Nat) (x1 : Int32) : Option (Int32) := b_X8_guardianOn_0 M k0 x1
set_option maxRecDepth 20000 in
theorem m_X8_guardianOn (l : Launch) (D : va_G) (ad : Nat → Nat) (M : xM) (k0 : Nat) (x1 : Int32) (h0 : KW k0) {o : Int32} (h : f_X8_guardianOn M k0 x1 = some o) : xMetC l yX8_guardianOn cX8_guardianOn 4 (some .int) ({ frames := 0, cells := 0, slots := 0, locals := 0 } : Room) [.ref (ad k0), .int x1] D ad M (some (.int o)) M := by
  refine xMetC_of (own := RX8) (by decide) rfl (Nat.le_of_ble_eq_true rfl) ?_
  intro x C e1 e2 e3 ev eM hr
  subst e1; subst e2; subst e3
  refine r_sub (L := [(0, .ref (x_ad x k0)), (1, .int x1)]) (L' := [(0, .ref (x_ad x k0)), (1, .int x1)]) [0, 1] rfl ?_
  exact w_X8_guardianOn_0 C M k0 x1 h0 _ h hr ev eM

def b_X1_disallowedUnder_55 (M : xM) (x1 : Int32) (x2 : Int32) (x3 : Int32) : Option ((Int32 × Int32) ⊕ (Int32)) :=
  lt (x3 + (1 : Int32)) (fun y_1 => some (.inl (x2, y_1)))
set_option maxRecDepth 20000 in
set_option maxHeartbeats 2000000 in
theorem w_X1_disallowedUnder_55 {x : xC} (C : CtC x RX1 cX1_disallowedUnder 4 ({ frames := 1, cells := 0, slots := 0, locals := 23 } : Room)) (M : xM) (x1 : Int32) (x2 : Int32) (x3 : Int32)  (o : (Int32 × Int32) ⊕ (Int32)) (h : b_X1_disallowedUnder_55 M x1 x2 x3 = some o) (kh : ∀ s : Int32 × Int32, o = .inl s → J x M 4 [(0, .ref (x_ad x 17)), (1, .int x1), (2, .int s.1), (3, .int s.2)] []) (ke_0 : ∀ v : Int32, o = .inr v → J x M 61 [(2, .int v)] []) : J x M 55 [(0, .ref (x_ad x 17)), (1, .int x1), (2, .int x2), (3, .int x3)] [] := by
  unfold b_X1_disallowedUnder_55 at h
  obtain ⟨y_1, ey_1, h⟩ := lt_E h
  refine r_iinc C.1 3 [(3, .int y_1), (0, .ref (x_ad x 17)), (1, .int x1), (2, .int x2)] dX1_disallowedUnder_55 rfl ey_1 (by decide) rfl ?_
  refine r_goto C.1 4 dX1_disallowedUnder_58 (by decide) ?_
  exact r_sub [1, 2, 3, 0] rfl (kh _ (Option.some.inj h).symm)

def bl_X1_disallowedUnder_4 (M : xM) (x1 : Int32) (x2 : Int32) (x3 : Int32) : Option ((Int32 × Int32) ⊕ (Int32)) :=
  if (M 17 5) ≤ x3 then some (.inr x2) else gd x3 40 (gd (M (45 + x3.toNatClampNeg) 1) 4 (gd x3 40 (bd (f_X8_guardianOn M (25 + 5 * (M (45 + x3.toNatClampNeg) 1).toNatClampNeg) (M (45 + x3.toNatClampNeg) 2)) (fun r_5 => if r_5 = x1 then gd x3 40 (bd (f_X2_part M (45 + x3.toNatClampNeg) (3 : Int32)) (fun r_9 => lt (x2 + r_9) (fun y_11 => b_X1_disallowedUnder_55 M x1 y_11 x3))) else b_X1_disallowedUnder_55 M x1 x2 x3))))
set_option maxRecDepth 20000 in
set_option maxHeartbeats 2000000 in
theorem wl_X1_disallowedUnder_4 {x : xC} (C : CtC x RX1 cX1_disallowedUnder 4 ({ frames := 1, cells := 0, slots := 0, locals := 23 } : Room)) (M : xM) (x1 : Int32) (x2 : Int32) (x3 : Int32)  (o : (Int32 × Int32) ⊕ (Int32)) (h : bl_X1_disallowedUnder_4 M x1 x2 x3 = some o) (kh : ∀ s : Int32 × Int32, o = .inl s → J x M 4 [(0, .ref (x_ad x 17)), (1, .int x1), (2, .int s.1), (3, .int s.2)] []) (ke_0 : ∀ v : Int32, o = .inr v → J x M 61 [(2, .int v)] []) : J x M 4 [(0, .ref (x_ad x 17)), (1, .int x1), (2, .int x2), (3, .int x3)] [] := by
  unfold bl_X1_disallowedUnder_4 at h
  refine r_iload_n C.1 3 dX1_disallowedUnder_4 rfl rfl ?_
  refine r_aload_n C.1 0 dX1_disallowedUnder_5 rfl rfl ?_
  refine gf_X1_35_17 C dX1_disallowedUnder_6 ?_
  refine r_icmp_ge C.1 61 dX1_disallowedUnder_9 (by decide) (fun c_1 => ?_) (fun c_1 => ?_)
  · replace h := ite_T c_1 h
    exact r_sub [2] rfl (ke_0 _ (Option.some.inj h).symm)
  · replace h := ite_F c_1 h
    refine r_aload_n C.1 0 dX1_disallowedUnder_12 rfl rfl ?_
    refine gf_X1_31_17 C dX1_disallowedUnder_13 ?_
    refine r_aload_n C.1 0 dX1_disallowedUnder_16 rfl rfl ?_
    refine gf_X1_40_17 C dX1_disallowedUnder_17 ?_
    refine r_iload_n C.1 3 dX1_disallowedUnder_20 rfl rfl ?_
    obtain ⟨q_2, h⟩ := gd_E h
    refine r_aldq C.1 (cK C (by decide)) (cS C (sh_21)) 3 (cT3 C) q_2 (y := x_ad x (45 + x3.toNatClampNeg)) rfl dX1_disallowedUnder_21 ?_
    refine gfk_X1_161 C (kE_17 (vp_lt q_2)) dX1_disallowedUnder_22 ?_
    obtain ⟨q_3, h⟩ := gd_E h
    refine r_aldq C.1 (cK C (by decide)) (cS C (sh_20)) 2 (cT2 C) q_3 (y := x_ad x (25 + 5 * (M (45 + x3.toNatClampNeg) 1).toNatClampNeg)) rfl dX1_disallowedUnder_25 ?_
    refine r_aload_n C.1 0 dX1_disallowedUnder_26 rfl rfl ?_
    refine gf_X1_40_17 C dX1_disallowedUnder_27 ?_
    refine r_iload_n C.1 3 dX1_disallowedUnder_30 rfl rfl ?_
    obtain ⟨q_4, h⟩ := gd_E h
    refine r_aldq C.1 (cK C (by decide)) (cS C (sh_21)) 3 (cT3 C) q_4 (y := x_ad x (45 + x3.toNatClampNeg)) rfl dX1_disallowedUnder_31 ?_
    refine gfk_X1_148 C (kE_17 (vp_lt q_4)) dX1_disallowedUnder_32 ?_
    obtain ⟨r_5, hc_6, h⟩ := bd_E h
    refine cl_X1_195 C (kW_17 (vp_lt q_3)) ⟨Nat.le_of_ble_eq_true rfl, Nat.le_of_ble_eq_true rfl⟩ (m_X8_guardianOn _ _ _ M (25 + 5 * (M (45 + x3.toNatClampNeg) 1).toNatClampNeg) (M (45 + x3.toNatClampNeg) 2) (kW_17 (vp_lt q_3)) hc_6) (Nat.le_of_ble_eq_true rfl) dX1_disallowedUnder_35 ?_
    refine r_iload_n C.1 1 dX1_disallowedUnder_38 rfl rfl ?_
    refine r_icmp_ne C.1 55 dX1_disallowedUnder_39 (by decide) (fun c_7 => ?_) (fun c_7 => ?_)
    · replace h := ite_F c_7 h
      exact r_sub [0, 1, 2, 3] rfl (w_X1_disallowedUnder_55 C M x1 x2 x3 _ h kh ke_0)
    · replace h := ite_T c_7 h
      refine r_iload_n C.1 2 dX1_disallowedUnder_42 rfl rfl ?_
      refine r_aload_n C.1 0 dX1_disallowedUnder_43 rfl rfl ?_
      refine gf_X1_40_17 C dX1_disallowedUnder_44 ?_
      refine r_iload_n C.1 3 dX1_disallowedUnder_47 rfl rfl ?_
      obtain ⟨q_8, h⟩ := gd_E h
      refine r_aldq C.1 (cK C (by decide)) (cS C (sh_21)) 3 (cT3 C) q_8 (y := x_ad x (45 + x3.toNatClampNeg)) rfl dX1_disallowedUnder_48 ?_
      refine r_iconst (v := 3) C.1 dX1_disallowedUnder_49 rfl ?_
      obtain ⟨r_9, hc_10, h⟩ := bd_E h
      refine cl_X1_168 C (kE_17 (vp_lt q_8)) ⟨Nat.le_of_ble_eq_true rfl, Nat.le_of_ble_eq_true rfl⟩ (m_X2_part _ _ _ M (45 + x3.toNatClampNeg) (3 : Int32) (kE_17 (vp_lt q_8)) hc_10) (Nat.le_of_ble_eq_true rfl) dX1_disallowedUnder_50 ?_
      refine r_iadd C.1 dX1_disallowedUnder_53 ?_
      obtain ⟨y_11, ey_11, h⟩ := lt_E h
      refine r_istore_n C.1 [(2, .int y_11), (0, .ref (x_ad x 17)), (1, .int x1), (3, .int x3)] dX1_disallowedUnder_54 rfl (by decide) ey_11 rfl ?_
      exact r_sub [1, 2, 0, 3] rfl (w_X1_disallowedUnder_55 C M x1 y_11 x3 _ h kh ke_0)

def b_X1_disallowedUnder_4 (M : xM) (x1 : Int32) (x2 : Int32) (x3 : Int32) : Option (Int32) :=
  bd (loopN (fun s : Int32 × Int32 => bl_X1_disallowedUnder_4 M x1 s.1 s.2) BG (x2, x3)) (fun v => some v)
set_option maxRecDepth 20000 in
set_option maxHeartbeats 2000000 in
theorem w_X1_disallowedUnder_4 {x : xC} (C : CtC x RX1 cX1_disallowedUnder 4 ({ frames := 1, cells := 0, slots := 0, locals := 23 } : Room)) (M : xM) (x1 : Int32) (x2 : Int32) (x3 : Int32)  (o : Int32) (h : b_X1_disallowedUnder_4 M x1 x2 x3 = some o) (hr : (x_me x).sig.returnType = some .int) (ev : x_rv x = some (.int o)) (eM : x_M x = M) : J x M 4 [(0, .ref (x_ad x 17)), (1, .int x1), (2, .int x2), (3, .int x3)] [] := by
  unfold b_X1_disallowedUnder_4 at h
  obtain ⟨r_0, hr_0, h⟩ := bd_E h
  refine loopN_ind (JJ := fun s => J x M 4 [(0, .ref (x_ad x 17)), (1, .int x1), (2, .int s.1), (3, .int s.2)] []) (KX := fun q => q = r_0) ?_ BG (x2, x3) r_0 hr_0 rfl
  intro s o1 hb kk1 kk2
  refine wl_X1_disallowedUnder_4 C M x1 s.1 s.2 _ hb kk1 ?_
  · intro v e0
    have e1 := kk2 _ e0
    subst e1
    refine r_iload_n C.1 0 dX1_disallowedUnder_61 rfl rfl ?_
    obtain rfl := Option.some.inj h
    exact r_iret C.1 hr ev eM dX1_disallowedUnder_62

def b_X1_disallowedUnder_0 (M : xM) (x1 : Int32) : Option (Int32) :=
  b_X1_disallowedUnder_4 M x1 (0 : Int32) (0 : Int32)
set_option maxRecDepth 20000 in
set_option maxHeartbeats 2000000 in
theorem w_X1_disallowedUnder_0 {x : xC} (C : CtC x RX1 cX1_disallowedUnder 4 ({ frames := 1, cells := 0, slots := 0, locals := 23 } : Room)) (M : xM) (x1 : Int32)  (o : Int32) (h : b_X1_disallowedUnder_0 M x1 = some o) (hr : (x_me x).sig.returnType = some .int) (ev : x_rv x = some (.int o)) (eM : x_M x = M) : J x M 0 [(0, .ref (x_ad x 17)), (1, .int x1)] [] := by
  unfold b_X1_disallowedUnder_0 at h
  refine r_iconst (v := 0) C.1 dX1_disallowedUnder_0 rfl ?_
  refine r_istore_n C.1 [(2, .int (0 : Int32)), (0, .ref (x_ad x 17)), (1, .int x1)] dX1_disallowedUnder_1 rfl (by decide) rfl rfl ?_
  refine r_iconst (v := 0) C.1 dX1_disallowedUnder_2 rfl ?_
  refine r_istore_n C.1 [(3, .int (0 : Int32)), (2, .int (0 : Int32)), (0, .ref (x_ad x 17)), (1, .int x1)] dX1_disallowedUnder_3 rfl (by decide) rfl rfl ?_
  exact r_sub [2, 3, 1, 0] rfl (w_X1_disallowedUnder_4 C M x1 (0 : Int32) (0 : Int32) _ h hr ev eM)
def f_X1_disallowedUnder (M : xM) (x1 : Int32) : Option (Int32) := b_X1_disallowedUnder_0 M x1
set_option maxRecDepth 20000 in
theorem m_X1_disallowedUnder (l : Launch) (D : va_G) (ad : Nat → Nat) (M : xM) (x1 : Int32)  {o : Int32} (h : f_X1_disallowedUnder M x1 = some o) : xMetC l yX1_disallowedUnder cX1_disallowedUnder 4 (some .int) ({ frames := 1, cells := 0, slots := 0, locals := 23 } : Room) [.ref (ad 17), .int x1] D ad M (some (.int o)) M := by
  refine xMetC_of (own := RX1) (by decide) rfl (Nat.le_of_ble_eq_true rfl) ?_
  intro x C e1 e2 e3 ev eM hr
  subst e1; subst e2; subst e3
  refine r_sub (L := [(0, .ref (x_ad x 17)), (1, .int x1)]) (L' := [(0, .ref (x_ad x 17)), (1, .int x1)]) [0, 1] rfl ?_
  exact w_X1_disallowedUnder_0 C M x1 _ h hr ev eM

def b_X1_fillDisputes_104 (M : xM) (x1 : Int32) (x3 : Int32) (x4 : Int32) : Option ((xM × Int32 × Int32) ⊕ (xM × Int32)) :=
  lt (x4 + (1 : Int32)) (fun y_1 => some (.inl (M, x3, y_1)))
set_option maxRecDepth 20000 in
set_option maxHeartbeats 2000000 in
theorem w_X1_fillDisputes_104 {x : xC} (C : CtC x RX1 cX1_fillDisputes 7 ({ frames := 1, cells := 0, slots := 0, locals := 21 } : Room)) (M : xM) (x1 : Int32) (x3 : Int32) (x4 : Int32)  (o : (xM × Int32 × Int32) ⊕ (xM × Int32)) (h : b_X1_fillDisputes_104 M x1 x3 x4 = some o) (kh : ∀ s : xM × Int32 × Int32, o = .inl s → J x s.1 5 [(0, .ref (x_ad x 17)), (1, .int x1), (2, .ref (x_ad x 16)), (3, .int s.2.1), (4, .int s.2.2)] []) (ke_0 : ∀ v : xM × Int32, o = .inr v → J x v.1 110 [(3, .int v.2)] []) : J x M 104 [(0, .ref (x_ad x 17)), (1, .int x1), (2, .ref (x_ad x 16)), (3, .int x3), (4, .int x4)] [] := by
  unfold b_X1_fillDisputes_104 at h
  obtain ⟨y_1, ey_1, h⟩ := lt_E h
  refine r_iinc C.1 4 [(4, .int y_1), (0, .ref (x_ad x 17)), (1, .int x1), (2, .ref (x_ad x 16)), (3, .int x3)] dX1_fillDisputes_104 rfl ey_1 (by decide) rfl ?_
  refine r_goto C.1 5 dX1_fillDisputes_107 (by decide) ?_
  exact r_sub [1, 2, 3, 4, 0] rfl (kh _ (Option.some.inj h).symm)

def b_X1_fillDisputes_95 (M : xM) (x1 : Int32) (x3 : Int32) (x4 : Int32) (x6 : Int32) : Option ((xM × Int32 × Int32) ⊕ (xM × Int32)) :=
  gd x6 40 (lt (uM M 16 x6.toNatClampNeg x4) (fun M_2 => lt (x3 + (1 : Int32)) (fun y_3 => b_X1_fillDisputes_104 M_2 x1 y_3 x4)))
set_option maxRecDepth 20000 in
set_option maxHeartbeats 2000000 in
theorem w_X1_fillDisputes_95 {x : xC} (C : CtC x RX1 cX1_fillDisputes 7 ({ frames := 1, cells := 0, slots := 0, locals := 21 } : Room)) (M : xM) (x1 : Int32) (x3 : Int32) (x4 : Int32) (x6 : Int32)  (o : (xM × Int32 × Int32) ⊕ (xM × Int32)) (h : b_X1_fillDisputes_95 M x1 x3 x4 x6 = some o) (kh : ∀ s : xM × Int32 × Int32, o = .inl s → J x s.1 5 [(0, .ref (x_ad x 17)), (1, .int x1), (2, .ref (x_ad x 16)), (3, .int s.2.1), (4, .int s.2.2)] []) (ke_0 : ∀ v : xM × Int32, o = .inr v → J x v.1 110 [(3, .int v.2)] []) : J x M 95 [(0, .ref (x_ad x 17)), (1, .int x1), (2, .ref (x_ad x 16)), (3, .int x3), (4, .int x4), (6, .int x6)] [] := by
  unfold b_X1_fillDisputes_95 at h
  refine r_aload_n C.1 2 dX1_fillDisputes_95 rfl rfl ?_
  refine r_iload C.1 5 dX1_fillDisputes_96 rfl ?_
  refine r_iload C.1 4 dX1_fillDisputes_98 rfl ?_
  obtain ⟨q_1, h⟩ := gd_E h
  obtain ⟨M_2, eM_2, h⟩ := lt_E h
  refine r_iast C.1 (cK C (by decide)) (cS C (sh_16)) 0 (cT0 C) q_1 eM_2 dX1_fillDisputes_100 ?_
  obtain ⟨y_3, ey_3, h⟩ := lt_E h
  refine r_iinc C.1 3 [(3, .int y_3), (0, .ref (x_ad x 17)), (1, .int x1), (2, .ref (x_ad x 16)), (4, .int x4), (6, .int x6)] dX1_fillDisputes_101 rfl ey_3 (by decide) rfl ?_
  exact r_sub [1, 2, 3, 0, 4] rfl (w_X1_fillDisputes_104 C M_2 x1 y_3 x4 _ h kh ke_0)

def bl_X1_fillDisputes_54 (M : xM) (x1 : Int32) (x3 : Int32) (x4 : Int32) (x5 : Int32) (x6 : Int32) : Option ((xM × Int32) ⊕ (xM × Int32)) :=
  if x6 ≤ 0 then some (.inr (M, x6)) else gd (x6 - (1 : Int32)) 40 (gd (M 16 (x6 - (1 : Int32)).toNatClampNeg) 40 (bd (f_X2_part M (45 + (M 16 (x6 - (1 : Int32)).toNatClampNeg).toNatClampNeg) (3 : Int32)) (fun r_4 => if x5 ≤ r_4 then some (.inr (M, x6)) else gd (x6 - (1 : Int32)) 40 (gd x6 40 (lt (uM M 16 x6.toNatClampNeg (M 16 (x6 - (1 : Int32)).toNatClampNeg)) (fun M_9 => lt (x6 + (-1 : Int32)) (fun y_10 => some (.inl (M_9, y_10)))))))))
set_option maxRecDepth 20000 in
set_option maxHeartbeats 2000000 in
theorem wl_X1_fillDisputes_54 {x : xC} (C : CtC x RX1 cX1_fillDisputes 7 ({ frames := 1, cells := 0, slots := 0, locals := 21 } : Room)) (M : xM) (x1 : Int32) (x3 : Int32) (x4 : Int32) (x5 : Int32) (x6 : Int32)  (o : (xM × Int32) ⊕ (xM × Int32)) (h : bl_X1_fillDisputes_54 M x1 x3 x4 x5 x6 = some o) (kh : ∀ s : xM × Int32, o = .inl s → J x s.1 54 [(0, .ref (x_ad x 17)), (1, .int x1), (2, .ref (x_ad x 16)), (3, .int x3), (4, .int x4), (5, .int x5), (6, .int s.2)] []) (ke_0 : ∀ v : xM × Int32, o = .inr v → J x v.1 95 [(0, .ref (x_ad x 17)), (1, .int x1), (2, .ref (x_ad x 16)), (3, .int x3), (4, .int x4), (6, .int v.2)] []) : J x M 54 [(0, .ref (x_ad x 17)), (1, .int x1), (2, .ref (x_ad x 16)), (3, .int x3), (4, .int x4), (5, .int x5), (6, .int x6)] [] := by
  unfold bl_X1_fillDisputes_54 at h
  refine r_iload C.1 6 dX1_fillDisputes_54 rfl ?_
  refine r_if_le C.1 95 dX1_fillDisputes_56 (by decide) (fun c_1 => ?_) (fun c_1 => ?_)
  · replace h := ite_T c_1 h
    exact r_sub [0, 1, 2, 3, 4, 6] rfl (ke_0 _ (Option.some.inj h).symm)
  · replace h := ite_F c_1 h
    refine r_aload_n C.1 0 dX1_fillDisputes_59 rfl rfl ?_
    refine gf_X1_40_17 C dX1_fillDisputes_60 ?_
    refine r_aload_n C.1 2 dX1_fillDisputes_63 rfl rfl ?_
    refine r_iload C.1 6 dX1_fillDisputes_64 rfl ?_
    refine r_iconst (v := 1) C.1 dX1_fillDisputes_66 rfl ?_
    refine r_isub C.1 dX1_fillDisputes_67 ?_
    obtain ⟨q_2, h⟩ := gd_E h
    refine r_iald C.1 (cK C (by decide)) (cS C (sh_16)) 0 (cT0 C) q_2 dX1_fillDisputes_68 ?_
    obtain ⟨q_3, h⟩ := gd_E h
    refine r_aldq C.1 (cK C (by decide)) (cS C (sh_21)) 3 (cT3 C) q_3 (y := x_ad x (45 + (M 16 (x6 - (1 : Int32)).toNatClampNeg).toNatClampNeg)) rfl dX1_fillDisputes_69 ?_
    refine r_iconst (v := 3) C.1 dX1_fillDisputes_70 rfl ?_
    obtain ⟨r_4, hc_5, h⟩ := bd_E h
    refine cl_X1_168 C (kE_17 (vp_lt q_3)) ⟨Nat.le_of_ble_eq_true rfl, Nat.le_of_ble_eq_true rfl⟩ (m_X2_part _ _ _ M (45 + (M 16 (x6 - (1 : Int32)).toNatClampNeg).toNatClampNeg) (3 : Int32) (kE_17 (vp_lt q_3)) hc_5) (Nat.le_of_ble_eq_true rfl) dX1_fillDisputes_71 ?_
    refine r_iload C.1 5 dX1_fillDisputes_74 rfl ?_
    refine r_icmp_ge C.1 95 dX1_fillDisputes_76 (by decide) (fun c_6 => ?_) (fun c_6 => ?_)
    · replace h := ite_T c_6 h
      exact r_sub [0, 1, 2, 3, 4, 6] rfl (ke_0 _ (Option.some.inj h).symm)
    · replace h := ite_F c_6 h
      refine r_aload_n C.1 2 dX1_fillDisputes_79 rfl rfl ?_
      refine r_iload C.1 6 dX1_fillDisputes_80 rfl ?_
      refine r_aload_n C.1 2 dX1_fillDisputes_82 rfl rfl ?_
      refine r_iload C.1 6 dX1_fillDisputes_83 rfl ?_
      refine r_iconst (v := 1) C.1 dX1_fillDisputes_85 rfl ?_
      refine r_isub C.1 dX1_fillDisputes_86 ?_
      obtain ⟨q_7, h⟩ := gd_E h
      refine r_iald C.1 (cK C (by decide)) (cS C (sh_16)) 0 (cT0 C) q_7 dX1_fillDisputes_87 ?_
      obtain ⟨q_8, h⟩ := gd_E h
      obtain ⟨M_9, eM_9, h⟩ := lt_E h
      refine r_iast C.1 (cK C (by decide)) (cS C (sh_16)) 0 (cT0 C) q_8 eM_9 dX1_fillDisputes_88 ?_
      obtain ⟨y_10, ey_10, h⟩ := lt_E h
      refine r_iinc C.1 6 [(6, .int y_10), (0, .ref (x_ad x 17)), (1, .int x1), (2, .ref (x_ad x 16)), (3, .int x3), (4, .int x4), (5, .int x5)] dX1_fillDisputes_89 rfl ey_10 (by decide) rfl ?_
      refine r_goto C.1 54 dX1_fillDisputes_92 (by decide) ?_
      exact r_sub [1, 2, 3, 4, 5, 6, 0] rfl (kh _ (Option.some.inj h).symm)

def b_X1_fillDisputes_54 (M : xM) (x1 : Int32) (x3 : Int32) (x4 : Int32) (x5 : Int32) (x6 : Int32) : Option ((xM × Int32 × Int32) ⊕ (xM × Int32)) :=
  bd (loopN (fun s : xM × Int32 => bl_X1_fillDisputes_54 s.1 x1 x3 x4 x5 s.2) BG (M, x6)) (fun v => b_X1_fillDisputes_95 v.1 x1 x3 x4 v.2)
set_option maxRecDepth 20000 in
set_option maxHeartbeats 2000000 in
theorem w_X1_fillDisputes_54 {x : xC} (C : CtC x RX1 cX1_fillDisputes 7 ({ frames := 1, cells := 0, slots := 0, locals := 21 } : Room)) (M : xM) (x1 : Int32) (x3 : Int32) (x4 : Int32) (x5 : Int32) (x6 : Int32)  (o : (xM × Int32 × Int32) ⊕ (xM × Int32)) (h : b_X1_fillDisputes_54 M x1 x3 x4 x5 x6 = some o) (kh : ∀ s : xM × Int32 × Int32, o = .inl s → J x s.1 5 [(0, .ref (x_ad x 17)), (1, .int x1), (2, .ref (x_ad x 16)), (3, .int s.2.1), (4, .int s.2.2)] []) (ke_0 : ∀ v : xM × Int32, o = .inr v → J x v.1 110 [(3, .int v.2)] []) : J x M 54 [(0, .ref (x_ad x 17)), (1, .int x1), (2, .ref (x_ad x 16)), (3, .int x3), (4, .int x4), (5, .int x5), (6, .int x6)] [] := by
  unfold b_X1_fillDisputes_54 at h
  obtain ⟨r_0, hr_0, h⟩ := bd_E h
  refine loopN_ind (JJ := fun s => J x s.1 54 [(0, .ref (x_ad x 17)), (1, .int x1), (2, .ref (x_ad x 16)), (3, .int x3), (4, .int x4), (5, .int x5), (6, .int s.2)] []) (KX := fun q => q = r_0) ?_ BG (M, x6) r_0 hr_0 rfl
  intro s o1 hb kk1 kk2
  refine wl_X1_fillDisputes_54 C s.1 x1 x3 x4 x5 s.2 _ hb kk1 ?_
  · intro v e0
    have e1 := kk2 _ e0
    subst e1
    exact r_sub [0, 1, 2, 3, 4, 5] rfl (w_X1_fillDisputes_95 C v.1 x1 x3 x4 v.2 _ h kh ke_0)

def b_X1_fillDisputes_51 (M : xM) (x1 : Int32) (x3 : Int32) (x4 : Int32) (x5 : Int32) : Option ((xM × Int32 × Int32) ⊕ (xM × Int32)) :=
  b_X1_fillDisputes_54 M x1 x3 x4 x5 x3
set_option maxRecDepth 20000 in
set_option maxHeartbeats 2000000 in
theorem w_X1_fillDisputes_51 {x : xC} (C : CtC x RX1 cX1_fillDisputes 7 ({ frames := 1, cells := 0, slots := 0, locals := 21 } : Room)) (M : xM) (x1 : Int32) (x3 : Int32) (x4 : Int32) (x5 : Int32)  (o : (xM × Int32 × Int32) ⊕ (xM × Int32)) (h : b_X1_fillDisputes_51 M x1 x3 x4 x5 = some o) (kh : ∀ s : xM × Int32 × Int32, o = .inl s → J x s.1 5 [(0, .ref (x_ad x 17)), (1, .int x1), (2, .ref (x_ad x 16)), (3, .int s.2.1), (4, .int s.2.2)] []) (ke_0 : ∀ v : xM × Int32, o = .inr v → J x v.1 110 [(3, .int v.2)] []) : J x M 51 [(0, .ref (x_ad x 17)), (1, .int x1), (2, .ref (x_ad x 16)), (3, .int x3), (4, .int x4), (5, .int x5)] [] := by
  unfold b_X1_fillDisputes_51 at h
  refine r_iload_n C.1 3 dX1_fillDisputes_51 rfl rfl ?_
  refine r_istore C.1 [(6, .int x3), (0, .ref (x_ad x 17)), (1, .int x1), (2, .ref (x_ad x 16)), (3, .int x3), (4, .int x4), (5, .int x5)] dX1_fillDisputes_52 (by decide) rfl rfl ?_
  exact r_sub [1, 2, 3, 4, 5, 6, 0] rfl (w_X1_fillDisputes_54 C M x1 x3 x4 x5 x3 _ h kh ke_0)

def bl_X1_fillDisputes_5 (M : xM) (x1 : Int32) (x3 : Int32) (x4 : Int32) : Option ((xM × Int32 × Int32) ⊕ (xM × Int32)) :=
  if (M 17 5) ≤ x4 then some (.inr (M, x3)) else gd x4 40 (bd (f_X2_part M (45 + x4.toNatClampNeg) (3 : Int32)) (fun r_3 => if r_3 ≤ 0 then b_X1_fillDisputes_104 M x1 x3 x4 else if x1 = (-1 : Int32) then b_X1_fillDisputes_51 M x1 x3 x4 r_3 else gd x4 40 (if (M (45 + x4.toNatClampNeg) 1) = x1 then b_X1_fillDisputes_51 M x1 x3 x4 r_3 else b_X1_fillDisputes_104 M x1 x3 x4)))
set_option maxRecDepth 20000 in
set_option maxHeartbeats 2000000 in
theorem wl_X1_fillDisputes_5 {x : xC} (C : CtC x RX1 cX1_fillDisputes 7 ({ frames := 1, cells := 0, slots := 0, locals := 21 } : Room)) (M : xM) (x1 : Int32) (x3 : Int32) (x4 : Int32)  (o : (xM × Int32 × Int32) ⊕ (xM × Int32)) (h : bl_X1_fillDisputes_5 M x1 x3 x4 = some o) (kh : ∀ s : xM × Int32 × Int32, o = .inl s → J x s.1 5 [(0, .ref (x_ad x 17)), (1, .int x1), (2, .ref (x_ad x 16)), (3, .int s.2.1), (4, .int s.2.2)] []) (ke_0 : ∀ v : xM × Int32, o = .inr v → J x v.1 110 [(3, .int v.2)] []) : J x M 5 [(0, .ref (x_ad x 17)), (1, .int x1), (2, .ref (x_ad x 16)), (3, .int x3), (4, .int x4)] [] := by
  unfold bl_X1_fillDisputes_5 at h
  refine r_iload C.1 4 dX1_fillDisputes_5 rfl ?_
  refine r_aload_n C.1 0 dX1_fillDisputes_7 rfl rfl ?_
  refine gf_X1_35_17 C dX1_fillDisputes_8 ?_
  refine r_icmp_ge C.1 110 dX1_fillDisputes_11 (by decide) (fun c_1 => ?_) (fun c_1 => ?_)
  · replace h := ite_T c_1 h
    exact r_sub [3] rfl (ke_0 _ (Option.some.inj h).symm)
  · replace h := ite_F c_1 h
    refine r_aload_n C.1 0 dX1_fillDisputes_14 rfl rfl ?_
    refine gf_X1_40_17 C dX1_fillDisputes_15 ?_
    refine r_iload C.1 4 dX1_fillDisputes_18 rfl ?_
    obtain ⟨q_2, h⟩ := gd_E h
    refine r_aldq C.1 (cK C (by decide)) (cS C (sh_21)) 3 (cT3 C) q_2 (y := x_ad x (45 + x4.toNatClampNeg)) rfl dX1_fillDisputes_20 ?_
    refine r_iconst (v := 3) C.1 dX1_fillDisputes_21 rfl ?_
    obtain ⟨r_3, hc_4, h⟩ := bd_E h
    refine cl_X1_168 C (kE_17 (vp_lt q_2)) ⟨Nat.le_of_ble_eq_true rfl, Nat.le_of_ble_eq_true rfl⟩ (m_X2_part _ _ _ M (45 + x4.toNatClampNeg) (3 : Int32) (kE_17 (vp_lt q_2)) hc_4) (Nat.le_of_ble_eq_true rfl) dX1_fillDisputes_22 ?_
    refine r_istore C.1 [(5, .int r_3), (0, .ref (x_ad x 17)), (1, .int x1), (2, .ref (x_ad x 16)), (3, .int x3), (4, .int x4)] dX1_fillDisputes_25 (by decide) rfl rfl ?_
    refine r_iload C.1 0 dX1_fillDisputes_27 rfl ?_
    refine r_if_le C.1 104 dX1_fillDisputes_29 (by decide) (fun c_5 => ?_) (fun c_5 => ?_)
    · replace h := ite_T c_5 h
      exact r_sub [1, 2, 3, 4, 5] rfl (w_X1_fillDisputes_104 C M x1 x3 x4 _ h kh ke_0)
    · replace h := ite_F c_5 h
      refine r_iload_n C.1 2 dX1_fillDisputes_32 rfl rfl ?_
      refine r_iconst (v := -1) C.1 dX1_fillDisputes_33 rfl ?_
      refine r_icmp_eq C.1 51 dX1_fillDisputes_34 (by decide) (fun c_6 => ?_) (fun c_6 => ?_)
      · replace h := ite_T c_6 h
        exact r_sub [1, 2, 3, 4, 5, 0] rfl (w_X1_fillDisputes_51 C M x1 x3 x4 r_3 _ h kh ke_0)
      · replace h := ite_F c_6 h
        refine r_aload_n C.1 1 dX1_fillDisputes_37 rfl rfl ?_
        refine gf_X1_40_17 C dX1_fillDisputes_38 ?_
        refine r_iload C.1 5 dX1_fillDisputes_41 rfl ?_
        obtain ⟨q_7, h⟩ := gd_E h
        refine r_aldq C.1 (cK C (by decide)) (cS C (sh_21)) 3 (cT3 C) q_7 (y := x_ad x (45 + x4.toNatClampNeg)) rfl dX1_fillDisputes_43 ?_
        refine gfk_X1_161 C (kE_17 (vp_lt q_7)) dX1_fillDisputes_44 ?_
        refine r_iload_n C.1 2 dX1_fillDisputes_47 rfl rfl ?_
        refine r_icmp_ne C.1 104 dX1_fillDisputes_48 (by decide) (fun c_8 => ?_) (fun c_8 => ?_)
        · replace h := ite_F c_8 h
          exact r_sub [1, 2, 3, 4, 5] rfl (w_X1_fillDisputes_104 C M x1 x3 x4 _ h kh ke_0)
        · replace h := ite_T c_8 h
          exact r_sub [1, 2, 3, 4, 5, 0] rfl (w_X1_fillDisputes_51 C M x1 x3 x4 r_3 _ h kh ke_0)

def b_X1_fillDisputes_5 (M : xM) (x1 : Int32) (x3 : Int32) (x4 : Int32) : Option (Int32 × xM) :=
  bd (loopN (fun s : xM × Int32 × Int32 => bl_X1_fillDisputes_5 s.1 x1 s.2.1 s.2.2) BG (M, x3, x4)) (fun v => some (v.2, v.1))
set_option maxRecDepth 20000 in
set_option maxHeartbeats 2000000 in
theorem w_X1_fillDisputes_5 {x : xC} (C : CtC x RX1 cX1_fillDisputes 7 ({ frames := 1, cells := 0, slots := 0, locals := 21 } : Room)) (M : xM) (x1 : Int32) (x3 : Int32) (x4 : Int32)  (o : Int32 × xM) (h : b_X1_fillDisputes_5 M x1 x3 x4 = some o) (hr : (x_me x).sig.returnType = some .int) (ev : x_rv x = some (.int o.1)) (eM : x_M x = o.2) : J x M 5 [(0, .ref (x_ad x 17)), (1, .int x1), (2, .ref (x_ad x 16)), (3, .int x3), (4, .int x4)] [] := by
  unfold b_X1_fillDisputes_5 at h
  obtain ⟨r_0, hr_0, h⟩ := bd_E h
  refine loopN_ind (JJ := fun s => J x s.1 5 [(0, .ref (x_ad x 17)), (1, .int x1), (2, .ref (x_ad x 16)), (3, .int s.2.1), (4, .int s.2.2)] []) (KX := fun q => q = r_0) ?_ BG (M, x3, x4) r_0 hr_0 rfl
  intro s o1 hb kk1 kk2
  refine wl_X1_fillDisputes_5 C s.1 x1 s.2.1 s.2.2 _ hb kk1 ?_
  · intro v e0
    have e1 := kk2 _ e0
    subst e1
    refine r_iload_n C.1 0 dX1_fillDisputes_110 rfl rfl ?_
    obtain rfl := Option.some.inj h
    exact r_iret C.1 hr ev eM dX1_fillDisputes_111

def b_X1_fillDisputes_0 (M : xM) (x1 : Int32) : Option (Int32 × xM) :=
  b_X1_fillDisputes_5 M x1 (0 : Int32) (0 : Int32)
set_option maxRecDepth 20000 in
set_option maxHeartbeats 2000000 in
theorem w_X1_fillDisputes_0 {x : xC} (C : CtC x RX1 cX1_fillDisputes 7 ({ frames := 1, cells := 0, slots := 0, locals := 21 } : Room)) (M : xM) (x1 : Int32)  (o : Int32 × xM) (h : b_X1_fillDisputes_0 M x1 = some o) (hr : (x_me x).sig.returnType = some .int) (ev : x_rv x = some (.int o.1)) (eM : x_M x = o.2) : J x M 0 [(0, .ref (x_ad x 17)), (1, .int x1), (2, .ref (x_ad x 16))] [] := by
  unfold b_X1_fillDisputes_0 at h
  refine r_iconst (v := 0) C.1 dX1_fillDisputes_0 rfl ?_
  refine r_istore_n C.1 [(3, .int (0 : Int32)), (0, .ref (x_ad x 17)), (1, .int x1), (2, .ref (x_ad x 16))] dX1_fillDisputes_1 rfl (by decide) rfl rfl ?_
  refine r_iconst (v := 0) C.1 dX1_fillDisputes_2 rfl ?_
  refine r_istore C.1 [(4, .int (0 : Int32)), (3, .int (0 : Int32)), (0, .ref (x_ad x 17)), (1, .int x1), (2, .ref (x_ad x 16))] dX1_fillDisputes_3 (by decide) rfl rfl ?_
  exact r_sub [2, 3, 4, 1, 0] rfl (w_X1_fillDisputes_5 C M x1 (0 : Int32) (0 : Int32) _ h hr ev eM)
def f_X1_fillDisputes (M : xM) (x1 : Int32) : Option (Int32 × xM) := b_X1_fillDisputes_0 M x1
set_option maxRecDepth 20000 in
theorem m_X1_fillDisputes (l : Launch) (D : va_G) (ad : Nat → Nat) (M : xM) (x1 : Int32)  {r : Int32} {M1 : xM} (h : f_X1_fillDisputes M x1 = some (r, M1)) : xMetC l yX1_fillDisputes cX1_fillDisputes 7 (some .int) ({ frames := 1, cells := 0, slots := 0, locals := 21 } : Room) [.ref (ad 17), .int x1, .ref (ad 16)] D ad M (some (.int r)) M1 := by
  refine xMetC_of (own := RX1) (by decide) rfl (Nat.le_of_ble_eq_true rfl) ?_
  intro x C e1 e2 e3 ev eM hr
  subst e1; subst e2; subst e3
  refine r_sub (L := [(0, .ref (x_ad x 17)), (1, .int x1), (2, .ref (x_ad x 16))]) (L' := [(0, .ref (x_ad x 17)), (1, .int x1), (2, .ref (x_ad x 16))]) [0, 1, 2] rfl ?_
  exact w_X1_fillDisputes_0 C M x1 _ h hr ev eM

def b_X2_isSpoilt_27 (M : xM) (s0 : Int32) : Option (Int32) :=
  gz s0 (some s0)
set_option maxRecDepth 20000 in
set_option maxHeartbeats 2000000 in
theorem w_X2_isSpoilt_27 {x : xC} (C : CtC x RX2 cX2_isSpoilt 1 ({ frames := 0, cells := 0, slots := 0, locals := 0 } : Room)) (M : xM) (s0 : Int32)  (o : Int32) (h : b_X2_isSpoilt_27 M s0 = some o) (hr : (x_me x).sig.returnType = some .boolean) (ev : x_rv x = some (.int o)) (eM : x_M x = M) : J x M 27 [] [.int s0] := by
  unfold b_X2_isSpoilt_27 at h
  obtain ⟨z_1, h⟩ := gz_E h
  obtain rfl := Option.some.inj h
  exact r_zret C.1 hr (nz_n z_1) ev eM dX2_isSpoilt_27

def b_X2_isSpoilt_26 (M : xM)  : Option (Int32) :=
  b_X2_isSpoilt_27 M (0 : Int32)
set_option maxRecDepth 20000 in
set_option maxHeartbeats 2000000 in
theorem w_X2_isSpoilt_26 {x : xC} (C : CtC x RX2 cX2_isSpoilt 1 ({ frames := 0, cells := 0, slots := 0, locals := 0 } : Room)) (M : xM)   (o : Int32) (h : b_X2_isSpoilt_26 M = some o) (hr : (x_me x).sig.returnType = some .boolean) (ev : x_rv x = some (.int o)) (eM : x_M x = M) : J x M 26 [] [] := by
  unfold b_X2_isSpoilt_26 at h
  refine r_iconst (v := 0) C.1 dX2_isSpoilt_26 rfl ?_
  exact r_sub [] rfl (w_X2_isSpoilt_27 C M (0 : Int32) _ h hr ev eM)

def b_X2_isSpoilt_0 (M : xM) (k0 : Nat) : Option (Int32) :=
  if (M k0 0) = (1 : Int32) then if (M k0 5) ≤ 0 then b_X2_isSpoilt_26 M else if (M k0 6) = 0 then b_X2_isSpoilt_27 M (1 : Int32) else b_X2_isSpoilt_26 M else b_X2_isSpoilt_26 M
set_option maxRecDepth 20000 in
set_option maxHeartbeats 2000000 in
theorem w_X2_isSpoilt_0 {x : xC} (C : CtC x RX2 cX2_isSpoilt 1 ({ frames := 0, cells := 0, slots := 0, locals := 0 } : Room)) (M : xM) (k0 : Nat) (h0 : KE k0) (o : Int32) (h : b_X2_isSpoilt_0 M k0 = some o) (hr : (x_me x).sig.returnType = some .boolean) (ev : x_rv x = some (.int o)) (eM : x_M x = M) : J x M 0 [(0, .ref (x_ad x k0))] [] := by
  unfold b_X2_isSpoilt_0 at h
  refine r_aload_n C.1 0 dX2_isSpoilt_0 rfl rfl ?_
  refine gfk_X2_9 C h0 dX2_isSpoilt_1 ?_
  refine r_iconst (v := 1) C.1 dX2_isSpoilt_4 rfl ?_
  refine r_icmp_ne C.1 26 dX2_isSpoilt_5 (by decide) (fun c_1 => ?_) (fun c_1 => ?_)
  · replace h := ite_F c_1 h
    exact r_sub [] rfl (w_X2_isSpoilt_26 C M _ h hr ev eM)
  · replace h := ite_T c_1 h
    refine r_aload_n C.1 0 dX2_isSpoilt_8 rfl rfl ?_
    refine gfk_X2_27 C h0 dX2_isSpoilt_9 ?_
    refine r_if_le C.1 26 dX2_isSpoilt_12 (by decide) (fun c_2 => ?_) (fun c_2 => ?_)
    · replace h := ite_T c_2 h
      exact r_sub [] rfl (w_X2_isSpoilt_26 C M _ h hr ev eM)
    · replace h := ite_F c_2 h
      refine r_aload_n C.1 0 dX2_isSpoilt_15 rfl rfl ?_
      refine gfk_X2_30 C h0 dX2_isSpoilt_16 ?_
      refine r_if_ne C.1 26 dX2_isSpoilt_19 (by decide) (fun c_3 => ?_) (fun c_3 => ?_)
      · replace h := ite_F c_3 h
        exact r_sub [] rfl (w_X2_isSpoilt_26 C M _ h hr ev eM)
      · replace h := ite_T c_3 h
        refine r_iconst (v := 1) C.1 dX2_isSpoilt_22 rfl ?_
        refine r_goto C.1 27 dX2_isSpoilt_23 (by decide) ?_
        exact r_sub [] rfl (w_X2_isSpoilt_27 C M (1 : Int32) _ h hr ev eM)
def f_X2_isSpoilt (M : xM) (k0 : Nat) : Option (Int32) := b_X2_isSpoilt_0 M k0
set_option maxRecDepth 20000 in
theorem m_X2_isSpoilt (l : Launch) (D : va_G) (ad : Nat → Nat) (M : xM) (k0 : Nat) (h0 : KE k0) {o : Int32} (h : f_X2_isSpoilt M k0 = some o) : xMetC l yX2_isSpoilt cX2_isSpoilt 1 (some .boolean) ({ frames := 0, cells := 0, slots := 0, locals := 0 } : Room) [.ref (ad k0)] D ad M (some (.int o)) M := by
  refine xMetC_of (own := RX2) (by decide) rfl (Nat.le_of_ble_eq_true rfl) ?_
  intro x C e1 e2 e3 ev eM hr
  subst e1; subst e2; subst e3
  refine r_sub (L := [(0, .ref (x_ad x k0))]) (L' := [(0, .ref (x_ad x k0))]) [0] rfl ?_
  exact w_X2_isSpoilt_0 C M k0 h0 _ h hr ev eM

def b_X1_fillSpoilt_31 (M : xM) (x2 : Int32) (x3 : Int32) : Option ((xM × Int32 × Int32) ⊕ (xM × Int32)) :=
  lt (x3 + (1 : Int32)) (fun y_1 => some (.inl (M, x2, y_1)))
set_option maxRecDepth 20000 in
set_option maxHeartbeats 2000000 in
theorem w_X1_fillSpoilt_31 {x : xC} (C : CtC x RX1 cX1_fillSpoilt 4 ({ frames := 1, cells := 0, slots := 0, locals := 20 } : Room)) (M : xM) (x2 : Int32) (x3 : Int32)  (o : (xM × Int32 × Int32) ⊕ (xM × Int32)) (h : b_X1_fillSpoilt_31 M x2 x3 = some o) (kh : ∀ s : xM × Int32 × Int32, o = .inl s → J x s.1 4 [(0, .ref (x_ad x 17)), (1, .ref (x_ad x 16)), (2, .int s.2.1), (3, .int s.2.2)] []) (ke_0 : ∀ v : xM × Int32, o = .inr v → J x v.1 37 [(2, .int v.2)] []) : J x M 31 [(0, .ref (x_ad x 17)), (1, .ref (x_ad x 16)), (2, .int x2), (3, .int x3)] [] := by
  unfold b_X1_fillSpoilt_31 at h
  obtain ⟨y_1, ey_1, h⟩ := lt_E h
  refine r_iinc C.1 3 [(3, .int y_1), (0, .ref (x_ad x 17)), (1, .ref (x_ad x 16)), (2, .int x2)] dX1_fillSpoilt_31 rfl ey_1 (by decide) rfl ?_
  refine r_goto C.1 4 dX1_fillSpoilt_34 (by decide) ?_
  exact r_sub [1, 2, 3, 0] rfl (kh _ (Option.some.inj h).symm)

def bl_X1_fillSpoilt_4 (M : xM) (x2 : Int32) (x3 : Int32) : Option ((xM × Int32 × Int32) ⊕ (xM × Int32)) :=
  if (M 17 5) ≤ x3 then some (.inr (M, x2)) else gd x3 40 (bd (f_X2_isSpoilt M (45 + x3.toNatClampNeg)) (fun r_3 => if r_3 = 0 then b_X1_fillSpoilt_31 M x2 x3 else gd x2 40 (lt (uM M 16 x2.toNatClampNeg x3) (fun M_7 => lt (x2 + (1 : Int32)) (fun y_8 => b_X1_fillSpoilt_31 M_7 y_8 x3)))))
set_option maxRecDepth 20000 in
set_option maxHeartbeats 2000000 in
theorem wl_X1_fillSpoilt_4 {x : xC} (C : CtC x RX1 cX1_fillSpoilt 4 ({ frames := 1, cells := 0, slots := 0, locals := 20 } : Room)) (M : xM) (x2 : Int32) (x3 : Int32)  (o : (xM × Int32 × Int32) ⊕ (xM × Int32)) (h : bl_X1_fillSpoilt_4 M x2 x3 = some o) (kh : ∀ s : xM × Int32 × Int32, o = .inl s → J x s.1 4 [(0, .ref (x_ad x 17)), (1, .ref (x_ad x 16)), (2, .int s.2.1), (3, .int s.2.2)] []) (ke_0 : ∀ v : xM × Int32, o = .inr v → J x v.1 37 [(2, .int v.2)] []) : J x M 4 [(0, .ref (x_ad x 17)), (1, .ref (x_ad x 16)), (2, .int x2), (3, .int x3)] [] := by
  unfold bl_X1_fillSpoilt_4 at h
  refine r_iload_n C.1 3 dX1_fillSpoilt_4 rfl rfl ?_
  refine r_aload_n C.1 0 dX1_fillSpoilt_5 rfl rfl ?_
  refine gf_X1_35_17 C dX1_fillSpoilt_6 ?_
  refine r_icmp_ge C.1 37 dX1_fillSpoilt_9 (by decide) (fun c_1 => ?_) (fun c_1 => ?_)
  · replace h := ite_T c_1 h
    exact r_sub [2] rfl (ke_0 _ (Option.some.inj h).symm)
  · replace h := ite_F c_1 h
    refine r_aload_n C.1 0 dX1_fillSpoilt_12 rfl rfl ?_
    refine gf_X1_40_17 C dX1_fillSpoilt_13 ?_
    refine r_iload_n C.1 3 dX1_fillSpoilt_16 rfl rfl ?_
    obtain ⟨q_2, h⟩ := gd_E h
    refine r_aldq C.1 (cK C (by decide)) (cS C (sh_21)) 3 (cT3 C) q_2 (y := x_ad x (45 + x3.toNatClampNeg)) rfl dX1_fillSpoilt_17 ?_
    obtain ⟨r_3, hc_4, h⟩ := bd_E h
    refine cl_X1_198 C (kE_17 (vp_lt q_2)) ⟨Nat.le_of_ble_eq_true rfl, Nat.le_of_ble_eq_true rfl⟩ (m_X2_isSpoilt _ _ _ M (45 + x3.toNatClampNeg) (kE_17 (vp_lt q_2)) hc_4) (Nat.le_of_ble_eq_true rfl) dX1_fillSpoilt_18 ?_
    refine r_if_eq C.1 31 dX1_fillSpoilt_21 (by decide) (fun c_5 => ?_) (fun c_5 => ?_)
    · replace h := ite_T c_5 h
      exact r_sub [0, 1, 2, 3] rfl (w_X1_fillSpoilt_31 C M x2 x3 _ h kh ke_0)
    · replace h := ite_F c_5 h
      refine r_aload_n C.1 1 dX1_fillSpoilt_24 rfl rfl ?_
      refine r_iload_n C.1 2 dX1_fillSpoilt_25 rfl rfl ?_
      refine r_iload_n C.1 3 dX1_fillSpoilt_26 rfl rfl ?_
      obtain ⟨q_6, h⟩ := gd_E h
      obtain ⟨M_7, eM_7, h⟩ := lt_E h
      refine r_iast C.1 (cK C (by decide)) (cS C (sh_16)) 0 (cT0 C) q_6 eM_7 dX1_fillSpoilt_27 ?_
      obtain ⟨y_8, ey_8, h⟩ := lt_E h
      refine r_iinc C.1 2 [(2, .int y_8), (0, .ref (x_ad x 17)), (1, .ref (x_ad x 16)), (3, .int x3)] dX1_fillSpoilt_28 rfl ey_8 (by decide) rfl ?_
      exact r_sub [1, 2, 0, 3] rfl (w_X1_fillSpoilt_31 C M_7 y_8 x3 _ h kh ke_0)

def b_X1_fillSpoilt_4 (M : xM) (x2 : Int32) (x3 : Int32) : Option (Int32 × xM) :=
  bd (loopN (fun s : xM × Int32 × Int32 => bl_X1_fillSpoilt_4 s.1 s.2.1 s.2.2) BG (M, x2, x3)) (fun v => some (v.2, v.1))
set_option maxRecDepth 20000 in
set_option maxHeartbeats 2000000 in
theorem w_X1_fillSpoilt_4 {x : xC} (C : CtC x RX1 cX1_fillSpoilt 4 ({ frames := 1, cells := 0, slots := 0, locals := 20 } : Room)) (M : xM) (x2 : Int32) (x3 : Int32)  (o : Int32 × xM) (h : b_X1_fillSpoilt_4 M x2 x3 = some o) (hr : (x_me x).sig.returnType = some .int) (ev : x_rv x = some (.int o.1)) (eM : x_M x = o.2) : J x M 4 [(0, .ref (x_ad x 17)), (1, .ref (x_ad x 16)), (2, .int x2), (3, .int x3)] [] := by
  unfold b_X1_fillSpoilt_4 at h
  obtain ⟨r_0, hr_0, h⟩ := bd_E h
  refine loopN_ind (JJ := fun s => J x s.1 4 [(0, .ref (x_ad x 17)), (1, .ref (x_ad x 16)), (2, .int s.2.1), (3, .int s.2.2)] []) (KX := fun q => q = r_0) ?_ BG (M, x2, x3) r_0 hr_0 rfl
  intro s o1 hb kk1 kk2
  refine wl_X1_fillSpoilt_4 C s.1 s.2.1 s.2.2 _ hb kk1 ?_
  · intro v e0
    have e1 := kk2 _ e0
    subst e1
    refine r_iload_n C.1 0 dX1_fillSpoilt_37 rfl rfl ?_
    obtain rfl := Option.some.inj h
    exact r_iret C.1 hr ev eM dX1_fillSpoilt_38

def b_X1_fillSpoilt_0 (M : xM)  : Option (Int32 × xM) :=
  b_X1_fillSpoilt_4 M (0 : Int32) (0 : Int32)
set_option maxRecDepth 20000 in
set_option maxHeartbeats 2000000 in
theorem w_X1_fillSpoilt_0 {x : xC} (C : CtC x RX1 cX1_fillSpoilt 4 ({ frames := 1, cells := 0, slots := 0, locals := 20 } : Room)) (M : xM)   (o : Int32 × xM) (h : b_X1_fillSpoilt_0 M = some o) (hr : (x_me x).sig.returnType = some .int) (ev : x_rv x = some (.int o.1)) (eM : x_M x = o.2) : J x M 0 [(0, .ref (x_ad x 17)), (1, .ref (x_ad x 16))] [] := by
  unfold b_X1_fillSpoilt_0 at h
  refine r_iconst (v := 0) C.1 dX1_fillSpoilt_0 rfl ?_
  refine r_istore_n C.1 [(2, .int (0 : Int32)), (0, .ref (x_ad x 17)), (1, .ref (x_ad x 16))] dX1_fillSpoilt_1 rfl (by decide) rfl rfl ?_
  refine r_iconst (v := 0) C.1 dX1_fillSpoilt_2 rfl ?_
  refine r_istore_n C.1 [(3, .int (0 : Int32)), (2, .int (0 : Int32)), (0, .ref (x_ad x 17)), (1, .ref (x_ad x 16))] dX1_fillSpoilt_3 rfl (by decide) rfl rfl ?_
  exact r_sub [2, 3, 1, 0] rfl (w_X1_fillSpoilt_4 C M (0 : Int32) (0 : Int32) _ h hr ev eM)
def f_X1_fillSpoilt (M : xM)  : Option (Int32 × xM) := b_X1_fillSpoilt_0 M 
set_option maxRecDepth 20000 in
theorem m_X1_fillSpoilt (l : Launch) (D : va_G) (ad : Nat → Nat) (M : xM)   {r : Int32} {M1 : xM} (h : f_X1_fillSpoilt M = some (r, M1)) : xMetC l yX1_fillSpoilt cX1_fillSpoilt 4 (some .int) ({ frames := 1, cells := 0, slots := 0, locals := 20 } : Room) [.ref (ad 17), .ref (ad 16)] D ad M (some (.int r)) M1 := by
  refine xMetC_of (own := RX1) (by decide) rfl (Nat.le_of_ble_eq_true rfl) ?_
  intro x C e1 e2 e3 ev eM hr
  subst e1; subst e2; subst e3
  refine r_sub (L := [(0, .ref (x_ad x 17)), (1, .ref (x_ad x 16))]) (L' := [(0, .ref (x_ad x 17)), (1, .ref (x_ad x 16))]) [0, 1] rfl ?_
  exact w_X1_fillSpoilt_0 C M _ h hr ev eM

def b_X1_fillVouchers_82 (M : xM) (x2 : Int32) (x3 : Int32) : Option ((xM × Int32 × Int32) ⊕ (xM × Int32)) :=
  lt (x3 + (1 : Int32)) (fun y_1 => some (.inl (M, x2, y_1)))
set_option maxRecDepth 20000 in
set_option maxHeartbeats 2000000 in
theorem w_X1_fillVouchers_82 {x : xC} (C : CtC x RX1 cX1_fillVouchers 5 ({ frames := 0, cells := 0, slots := 0, locals := 0 } : Room)) (M : xM) (x2 : Int32) (x3 : Int32)  (o : (xM × Int32 × Int32) ⊕ (xM × Int32)) (h : b_X1_fillVouchers_82 M x2 x3 = some o) (kh : ∀ s : xM × Int32 × Int32, o = .inl s → J x s.1 4 [(0, .ref (x_ad x 17)), (1, .ref (x_ad x 16)), (2, .int s.2.1), (3, .int s.2.2)] []) (ke_0 : ∀ v : xM × Int32, o = .inr v → J x v.1 88 [(2, .int v.2)] []) : J x M 82 [(0, .ref (x_ad x 17)), (1, .ref (x_ad x 16)), (2, .int x2), (3, .int x3)] [] := by
  unfold b_X1_fillVouchers_82 at h
  obtain ⟨y_1, ey_1, h⟩ := lt_E h
  refine r_iinc C.1 3 [(3, .int y_1), (0, .ref (x_ad x 17)), (1, .ref (x_ad x 16)), (2, .int x2)] dX1_fillVouchers_82 rfl ey_1 (by decide) rfl ?_
  refine r_goto C.1 4 dX1_fillVouchers_85 (by decide) ?_
  exact r_sub [1, 2, 3, 0] rfl (kh _ (Option.some.inj h).symm)

def b_X1_fillVouchers_66 (M : xM) (x2 : Int32) (x3 : Int32) (x4 : Int32) : Option ((xM × Int32 × Int32) ⊕ (xM × Int32)) :=
  gd x3 40 (gd x4 40 (lt (uM M 16 x4.toNatClampNeg (M (45 + x3.toNatClampNeg) 5)) (fun M_3 => lt (x2 + (1 : Int32)) (fun y_4 => b_X1_fillVouchers_82 M_3 y_4 x3))))
set_option maxRecDepth 20000 in
set_option maxHeartbeats 2000000 in
theorem w_X1_fillVouchers_66 {x : xC} (C : CtC x RX1 cX1_fillVouchers 5 ({ frames := 0, cells := 0, slots := 0, locals := 0 } : Room)) (M : xM) (x2 : Int32) (x3 : Int32) (x4 : Int32)  (o : (xM × Int32 × Int32) ⊕ (xM × Int32)) (h : b_X1_fillVouchers_66 M x2 x3 x4 = some o) (kh : ∀ s : xM × Int32 × Int32, o = .inl s → J x s.1 4 [(0, .ref (x_ad x 17)), (1, .ref (x_ad x 16)), (2, .int s.2.1), (3, .int s.2.2)] []) (ke_0 : ∀ v : xM × Int32, o = .inr v → J x v.1 88 [(2, .int v.2)] []) : J x M 66 [(0, .ref (x_ad x 17)), (1, .ref (x_ad x 16)), (2, .int x2), (3, .int x3), (4, .int x4)] [] := by
  unfold b_X1_fillVouchers_66 at h
  refine r_aload_n C.1 1 dX1_fillVouchers_66 rfl rfl ?_
  refine r_iload C.1 4 dX1_fillVouchers_67 rfl ?_
  refine r_aload_n C.1 0 dX1_fillVouchers_69 rfl rfl ?_
  refine gf_X1_40_17 C dX1_fillVouchers_70 ?_
  refine r_iload_n C.1 3 dX1_fillVouchers_73 rfl rfl ?_
  obtain ⟨q_1, h⟩ := gd_E h
  refine r_aldq C.1 (cK C (by decide)) (cS C (sh_21)) 3 (cT3 C) q_1 (y := x_ad x (45 + x3.toNatClampNeg)) rfl dX1_fillVouchers_74 ?_
  refine gfk_X1_118 C (kE_17 (vp_lt q_1)) dX1_fillVouchers_75 ?_
  obtain ⟨q_2, h⟩ := gd_E h
  obtain ⟨M_3, eM_3, h⟩ := lt_E h
  refine r_iast C.1 (cK C (by decide)) (cS C (sh_16)) 0 (cT0 C) q_2 eM_3 dX1_fillVouchers_78 ?_
  obtain ⟨y_4, ey_4, h⟩ := lt_E h
  refine r_iinc C.1 2 [(2, .int y_4), (0, .ref (x_ad x 17)), (1, .ref (x_ad x 16)), (3, .int x3), (4, .int x4)] dX1_fillVouchers_79 rfl ey_4 (by decide) rfl ?_
  exact r_sub [1, 2, 0, 3] rfl (w_X1_fillVouchers_82 C M_3 y_4 x3 _ h kh ke_0)

def bl_X1_fillVouchers_27 (M : xM) (x2 : Int32) (x3 : Int32) (x4 : Int32) : Option ((xM × Int32) ⊕ (xM × Int32)) :=
  if x4 ≤ 0 then some (.inr (M, x4)) else gd (x4 - (1 : Int32)) 40 (gd x3 40 (if (M 16 (x4 - (1 : Int32)).toNatClampNeg) ≤ (M (45 + x3.toNatClampNeg) 5) then some (.inr (M, x4)) else gd (x4 - (1 : Int32)) 40 (gd x4 40 (lt (uM M 16 x4.toNatClampNeg (M 16 (x4 - (1 : Int32)).toNatClampNeg)) (fun M_7 => lt (x4 + (-1 : Int32)) (fun y_8 => some (.inl (M_7, y_8))))))))
set_option maxRecDepth 20000 in
set_option maxHeartbeats 2000000 in
theorem wl_X1_fillVouchers_27 {x : xC} (C : CtC x RX1 cX1_fillVouchers 5 ({ frames := 0, cells := 0, slots := 0, locals := 0 } : Room)) (M : xM) (x2 : Int32) (x3 : Int32) (x4 : Int32)  (o : (xM × Int32) ⊕ (xM × Int32)) (h : bl_X1_fillVouchers_27 M x2 x3 x4 = some o) (kh : ∀ s : xM × Int32, o = .inl s → J x s.1 27 [(0, .ref (x_ad x 17)), (1, .ref (x_ad x 16)), (2, .int x2), (3, .int x3), (4, .int s.2)] []) (ke_0 : ∀ v : xM × Int32, o = .inr v → J x v.1 66 [(0, .ref (x_ad x 17)), (1, .ref (x_ad x 16)), (2, .int x2), (3, .int x3), (4, .int v.2)] []) : J x M 27 [(0, .ref (x_ad x 17)), (1, .ref (x_ad x 16)), (2, .int x2), (3, .int x3), (4, .int x4)] [] := by
  unfold bl_X1_fillVouchers_27 at h
  refine r_iload C.1 4 dX1_fillVouchers_27 rfl ?_
  refine r_if_le C.1 66 dX1_fillVouchers_29 (by decide) (fun c_1 => ?_) (fun c_1 => ?_)
  · replace h := ite_T c_1 h
    exact r_sub [0, 1, 2, 3, 4] rfl (ke_0 _ (Option.some.inj h).symm)
  · replace h := ite_F c_1 h
    refine r_aload_n C.1 1 dX1_fillVouchers_32 rfl rfl ?_
    refine r_iload C.1 4 dX1_fillVouchers_33 rfl ?_
    refine r_iconst (v := 1) C.1 dX1_fillVouchers_35 rfl ?_
    refine r_isub C.1 dX1_fillVouchers_36 ?_
    obtain ⟨q_2, h⟩ := gd_E h
    refine r_iald C.1 (cK C (by decide)) (cS C (sh_16)) 0 (cT0 C) q_2 dX1_fillVouchers_37 ?_
    refine r_aload_n C.1 0 dX1_fillVouchers_38 rfl rfl ?_
    refine gf_X1_40_17 C dX1_fillVouchers_39 ?_
    refine r_iload_n C.1 3 dX1_fillVouchers_42 rfl rfl ?_
    obtain ⟨q_3, h⟩ := gd_E h
    refine r_aldq C.1 (cK C (by decide)) (cS C (sh_21)) 3 (cT3 C) q_3 (y := x_ad x (45 + x3.toNatClampNeg)) rfl dX1_fillVouchers_43 ?_
    refine gfk_X1_118 C (kE_17 (vp_lt q_3)) dX1_fillVouchers_44 ?_
    refine r_icmp_le C.1 66 dX1_fillVouchers_47 (by decide) (fun c_4 => ?_) (fun c_4 => ?_)
    · replace h := ite_T c_4 h
      exact r_sub [0, 1, 2, 3, 4] rfl (ke_0 _ (Option.some.inj h).symm)
    · replace h := ite_F c_4 h
      refine r_aload_n C.1 1 dX1_fillVouchers_50 rfl rfl ?_
      refine r_iload C.1 4 dX1_fillVouchers_51 rfl ?_
      refine r_aload_n C.1 1 dX1_fillVouchers_53 rfl rfl ?_
      refine r_iload C.1 4 dX1_fillVouchers_54 rfl ?_
      refine r_iconst (v := 1) C.1 dX1_fillVouchers_56 rfl ?_
      refine r_isub C.1 dX1_fillVouchers_57 ?_
      obtain ⟨q_5, h⟩ := gd_E h
      refine r_iald C.1 (cK C (by decide)) (cS C (sh_16)) 0 (cT0 C) q_5 dX1_fillVouchers_58 ?_
      obtain ⟨q_6, h⟩ := gd_E h
      obtain ⟨M_7, eM_7, h⟩ := lt_E h
      refine r_iast C.1 (cK C (by decide)) (cS C (sh_16)) 0 (cT0 C) q_6 eM_7 dX1_fillVouchers_59 ?_
      obtain ⟨y_8, ey_8, h⟩ := lt_E h
      refine r_iinc C.1 4 [(4, .int y_8), (0, .ref (x_ad x 17)), (1, .ref (x_ad x 16)), (2, .int x2), (3, .int x3)] dX1_fillVouchers_60 rfl ey_8 (by decide) rfl ?_
      refine r_goto C.1 27 dX1_fillVouchers_63 (by decide) ?_
      exact r_sub [1, 2, 3, 4, 0] rfl (kh _ (Option.some.inj h).symm)

def b_X1_fillVouchers_27 (M : xM) (x2 : Int32) (x3 : Int32) (x4 : Int32) : Option ((xM × Int32 × Int32) ⊕ (xM × Int32)) :=
  bd (loopN (fun s : xM × Int32 => bl_X1_fillVouchers_27 s.1 x2 x3 s.2) BG (M, x4)) (fun v => b_X1_fillVouchers_66 v.1 x2 x3 v.2)
set_option maxRecDepth 20000 in
set_option maxHeartbeats 2000000 in
theorem w_X1_fillVouchers_27 {x : xC} (C : CtC x RX1 cX1_fillVouchers 5 ({ frames := 0, cells := 0, slots := 0, locals := 0 } : Room)) (M : xM) (x2 : Int32) (x3 : Int32) (x4 : Int32)  (o : (xM × Int32 × Int32) ⊕ (xM × Int32)) (h : b_X1_fillVouchers_27 M x2 x3 x4 = some o) (kh : ∀ s : xM × Int32 × Int32, o = .inl s → J x s.1 4 [(0, .ref (x_ad x 17)), (1, .ref (x_ad x 16)), (2, .int s.2.1), (3, .int s.2.2)] []) (ke_0 : ∀ v : xM × Int32, o = .inr v → J x v.1 88 [(2, .int v.2)] []) : J x M 27 [(0, .ref (x_ad x 17)), (1, .ref (x_ad x 16)), (2, .int x2), (3, .int x3), (4, .int x4)] [] := by
  unfold b_X1_fillVouchers_27 at h
  obtain ⟨r_0, hr_0, h⟩ := bd_E h
  refine loopN_ind (JJ := fun s => J x s.1 27 [(0, .ref (x_ad x 17)), (1, .ref (x_ad x 16)), (2, .int x2), (3, .int x3), (4, .int s.2)] []) (KX := fun q => q = r_0) ?_ BG (M, x4) r_0 hr_0 rfl
  intro s o1 hb kk1 kk2
  refine wl_X1_fillVouchers_27 C s.1 x2 x3 s.2 _ hb kk1 ?_
  · intro v e0
    have e1 := kk2 _ e0
    subst e1
    exact r_sub [0, 1, 2, 3, 4] rfl (w_X1_fillVouchers_66 C v.1 x2 x3 v.2 _ h kh ke_0)

def bl_X1_fillVouchers_4 (M : xM) (x2 : Int32) (x3 : Int32) : Option ((xM × Int32 × Int32) ⊕ (xM × Int32)) :=
  if (M 17 5) ≤ x3 then some (.inr (M, x2)) else gd x3 40 (if (M (45 + x3.toNatClampNeg) 6) = 0 then b_X1_fillVouchers_82 M x2 x3 else b_X1_fillVouchers_27 M x2 x3 x2)
set_option maxRecDepth 20000 in
set_option maxHeartbeats 2000000 in
theorem wl_X1_fillVouchers_4 {x : xC} (C : CtC x RX1 cX1_fillVouchers 5 ({ frames := 0, cells := 0, slots := 0, locals := 0 } : Room)) (M : xM) (x2 : Int32) (x3 : Int32)  (o : (xM × Int32 × Int32) ⊕ (xM × Int32)) (h : bl_X1_fillVouchers_4 M x2 x3 = some o) (kh : ∀ s : xM × Int32 × Int32, o = .inl s → J x s.1 4 [(0, .ref (x_ad x 17)), (1, .ref (x_ad x 16)), (2, .int s.2.1), (3, .int s.2.2)] []) (ke_0 : ∀ v : xM × Int32, o = .inr v → J x v.1 88 [(2, .int v.2)] []) : J x M 4 [(0, .ref (x_ad x 17)), (1, .ref (x_ad x 16)), (2, .int x2), (3, .int x3)] [] := by
  unfold bl_X1_fillVouchers_4 at h
  refine r_iload_n C.1 3 dX1_fillVouchers_4 rfl rfl ?_
  refine r_aload_n C.1 0 dX1_fillVouchers_5 rfl rfl ?_
  refine gf_X1_35_17 C dX1_fillVouchers_6 ?_
  refine r_icmp_ge C.1 88 dX1_fillVouchers_9 (by decide) (fun c_1 => ?_) (fun c_1 => ?_)
  · replace h := ite_T c_1 h
    exact r_sub [2] rfl (ke_0 _ (Option.some.inj h).symm)
  · replace h := ite_F c_1 h
    refine r_aload_n C.1 0 dX1_fillVouchers_12 rfl rfl ?_
    refine gf_X1_40_17 C dX1_fillVouchers_13 ?_
    refine r_iload_n C.1 3 dX1_fillVouchers_16 rfl rfl ?_
    obtain ⟨q_2, h⟩ := gd_E h
    refine r_aldq C.1 (cK C (by decide)) (cS C (sh_21)) 3 (cT3 C) q_2 (y := x_ad x (45 + x3.toNatClampNeg)) rfl dX1_fillVouchers_17 ?_
    refine gfk_X1_202 C (kE_17 (vp_lt q_2)) dX1_fillVouchers_18 ?_
    refine r_if_eq C.1 82 dX1_fillVouchers_21 (by decide) (fun c_3 => ?_) (fun c_3 => ?_)
    · replace h := ite_T c_3 h
      exact r_sub [0, 1, 2, 3] rfl (w_X1_fillVouchers_82 C M x2 x3 _ h kh ke_0)
    · replace h := ite_F c_3 h
      refine r_iload_n C.1 2 dX1_fillVouchers_24 rfl rfl ?_
      refine r_istore C.1 [(4, .int x2), (0, .ref (x_ad x 17)), (1, .ref (x_ad x 16)), (2, .int x2), (3, .int x3)] dX1_fillVouchers_25 (by decide) rfl rfl ?_
      exact r_sub [1, 2, 3, 4, 0] rfl (w_X1_fillVouchers_27 C M x2 x3 x2 _ h kh ke_0)

def b_X1_fillVouchers_4 (M : xM) (x2 : Int32) (x3 : Int32) : Option (Int32 × xM) :=
  bd (loopN (fun s : xM × Int32 × Int32 => bl_X1_fillVouchers_4 s.1 s.2.1 s.2.2) BG (M, x2, x3)) (fun v => some (v.2, v.1))
set_option maxRecDepth 20000 in
set_option maxHeartbeats 2000000 in
theorem w_X1_fillVouchers_4 {x : xC} (C : CtC x RX1 cX1_fillVouchers 5 ({ frames := 0, cells := 0, slots := 0, locals := 0 } : Room)) (M : xM) (x2 : Int32) (x3 : Int32)  (o : Int32 × xM) (h : b_X1_fillVouchers_4 M x2 x3 = some o) (hr : (x_me x).sig.returnType = some .int) (ev : x_rv x = some (.int o.1)) (eM : x_M x = o.2) : J x M 4 [(0, .ref (x_ad x 17)), (1, .ref (x_ad x 16)), (2, .int x2), (3, .int x3)] [] := by
  unfold b_X1_fillVouchers_4 at h
  obtain ⟨r_0, hr_0, h⟩ := bd_E h
  refine loopN_ind (JJ := fun s => J x s.1 4 [(0, .ref (x_ad x 17)), (1, .ref (x_ad x 16)), (2, .int s.2.1), (3, .int s.2.2)] []) (KX := fun q => q = r_0) ?_ BG (M, x2, x3) r_0 hr_0 rfl
  intro s o1 hb kk1 kk2
  refine wl_X1_fillVouchers_4 C s.1 s.2.1 s.2.2 _ hb kk1 ?_
  · intro v e0
    have e1 := kk2 _ e0
    subst e1
    refine r_iload_n C.1 0 dX1_fillVouchers_88 rfl rfl ?_
    obtain rfl := Option.some.inj h
    exact r_iret C.1 hr ev eM dX1_fillVouchers_89

def b_X1_fillVouchers_0 (M : xM)  : Option (Int32 × xM) :=
  b_X1_fillVouchers_4 M (0 : Int32) (0 : Int32)
set_option maxRecDepth 20000 in
set_option maxHeartbeats 2000000 in
theorem w_X1_fillVouchers_0 {x : xC} (C : CtC x RX1 cX1_fillVouchers 5 ({ frames := 0, cells := 0, slots := 0, locals := 0 } : Room)) (M : xM)   (o : Int32 × xM) (h : b_X1_fillVouchers_0 M = some o) (hr : (x_me x).sig.returnType = some .int) (ev : x_rv x = some (.int o.1)) (eM : x_M x = o.2) : J x M 0 [(0, .ref (x_ad x 17)), (1, .ref (x_ad x 16))] [] := by
  unfold b_X1_fillVouchers_0 at h
  refine r_iconst (v := 0) C.1 dX1_fillVouchers_0 rfl ?_
  refine r_istore_n C.1 [(2, .int (0 : Int32)), (0, .ref (x_ad x 17)), (1, .ref (x_ad x 16))] dX1_fillVouchers_1 rfl (by decide) rfl rfl ?_
  refine r_iconst (v := 0) C.1 dX1_fillVouchers_2 rfl ?_
  refine r_istore_n C.1 [(3, .int (0 : Int32)), (2, .int (0 : Int32)), (0, .ref (x_ad x 17)), (1, .ref (x_ad x 16))] dX1_fillVouchers_3 rfl (by decide) rfl rfl ?_
  exact r_sub [2, 3, 1, 0] rfl (w_X1_fillVouchers_4 C M (0 : Int32) (0 : Int32) _ h hr ev eM)
def f_X1_fillVouchers (M : xM)  : Option (Int32 × xM) := b_X1_fillVouchers_0 M 
set_option maxRecDepth 20000 in
theorem m_X1_fillVouchers (l : Launch) (D : va_G) (ad : Nat → Nat) (M : xM)   {r : Int32} {M1 : xM} (h : f_X1_fillVouchers M = some (r, M1)) : xMetC l yX1_fillVouchers cX1_fillVouchers 5 (some .int) ({ frames := 0, cells := 0, slots := 0, locals := 0 } : Room) [.ref (ad 17), .ref (ad 16)] D ad M (some (.int r)) M1 := by
  refine xMetC_of (own := RX1) (by decide) rfl (Nat.le_of_ble_eq_true rfl) ?_
  intro x C e1 e2 e3 ev eM hr
  subst e1; subst e2; subst e3
  refine r_sub (L := [(0, .ref (x_ad x 17)), (1, .ref (x_ad x 16))]) (L' := [(0, .ref (x_ad x 17)), (1, .ref (x_ad x 16))]) [0, 1] rfl ?_
  exact w_X1_fillVouchers_0 C M _ h hr ev eM

def b_X2_effectOnMoney_0 (M : xM) (k0 : Nat) : Option (Int32) :=
  bd (f_X2_effectOnEstate M k0) (fun r_1 => bd (f_X2_part M k0 (4 : Int32)) (fun r_3 => some (r_1 - r_3)))
set_option maxRecDepth 20000 in
set_option maxHeartbeats 2000000 in
theorem w_X2_effectOnMoney_0 {x : xC} (C : CtC x RX2 cX2_effectOnMoney 1 ({ frames := 1, cells := 0, slots := 0, locals := 21 } : Room)) (M : xM) (k0 : Nat) (h0 : KE k0) (o : Int32) (h : b_X2_effectOnMoney_0 M k0 = some o) (hr : (x_me x).sig.returnType = some .int) (ev : x_rv x = some (.int o)) (eM : x_M x = M) : J x M 0 [(0, .ref (x_ad x k0))] [] := by
  unfold b_X2_effectOnMoney_0 at h
  refine r_aload_n C.1 0 dX2_effectOnMoney_0 rfl rfl ?_
  obtain ⟨r_1, hc_2, h⟩ := bd_E h
  refine cl_X2_44 C h0 ⟨Nat.le_of_ble_eq_true rfl, Nat.le_of_ble_eq_true rfl⟩ (m_X2_effectOnEstate _ _ _ M k0 h0 hc_2) (Nat.le_of_ble_eq_true rfl) dX2_effectOnMoney_1 ?_
  refine r_aload_n C.1 0 dX2_effectOnMoney_4 rfl rfl ?_
  refine r_iconst (v := 4) C.1 dX2_effectOnMoney_5 rfl ?_
  obtain ⟨r_3, hc_4, h⟩ := bd_E h
  refine cl_X2_48 C h0 ⟨Nat.le_of_ble_eq_true rfl, Nat.le_of_ble_eq_true rfl⟩ (m_X2_part _ _ _ M k0 (4 : Int32) h0 hc_4) (Nat.le_of_ble_eq_true rfl) dX2_effectOnMoney_6 ?_
  refine r_isub C.1 dX2_effectOnMoney_9 ?_
  obtain rfl := Option.some.inj h
  exact r_iret C.1 hr ev eM dX2_effectOnMoney_10
def f_X2_effectOnMoney (M : xM) (k0 : Nat) : Option (Int32) := b_X2_effectOnMoney_0 M k0
set_option maxRecDepth 20000 in
theorem m_X2_effectOnMoney (l : Launch) (D : va_G) (ad : Nat → Nat) (M : xM) (k0 : Nat) (h0 : KE k0) {o : Int32} (h : f_X2_effectOnMoney M k0 = some o) : xMetC l yX2_effectOnMoney cX2_effectOnMoney 1 (some .int) ({ frames := 1, cells := 0, slots := 0, locals := 21 } : Room) [.ref (ad k0)] D ad M (some (.int o)) M := by
  refine xMetC_of (own := RX2) (by decide) rfl (Nat.le_of_ble_eq_true rfl) ?_
  intro x C e1 e2 e3 ev eM hr
  subst e1; subst e2; subst e3
  refine r_sub (L := [(0, .ref (x_ad x k0))]) (L' := [(0, .ref (x_ad x k0))]) [0] rfl ?_
  exact w_X2_effectOnMoney_0 C M k0 h0 _ h hr ev eM

def b_X4_tryDay_100 (M : xM)  : Option (xM) :=
  some M
set_option maxRecDepth 20000 in
set_option maxHeartbeats 2000000 in
theorem w_X4_tryDay_100 {x : xC} (C : CtC x RX4 cX4_tryDay 7 ({ frames := 2, cells := 0, slots := 0, locals := 47 } : Room)) (M : xM)   (o : xM) (h : b_X4_tryDay_100 M = some o) (hr : (x_me x).sig.returnType = none) (ev : x_rv x = none) (eM : x_M x = o) : J x M 100 [] [] := by
  unfold b_X4_tryDay_100 at h
  obtain rfl := Option.some.inj h
  exact r_vret C.1 hr ev eM dX4_tryDay_100

def b_X4_tryDay_89 (M : xM) (x3 : Int32) (x5 : Int32) : Option (xM) :=
  lt (uM M 15 1 x5) (fun M_1 => lt (uM M_1 15 0 x3) (fun M_2 => b_X4_tryDay_100 M_2))
set_option maxRecDepth 20000 in
set_option maxHeartbeats 2000000 in
theorem w_X4_tryDay_89 {x : xC} (C : CtC x RX4 cX4_tryDay 7 ({ frames := 2, cells := 0, slots := 0, locals := 47 } : Room)) (M : xM) (x3 : Int32) (x5 : Int32)  (o : xM) (h : b_X4_tryDay_89 M x3 x5 = some o) (hr : (x_me x).sig.returnType = none) (ev : x_rv x = none) (eM : x_M x = o) : J x M 89 [(0, .ref (x_ad x 15)), (3, .int x3), (5, .int x5)] [] := by
  unfold b_X4_tryDay_89 at h
  refine r_aload_n C.1 0 dX4_tryDay_89 rfl rfl ?_
  refine r_iload C.1 2 dX4_tryDay_90 rfl ?_
  obtain ⟨M_1, eM_1, h⟩ := lt_E h
  refine pf_X4_15 C eM_1 dX4_tryDay_92 ?_
  refine r_aload_n C.1 0 dX4_tryDay_95 rfl rfl ?_
  refine r_iload_n C.1 1 dX4_tryDay_96 rfl rfl ?_
  obtain ⟨M_2, eM_2, h⟩ := lt_E h
  refine pf_X4_9 C eM_2 dX4_tryDay_97 ?_
  exact r_sub [] rfl (w_X4_tryDay_100 C M_2 _ h hr ev eM)

def b_X4_tryDay_49 (M : xM) (x2 : Int32) (x3 : Int32) (x5 : Int32) (x6 : Int32) : Option ((Int32 × Int32) ⊕ (Int32)) :=
  lt (x6 + (1 : Int32)) (fun y_1 => some (.inl (x5, y_1)))
set_option maxRecDepth 20000 in
set_option maxHeartbeats 2000000 in
theorem w_X4_tryDay_49 {x : xC} (C : CtC x RX4 cX4_tryDay 7 ({ frames := 2, cells := 0, slots := 0, locals := 47 } : Room)) (M : xM) (x2 : Int32) (x3 : Int32) (x5 : Int32) (x6 : Int32)  (o : (Int32 × Int32) ⊕ (Int32)) (h : b_X4_tryDay_49 M x2 x3 x5 x6 = some o) (kh : ∀ s : Int32 × Int32, o = .inl s → J x M 13 [(0, .ref (x_ad x 15)), (1, .ref (x_ad x 17)), (2, .int x2), (3, .int x3), (5, .int s.1), (6, .int s.2)] []) (ke_0 : ∀ v : Int32, o = .inr v → J x M 55 [(0, .ref (x_ad x 15)), (3, .int x3), (5, .int v)] []) : J x M 49 [(0, .ref (x_ad x 15)), (1, .ref (x_ad x 17)), (2, .int x2), (3, .int x3), (5, .int x5), (6, .int x6)] [] := by
  unfold b_X4_tryDay_49 at h
  obtain ⟨y_1, ey_1, h⟩ := lt_E h
  refine r_iinc C.1 5 [(6, .int y_1), (0, .ref (x_ad x 15)), (1, .ref (x_ad x 17)), (2, .int x2), (3, .int x3), (5, .int x5)] dX4_tryDay_49 rfl ey_1 (by decide) rfl ?_
  refine r_goto C.1 13 dX4_tryDay_52 (by decide) ?_
  exact r_sub [1, 2, 3, 4, 5, 0] rfl (kh _ (Option.some.inj h).symm)

def bl_X4_tryDay_13 (M : xM) (x2 : Int32) (x3 : Int32) (x5 : Int32) (x6 : Int32) : Option ((Int32 × Int32) ⊕ (Int32)) :=
  if (M 17 3) ≤ x6 then some (.inr x5) else gd x6 4 (bd (f_X8_guardianOn M (25 + 5 * x6.toNatClampNeg) x3) (fun r_3 => if r_3 = x2 then bd (f_X1_estateOn M x6 x3) (fun r_6 => lt (x5 + r_6) (fun y_8 => b_X4_tryDay_49 M x2 x3 y_8 x6)) else b_X4_tryDay_49 M x2 x3 x5 x6))
set_option maxRecDepth 20000 in
set_option maxHeartbeats 2000000 in
theorem wl_X4_tryDay_13 {x : xC} (C : CtC x RX4 cX4_tryDay 7 ({ frames := 2, cells := 0, slots := 0, locals := 47 } : Room)) (M : xM) (x2 : Int32) (x3 : Int32) (x5 : Int32) (x6 : Int32)  (o : (Int32 × Int32) ⊕ (Int32)) (h : bl_X4_tryDay_13 M x2 x3 x5 x6 = some o) (kh : ∀ s : Int32 × Int32, o = .inl s → J x M 13 [(0, .ref (x_ad x 15)), (1, .ref (x_ad x 17)), (2, .int x2), (3, .int x3), (5, .int s.1), (6, .int s.2)] []) (ke_0 : ∀ v : Int32, o = .inr v → J x M 55 [(0, .ref (x_ad x 15)), (3, .int x3), (5, .int v)] []) : J x M 13 [(0, .ref (x_ad x 15)), (1, .ref (x_ad x 17)), (2, .int x2), (3, .int x3), (5, .int x5), (6, .int x6)] [] := by
  unfold bl_X4_tryDay_13 at h
  refine r_iload C.1 5 dX4_tryDay_13 rfl ?_
  refine r_aload_n C.1 1 dX4_tryDay_15 rfl rfl ?_
  refine gf_X4_38_17 C dX4_tryDay_16 ?_
  refine r_icmp_ge C.1 55 dX4_tryDay_19 (by decide) (fun c_1 => ?_) (fun c_1 => ?_)
  · replace h := ite_T c_1 h
    exact r_sub [0, 3, 4] rfl (ke_0 _ (Option.some.inj h).symm)
  · replace h := ite_F c_1 h
    refine r_aload_n C.1 1 dX4_tryDay_22 rfl rfl ?_
    refine gf_X4_41_17 C dX4_tryDay_23 ?_
    refine r_iload C.1 5 dX4_tryDay_26 rfl ?_
    obtain ⟨q_2, h⟩ := gd_E h
    refine r_aldq C.1 (cK C (by decide)) (cS C (sh_20)) 2 (cT2 C) q_2 (y := x_ad x (25 + 5 * x6.toNatClampNeg)) rfl dX4_tryDay_28 ?_
    refine r_iload_n C.1 3 dX4_tryDay_29 rfl rfl ?_
    obtain ⟨r_3, hc_4, h⟩ := bd_E h
    refine cl_X4_54 C (kW_17 (vp_lt q_2)) ⟨Nat.le_of_ble_eq_true rfl, Nat.le_of_ble_eq_true rfl⟩ (m_X8_guardianOn _ _ _ M (25 + 5 * x6.toNatClampNeg) x3 (kW_17 (vp_lt q_2)) hc_4) (Nat.le_of_ble_eq_true rfl) dX4_tryDay_30 ?_
    refine r_iload_n C.1 2 dX4_tryDay_33 rfl rfl ?_
    refine r_icmp_ne C.1 49 dX4_tryDay_34 (by decide) (fun c_5 => ?_) (fun c_5 => ?_)
    · replace h := ite_F c_5 h
      exact r_sub [0, 1, 2, 3, 4, 5] rfl (w_X4_tryDay_49 C M x2 x3 x5 x6 _ h kh ke_0)
    · replace h := ite_T c_5 h
      refine r_iload C.1 4 dX4_tryDay_37 rfl ?_
      refine r_aload_n C.1 1 dX4_tryDay_39 rfl rfl ?_
      refine r_iload C.1 5 dX4_tryDay_40 rfl ?_
      refine r_iload_n C.1 3 dX4_tryDay_42 rfl rfl ?_
      obtain ⟨r_6, hc_7, h⟩ := bd_E h
      refine cl_X4_57 C ⟨Nat.le_of_ble_eq_true rfl, Nat.le_of_ble_eq_true rfl⟩ (m_X1_estateOn _ _ _ M x6 x3 hc_7) (Nat.le_of_ble_eq_true rfl) dX4_tryDay_43 ?_
      refine r_iadd C.1 dX4_tryDay_46 ?_
      obtain ⟨y_8, ey_8, h⟩ := lt_E h
      refine r_istore C.1 [(5, .int y_8), (0, .ref (x_ad x 15)), (1, .ref (x_ad x 17)), (2, .int x2), (3, .int x3), (6, .int x6)] dX4_tryDay_47 (by decide) ey_8 rfl ?_
      exact r_sub [1, 2, 3, 4, 0, 5] rfl (w_X4_tryDay_49 C M x2 x3 y_8 x6 _ h kh ke_0)

def b_X4_tryDay_13 (M : xM) (x2 : Int32) (x3 : Int32) (x5 : Int32) (x6 : Int32) : Option (xM) :=
  bd (loopN (fun s : Int32 × Int32 => bl_X4_tryDay_13 M x2 x3 s.1 s.2) BG (x5, x6)) (fun v => if (M 15 0) = (-1 : Int32) then b_X4_tryDay_89 M x3 v else if (M 15 1) < v then b_X4_tryDay_89 M x3 v else if v = (M 15 1) then if (M 15 0) ≤ x3 then b_X4_tryDay_100 M else b_X4_tryDay_89 M x3 v else b_X4_tryDay_100 M)
set_option maxRecDepth 20000 in
set_option maxHeartbeats 2000000 in
theorem w_X4_tryDay_13 {x : xC} (C : CtC x RX4 cX4_tryDay 7 ({ frames := 2, cells := 0, slots := 0, locals := 47 } : Room)) (M : xM) (x2 : Int32) (x3 : Int32) (x5 : Int32) (x6 : Int32)  (o : xM) (h : b_X4_tryDay_13 M x2 x3 x5 x6 = some o) (hr : (x_me x).sig.returnType = none) (ev : x_rv x = none) (eM : x_M x = o) : J x M 13 [(0, .ref (x_ad x 15)), (1, .ref (x_ad x 17)), (2, .int x2), (3, .int x3), (5, .int x5), (6, .int x6)] [] := by
  unfold b_X4_tryDay_13 at h
  obtain ⟨r_0, hr_0, h⟩ := bd_E h
  refine loopN_ind (JJ := fun s => J x M 13 [(0, .ref (x_ad x 15)), (1, .ref (x_ad x 17)), (2, .int x2), (3, .int x3), (5, .int s.1), (6, .int s.2)] []) (KX := fun q => q = r_0) ?_ BG (x5, x6) r_0 hr_0 rfl
  intro s o1 hb kk1 kk2
  refine wl_X4_tryDay_13 C M x2 x3 s.1 s.2 _ hb kk1 ?_
  · intro v e0
    have e1 := kk2 _ e0
    subst e1
    refine r_aload_n C.1 0 dX4_tryDay_55 rfl rfl ?_
    refine gf_X4_9 C dX4_tryDay_56 ?_
    refine r_iconst (v := -1) C.1 dX4_tryDay_59 rfl ?_
    refine r_icmp_eq C.1 89 dX4_tryDay_60 (by decide) (fun c_1 => ?_) (fun c_1 => ?_)
    · replace h := ite_T c_1 h
      exact r_sub [0, 1, 2] rfl (w_X4_tryDay_89 C M x3 v _ h hr ev eM)
    · replace h := ite_F c_1 h
      refine r_iload C.1 2 dX4_tryDay_63 rfl ?_
      refine r_aload_n C.1 0 dX4_tryDay_65 rfl rfl ?_
      refine gf_X4_15 C dX4_tryDay_66 ?_
      refine r_icmp_gt C.1 89 dX4_tryDay_69 (by decide) (fun c_2 => ?_) (fun c_2 => ?_)
      · replace h := ite_T c_2 h
        exact r_sub [0, 1, 2] rfl (w_X4_tryDay_89 C M x3 v _ h hr ev eM)
      · replace h := ite_F c_2 h
        refine r_iload C.1 2 dX4_tryDay_72 rfl ?_
        refine r_aload_n C.1 0 dX4_tryDay_74 rfl rfl ?_
        refine gf_X4_15 C dX4_tryDay_75 ?_
        refine r_icmp_ne C.1 100 dX4_tryDay_78 (by decide) (fun c_3 => ?_) (fun c_3 => ?_)
        · replace h := ite_F c_3 h
          exact r_sub [] rfl (w_X4_tryDay_100 C M _ h hr ev eM)
        · replace h := ite_T c_3 h
          refine r_iload_n C.1 1 dX4_tryDay_81 rfl rfl ?_
          refine r_aload_n C.1 0 dX4_tryDay_82 rfl rfl ?_
          refine gf_X4_9 C dX4_tryDay_83 ?_
          refine r_icmp_ge C.1 100 dX4_tryDay_86 (by decide) (fun c_4 => ?_) (fun c_4 => ?_)
          · replace h := ite_T c_4 h
            exact r_sub [] rfl (w_X4_tryDay_100 C M _ h hr ev eM)
          · replace h := ite_F c_4 h
            exact r_sub [0, 1, 2] rfl (w_X4_tryDay_89 C M x3 v _ h hr ev eM)

def b_X4_tryDay_0 (M : xM) (x2 : Int32) (x3 : Int32) (x4 : Int32) : Option (xM) :=
  if x3 ≤ x4 then b_X4_tryDay_13 M x2 x3 (0 : Int32) (0 : Int32) else some M
set_option maxRecDepth 20000 in
set_option maxHeartbeats 2000000 in
theorem w_X4_tryDay_0 {x : xC} (C : CtC x RX4 cX4_tryDay 7 ({ frames := 2, cells := 0, slots := 0, locals := 47 } : Room)) (M : xM) (x2 : Int32) (x3 : Int32) (x4 : Int32)  (o : xM) (h : b_X4_tryDay_0 M x2 x3 x4 = some o) (hr : (x_me x).sig.returnType = none) (ev : x_rv x = none) (eM : x_M x = o) : J x M 0 [(0, .ref (x_ad x 15)), (1, .ref (x_ad x 17)), (2, .int x2), (3, .int x3), (4, .int x4)] [] := by
  unfold b_X4_tryDay_0 at h
  refine r_iload_n C.1 3 dX4_tryDay_0 rfl rfl ?_
  refine r_iload C.1 4 dX4_tryDay_1 rfl ?_
  refine r_icmp_le C.1 7 dX4_tryDay_3 (by decide) (fun c_1 => ?_) (fun c_1 => ?_)
  · replace h := ite_T c_1 h
    refine r_iconst (v := 0) C.1 dX4_tryDay_7 rfl ?_
    refine r_istore C.1 [(5, .int (0 : Int32)), (0, .ref (x_ad x 15)), (1, .ref (x_ad x 17)), (2, .int x2), (3, .int x3), (4, .int x4)] dX4_tryDay_8 (by decide) rfl rfl ?_
    refine r_iconst (v := 0) C.1 dX4_tryDay_10 rfl ?_
    refine r_istore C.1 [(6, .int (0 : Int32)), (5, .int (0 : Int32)), (0, .ref (x_ad x 15)), (1, .ref (x_ad x 17)), (2, .int x2), (3, .int x3), (4, .int x4)] dX4_tryDay_11 (by decide) rfl rfl ?_
    exact r_sub [2, 3, 4, 5, 1, 0] rfl (w_X4_tryDay_13 C M x2 x3 (0 : Int32) (0 : Int32) _ h hr ev eM)
  · replace h := ite_F c_1 h
    obtain rfl := Option.some.inj h
    exact r_vret C.1 hr ev eM dX4_tryDay_6
def f_X4_tryDay (M : xM) (x2 : Int32) (x3 : Int32) (x4 : Int32) : Option (xM) := b_X4_tryDay_0 M x2 x3 x4
set_option maxRecDepth 20000 in
theorem m_X4_tryDay (l : Launch) (D : va_G) (ad : Nat → Nat) (M : xM) (x2 : Int32) (x3 : Int32) (x4 : Int32)  {o : xM} (h : f_X4_tryDay M x2 x3 x4 = some o) : xMetC l yX4_tryDay cX4_tryDay 7 none ({ frames := 2, cells := 0, slots := 0, locals := 47 } : Room) [.ref (ad 15), .ref (ad 17), .int x2, .int x3, .int x4] D ad M none o := by
  refine xMetC_of (own := RX4) (by decide) rfl (Nat.le_of_ble_eq_true rfl) ?_
  intro x C e1 e2 e3 ev eM hr
  subst e1; subst e2; subst e3
  refine r_sub (L := [(0, .ref (x_ad x 15)), (1, .ref (x_ad x 17)), (2, .int x2), (3, .int x3), (4, .int x4)]) (L' := [(0, .ref (x_ad x 15)), (1, .ref (x_ad x 17)), (2, .int x2), (3, .int x3), (4, .int x4)]) [0, 1, 2, 3, 4] rfl ?_
  exact w_X4_tryDay_0 C M x2 x3 x4 _ h hr ev eM

def bl_X4_seek_91 (M : xM) (x2 : Int32) (x3 : Int32) (x4 : Int32) (x5 : Int32) : Option ((xM × Int32) ⊕ (xM)) :=
  gd x4 4 (if (M (25 + 5 * x4.toNatClampNeg) 2) ≤ x5 then some (.inr M) else gd x4 4 (gd x5 6 (bd (f_X4_tryDay M x2 (M ((25 + 5 * x4.toNatClampNeg) + 1) x5.toNatClampNeg) x3) (fun M_7 => lt (x5 + (1 : Int32)) (fun y_8 => some (.inl (M_7, y_8)))))))
set_option maxRecDepth 20000 in
set_option maxHeartbeats 2000000 in
theorem wl_X4_seek_91 {x : xC} (C : CtC x RX4 cX4_seek 6 ({ frames := 3, cells := 0, slots := 0, locals := 73 } : Room)) (M : xM) (x2 : Int32) (x3 : Int32) (x4 : Int32) (x5 : Int32)  (o : (xM × Int32) ⊕ (xM)) (h : bl_X4_seek_91 M x2 x3 x4 x5 = some o) (kh : ∀ s : xM × Int32, o = .inl s → J x s.1 91 [(0, .ref (x_ad x 15)), (1, .ref (x_ad x 17)), (2, .int x2), (3, .int x3), (4, .int x4), (5, .int s.2)] []) (ke_0 : ∀ v : xM, o = .inr v → J x v 132 [(0, .ref (x_ad x 15)), (1, .ref (x_ad x 17)), (2, .int x2), (3, .int x3), (4, .int x4)] []) : J x M 91 [(0, .ref (x_ad x 15)), (1, .ref (x_ad x 17)), (2, .int x2), (3, .int x3), (4, .int x4), (5, .int x5)] [] := by
  unfold bl_X4_seek_91 at h
  refine r_iload C.1 5 dX4_seek_91 rfl ?_
  refine r_aload_n C.1 1 dX4_seek_93 rfl rfl ?_
  refine gf_X4_41_17 C dX4_seek_94 ?_
  refine r_iload C.1 4 dX4_seek_97 rfl ?_
  obtain ⟨q_1, h⟩ := gd_E h
  refine r_aldq C.1 (cK C (by decide)) (cS C (sh_20)) 2 (cT2 C) q_1 (y := x_ad x (25 + 5 * x4.toNatClampNeg)) rfl dX4_seek_99 ?_
  refine gfk_X4_45 C (kW_17 (vp_lt q_1)) dX4_seek_100 ?_
  refine r_icmp_ge C.1 132 dX4_seek_103 (by decide) (fun c_2 => ?_) (fun c_2 => ?_)
  · replace h := ite_T c_2 h
    exact r_sub [0, 1, 2, 3, 4] rfl (ke_0 _ (Option.some.inj h).symm)
  · replace h := ite_F c_2 h
    refine r_aload_n C.1 0 dX4_seek_106 rfl rfl ?_
    refine r_aload_n C.1 1 dX4_seek_107 rfl rfl ?_
    refine r_iload_n C.1 2 dX4_seek_108 rfl rfl ?_
    refine r_aload_n C.1 1 dX4_seek_109 rfl rfl ?_
    refine gf_X4_41_17 C dX4_seek_110 ?_
    refine r_iload C.1 4 dX4_seek_113 rfl ?_
    obtain ⟨q_3, h⟩ := gd_E h
    refine r_aldq C.1 (cK C (by decide)) (cS C (sh_20)) 2 (cT2 C) q_3 (y := x_ad x (25 + 5 * x4.toNatClampNeg)) rfl dX4_seek_115 ?_
    refine gfk_X4_50 C (kW_17 (vp_lt q_3)) dX4_seek_116 ?_
    refine r_iload C.1 5 dX4_seek_119 rfl ?_
    obtain ⟨q_4, h⟩ := gd_E h
    refine r_iald C.1 (cK C (kW1 (kW_17 (vp_lt q_3)))) (cS C (sh_W1 (kW_17 (vp_lt q_3)))) 0 (cT0 C) q_4 dX4_seek_121 ?_
    refine r_iload_n C.1 3 dX4_seek_122 rfl rfl ?_
    obtain ⟨M_7, hc_6, h⟩ := bd_E h
    refine cl_X4_18 C ⟨Nat.le_of_ble_eq_true rfl, Nat.le_of_ble_eq_true rfl⟩ (m_X4_tryDay _ _ _ M x2 (M ((25 + 5 * x4.toNatClampNeg) + 1) x5.toNatClampNeg) x3 hc_6) (Nat.le_of_ble_eq_true rfl) dX4_seek_123 ?_
    obtain ⟨y_8, ey_8, h⟩ := lt_E h
    refine r_iinc C.1 5 [(5, .int y_8), (0, .ref (x_ad x 15)), (1, .ref (x_ad x 17)), (2, .int x2), (3, .int x3), (4, .int x4)] dX4_seek_126 rfl ey_8 (by decide) rfl ?_
    refine r_goto C.1 91 dX4_seek_129 (by decide) ?_
    exact r_sub [1, 2, 3, 4, 5, 0] rfl (kh _ (Option.some.inj h).symm)

def b_X4_seek_91 (M : xM) (x2 : Int32) (x3 : Int32) (x4 : Int32) (x5 : Int32) : Option ((xM × Int32) ⊕ (xM)) :=
  bd (loopN (fun s : xM × Int32 => bl_X4_seek_91 s.1 x2 x3 x4 s.2) BG (M, x5)) (fun v => lt (x4 + (1 : Int32)) (fun y_1 => some (.inl (v, y_1))))
set_option maxRecDepth 20000 in
set_option maxHeartbeats 2000000 in
theorem w_X4_seek_91 {x : xC} (C : CtC x RX4 cX4_seek 6 ({ frames := 3, cells := 0, slots := 0, locals := 73 } : Room)) (M : xM) (x2 : Int32) (x3 : Int32) (x4 : Int32) (x5 : Int32)  (o : (xM × Int32) ⊕ (xM)) (h : b_X4_seek_91 M x2 x3 x4 x5 = some o) (kh : ∀ s : xM × Int32, o = .inl s → J x s.1 79 [(0, .ref (x_ad x 15)), (1, .ref (x_ad x 17)), (2, .int x2), (3, .int x3), (4, .int s.2)] []) (ke_0 : ∀ v : xM, o = .inr v → J x v 138 [] []) : J x M 91 [(0, .ref (x_ad x 15)), (1, .ref (x_ad x 17)), (2, .int x2), (3, .int x3), (4, .int x4), (5, .int x5)] [] := by
  unfold b_X4_seek_91 at h
  obtain ⟨r_0, hr_0, h⟩ := bd_E h
  refine loopN_ind (JJ := fun s => J x s.1 91 [(0, .ref (x_ad x 15)), (1, .ref (x_ad x 17)), (2, .int x2), (3, .int x3), (4, .int x4), (5, .int s.2)] []) (KX := fun q => q = r_0) ?_ BG (M, x5) r_0 hr_0 rfl
  intro s o1 hb kk1 kk2
  refine wl_X4_seek_91 C s.1 x2 x3 x4 s.2 _ hb kk1 ?_
  · intro v e0
    have e1 := kk2 _ e0
    subst e1
    obtain ⟨y_1, ey_1, h⟩ := lt_E h
    refine r_iinc C.1 4 [(4, .int y_1), (0, .ref (x_ad x 15)), (1, .ref (x_ad x 17)), (2, .int x2), (3, .int x3)] dX4_seek_132 rfl ey_1 (by decide) rfl ?_
    refine r_goto C.1 79 dX4_seek_135 (by decide) ?_
    exact r_sub [1, 2, 3, 4, 0] rfl (kh _ (Option.some.inj h).symm)

def bl_X4_seek_79 (M : xM) (x2 : Int32) (x3 : Int32) (x4 : Int32) : Option ((xM × Int32) ⊕ (xM)) :=
  if (M 17 3) ≤ x4 then some (.inr M) else b_X4_seek_91 M x2 x3 x4 (0 : Int32)
set_option maxRecDepth 20000 in
set_option maxHeartbeats 2000000 in
theorem wl_X4_seek_79 {x : xC} (C : CtC x RX4 cX4_seek 6 ({ frames := 3, cells := 0, slots := 0, locals := 73 } : Room)) (M : xM) (x2 : Int32) (x3 : Int32) (x4 : Int32)  (o : (xM × Int32) ⊕ (xM)) (h : bl_X4_seek_79 M x2 x3 x4 = some o) (kh : ∀ s : xM × Int32, o = .inl s → J x s.1 79 [(0, .ref (x_ad x 15)), (1, .ref (x_ad x 17)), (2, .int x2), (3, .int x3), (4, .int s.2)] []) (ke_0 : ∀ v : xM, o = .inr v → J x v 138 [] []) : J x M 79 [(0, .ref (x_ad x 15)), (1, .ref (x_ad x 17)), (2, .int x2), (3, .int x3), (4, .int x4)] [] := by
  unfold bl_X4_seek_79 at h
  refine r_iload C.1 4 dX4_seek_79 rfl ?_
  refine r_aload_n C.1 1 dX4_seek_81 rfl rfl ?_
  refine gf_X4_38_17 C dX4_seek_82 ?_
  refine r_icmp_ge C.1 138 dX4_seek_85 (by decide) (fun c_1 => ?_) (fun c_1 => ?_)
  · replace h := ite_T c_1 h
    exact r_sub [] rfl (ke_0 _ (Option.some.inj h).symm)
  · replace h := ite_F c_1 h
    refine r_iconst (v := 0) C.1 dX4_seek_88 rfl ?_
    refine r_istore C.1 [(5, .int (0 : Int32)), (0, .ref (x_ad x 15)), (1, .ref (x_ad x 17)), (2, .int x2), (3, .int x3), (4, .int x4)] dX4_seek_89 (by decide) rfl rfl ?_
    exact r_sub [1, 2, 3, 4, 5, 0] rfl (w_X4_seek_91 C M x2 x3 x4 (0 : Int32) _ h kh ke_0)

def b_X4_seek_79 (M : xM) (x2 : Int32) (x3 : Int32) (x4 : Int32) : Option (xM) :=
  bd (loopN (fun s : xM × Int32 => bl_X4_seek_79 s.1 x2 x3 s.2) BG (M, x4)) (fun v => some v)
set_option maxRecDepth 20000 in
set_option maxHeartbeats 2000000 in
theorem w_X4_seek_79 {x : xC} (C : CtC x RX4 cX4_seek 6 ({ frames := 3, cells := 0, slots := 0, locals := 73 } : Room)) (M : xM) (x2 : Int32) (x3 : Int32) (x4 : Int32)  (o : xM) (h : b_X4_seek_79 M x2 x3 x4 = some o) (hr : (x_me x).sig.returnType = none) (ev : x_rv x = none) (eM : x_M x = o) : J x M 79 [(0, .ref (x_ad x 15)), (1, .ref (x_ad x 17)), (2, .int x2), (3, .int x3), (4, .int x4)] [] := by
  unfold b_X4_seek_79 at h
  obtain ⟨r_0, hr_0, h⟩ := bd_E h
  refine loopN_ind (JJ := fun s => J x s.1 79 [(0, .ref (x_ad x 15)), (1, .ref (x_ad x 17)), (2, .int x2), (3, .int x3), (4, .int s.2)] []) (KX := fun q => q = r_0) ?_ BG (M, x4) r_0 hr_0 rfl
  intro s o1 hb kk1 kk2
  refine wl_X4_seek_79 C s.1 x2 x3 s.2 _ hb kk1 ?_
  · intro v e0
    have e1 := kk2 _ e0
    subst e1
    obtain rfl := Option.some.inj h
    exact r_vret C.1 hr ev eM dX4_seek_138

def bl_X4_seek_51 (M : xM) (x2 : Int32) (x3 : Int32) (x4 : Int32) : Option ((xM × Int32) ⊕ (xM)) :=
  if (10 : Int32) ≤ x4 then some (.inr M) else bd (f_X10_firstDay M x4) (fun r_2 => bd (f_X4_tryDay M x2 r_2 x3) (fun M_6 => lt (x4 + (1 : Int32)) (fun y_7 => some (.inl (M_6, y_7)))))
set_option maxRecDepth 20000 in
set_option maxHeartbeats 2000000 in
theorem wl_X4_seek_51 {x : xC} (C : CtC x RX4 cX4_seek 6 ({ frames := 3, cells := 0, slots := 0, locals := 73 } : Room)) (M : xM) (x2 : Int32) (x3 : Int32) (x4 : Int32)  (o : (xM × Int32) ⊕ (xM)) (h : bl_X4_seek_51 M x2 x3 x4 = some o) (kh : ∀ s : xM × Int32, o = .inl s → J x s.1 51 [(0, .ref (x_ad x 15)), (1, .ref (x_ad x 17)), (2, .int x2), (3, .int x3), (4, .int s.2)] []) (ke_0 : ∀ v : xM, o = .inr v → J x v 76 [(0, .ref (x_ad x 15)), (1, .ref (x_ad x 17)), (2, .int x2), (3, .int x3)] []) : J x M 51 [(0, .ref (x_ad x 15)), (1, .ref (x_ad x 17)), (2, .int x2), (3, .int x3), (4, .int x4)] [] := by
  unfold bl_X4_seek_51 at h
  refine r_iload C.1 4 dX4_seek_51 rfl ?_
  refine r_bipush (v := 10) C.1 dX4_seek_53 (by decide) ?_
  refine r_icmp_ge C.1 76 dX4_seek_55 (by decide) (fun c_1 => ?_) (fun c_1 => ?_)
  · replace h := ite_T c_1 h
    exact r_sub [0, 1, 2, 3] rfl (ke_0 _ (Option.some.inj h).symm)
  · replace h := ite_F c_1 h
    refine r_aload_n C.1 0 dX4_seek_58 rfl rfl ?_
    refine r_aload_n C.1 1 dX4_seek_59 rfl rfl ?_
    refine r_iload_n C.1 2 dX4_seek_60 rfl rfl ?_
    refine r_iload C.1 4 dX4_seek_61 rfl ?_
    obtain ⟨r_2, hc_3, h⟩ := bd_E h
    refine cl_X4_34 C ⟨Nat.le_of_ble_eq_true rfl, Nat.le_of_ble_eq_true rfl⟩ (m_X10_firstDay _ _ _ M x4 hc_3) (Nat.le_of_ble_eq_true rfl) dX4_seek_63 ?_
    refine r_iload_n C.1 3 dX4_seek_66 rfl rfl ?_
    obtain ⟨M_6, hc_5, h⟩ := bd_E h
    refine cl_X4_18 C ⟨Nat.le_of_ble_eq_true rfl, Nat.le_of_ble_eq_true rfl⟩ (m_X4_tryDay _ _ _ M x2 r_2 x3 hc_5) (Nat.le_of_ble_eq_true rfl) dX4_seek_67 ?_
    obtain ⟨y_7, ey_7, h⟩ := lt_E h
    refine r_iinc C.1 4 [(4, .int y_7), (0, .ref (x_ad x 15)), (1, .ref (x_ad x 17)), (2, .int x2), (3, .int x3)] dX4_seek_70 rfl ey_7 (by decide) rfl ?_
    refine r_goto C.1 51 dX4_seek_73 (by decide) ?_
    exact r_sub [1, 2, 3, 4, 0] rfl (kh _ (Option.some.inj h).symm)

def b_X4_seek_51 (M : xM) (x2 : Int32) (x3 : Int32) (x4 : Int32) : Option (xM) :=
  bd (loopN (fun s : xM × Int32 => bl_X4_seek_51 s.1 x2 x3 s.2) BG (M, x4)) (fun v => b_X4_seek_79 v x2 x3 (0 : Int32))
set_option maxRecDepth 20000 in
set_option maxHeartbeats 2000000 in
theorem w_X4_seek_51 {x : xC} (C : CtC x RX4 cX4_seek 6 ({ frames := 3, cells := 0, slots := 0, locals := 73 } : Room)) (M : xM) (x2 : Int32) (x3 : Int32) (x4 : Int32)  (o : xM) (h : b_X4_seek_51 M x2 x3 x4 = some o) (hr : (x_me x).sig.returnType = none) (ev : x_rv x = none) (eM : x_M x = o) : J x M 51 [(0, .ref (x_ad x 15)), (1, .ref (x_ad x 17)), (2, .int x2), (3, .int x3), (4, .int x4)] [] := by
  unfold b_X4_seek_51 at h
  obtain ⟨r_0, hr_0, h⟩ := bd_E h
  refine loopN_ind (JJ := fun s => J x s.1 51 [(0, .ref (x_ad x 15)), (1, .ref (x_ad x 17)), (2, .int x2), (3, .int x3), (4, .int s.2)] []) (KX := fun q => q = r_0) ?_ BG (M, x4) r_0 hr_0 rfl
  intro s o1 hb kk1 kk2
  refine wl_X4_seek_51 C s.1 x2 x3 s.2 _ hb kk1 ?_
  · intro v e0
    have e1 := kk2 _ e0
    subst e1
    refine r_iconst (v := 0) C.1 dX4_seek_76 rfl ?_
    refine r_istore C.1 [(4, .int (0 : Int32)), (0, .ref (x_ad x 15)), (1, .ref (x_ad x 17)), (2, .int x2), (3, .int x3)] dX4_seek_77 (by decide) rfl rfl ?_
    exact r_sub [1, 2, 3, 4, 0] rfl (w_X4_seek_79 C v x2 x3 (0 : Int32) _ h hr ev eM)

def bl_X4_seek_16 (M : xM) (x2 : Int32) (x3 : Int32) (x4 : Int32) : Option ((xM × Int32) ⊕ (xM)) :=
  if (M 17 5) ≤ x4 then some (.inr M) else gd x4 40 (bd (f_X4_tryDay M x2 (M (45 + x4.toNatClampNeg) 2) x3) (fun M_5 => lt (x4 + (1 : Int32)) (fun y_6 => some (.inl (M_5, y_6)))))
set_option maxRecDepth 20000 in
set_option maxHeartbeats 2000000 in
theorem wl_X4_seek_16 {x : xC} (C : CtC x RX4 cX4_seek 6 ({ frames := 3, cells := 0, slots := 0, locals := 73 } : Room)) (M : xM) (x2 : Int32) (x3 : Int32) (x4 : Int32)  (o : (xM × Int32) ⊕ (xM)) (h : bl_X4_seek_16 M x2 x3 x4 = some o) (kh : ∀ s : xM × Int32, o = .inl s → J x s.1 16 [(0, .ref (x_ad x 15)), (1, .ref (x_ad x 17)), (2, .int x2), (3, .int x3), (4, .int s.2)] []) (ke_0 : ∀ v : xM, o = .inr v → J x v 48 [(0, .ref (x_ad x 15)), (1, .ref (x_ad x 17)), (2, .int x2), (3, .int x3)] []) : J x M 16 [(0, .ref (x_ad x 15)), (1, .ref (x_ad x 17)), (2, .int x2), (3, .int x3), (4, .int x4)] [] := by
  unfold bl_X4_seek_16 at h
  refine r_iload C.1 4 dX4_seek_16 rfl ?_
  refine r_aload_n C.1 1 dX4_seek_18 rfl rfl ?_
  refine gf_X4_22_17 C dX4_seek_19 ?_
  refine r_icmp_ge C.1 48 dX4_seek_22 (by decide) (fun c_1 => ?_) (fun c_1 => ?_)
  · replace h := ite_T c_1 h
    exact r_sub [0, 1, 2, 3] rfl (ke_0 _ (Option.some.inj h).symm)
  · replace h := ite_F c_1 h
    refine r_aload_n C.1 0 dX4_seek_25 rfl rfl ?_
    refine r_aload_n C.1 1 dX4_seek_26 rfl rfl ?_
    refine r_iload_n C.1 2 dX4_seek_27 rfl rfl ?_
    refine r_aload_n C.1 1 dX4_seek_28 rfl rfl ?_
    refine gf_X4_27_17 C dX4_seek_29 ?_
    refine r_iload C.1 4 dX4_seek_32 rfl ?_
    obtain ⟨q_2, h⟩ := gd_E h
    refine r_aldq C.1 (cK C (by decide)) (cS C (sh_21)) 3 (cT3 C) q_2 (y := x_ad x (45 + x4.toNatClampNeg)) rfl dX4_seek_34 ?_
    refine gfk_X4_31 C (kE_17 (vp_lt q_2)) dX4_seek_35 ?_
    refine r_iload_n C.1 3 dX4_seek_38 rfl rfl ?_
    obtain ⟨M_5, hc_4, h⟩ := bd_E h
    refine cl_X4_18 C ⟨Nat.le_of_ble_eq_true rfl, Nat.le_of_ble_eq_true rfl⟩ (m_X4_tryDay _ _ _ M x2 (M (45 + x4.toNatClampNeg) 2) x3 hc_4) (Nat.le_of_ble_eq_true rfl) dX4_seek_39 ?_
    obtain ⟨y_6, ey_6, h⟩ := lt_E h
    refine r_iinc C.1 4 [(4, .int y_6), (0, .ref (x_ad x 15)), (1, .ref (x_ad x 17)), (2, .int x2), (3, .int x3)] dX4_seek_42 rfl ey_6 (by decide) rfl ?_
    refine r_goto C.1 16 dX4_seek_45 (by decide) ?_
    exact r_sub [1, 2, 3, 4, 0] rfl (kh _ (Option.some.inj h).symm)

def b_X4_seek_16 (M : xM) (x2 : Int32) (x3 : Int32) (x4 : Int32) : Option (xM) :=
  bd (loopN (fun s : xM × Int32 => bl_X4_seek_16 s.1 x2 x3 s.2) BG (M, x4)) (fun v => b_X4_seek_51 v x2 x3 (1 : Int32))
set_option maxRecDepth 20000 in
set_option maxHeartbeats 2000000 in
theorem w_X4_seek_16 {x : xC} (C : CtC x RX4 cX4_seek 6 ({ frames := 3, cells := 0, slots := 0, locals := 73 } : Room)) (M : xM) (x2 : Int32) (x3 : Int32) (x4 : Int32)  (o : xM) (h : b_X4_seek_16 M x2 x3 x4 = some o) (hr : (x_me x).sig.returnType = none) (ev : x_rv x = none) (eM : x_M x = o) : J x M 16 [(0, .ref (x_ad x 15)), (1, .ref (x_ad x 17)), (2, .int x2), (3, .int x3), (4, .int x4)] [] := by
  unfold b_X4_seek_16 at h
  obtain ⟨r_0, hr_0, h⟩ := bd_E h
  refine loopN_ind (JJ := fun s => J x s.1 16 [(0, .ref (x_ad x 15)), (1, .ref (x_ad x 17)), (2, .int x2), (3, .int x3), (4, .int s.2)] []) (KX := fun q => q = r_0) ?_ BG (M, x4) r_0 hr_0 rfl
  intro s o1 hb kk1 kk2
  refine wl_X4_seek_16 C s.1 x2 x3 s.2 _ hb kk1 ?_
  · intro v e0
    have e1 := kk2 _ e0
    subst e1
    refine r_iconst (v := 1) C.1 dX4_seek_48 rfl ?_
    refine r_istore C.1 [(4, .int (1 : Int32)), (0, .ref (x_ad x 15)), (1, .ref (x_ad x 17)), (2, .int x2), (3, .int x3)] dX4_seek_49 (by decide) rfl rfl ?_
    exact r_sub [1, 2, 3, 4, 0] rfl (w_X4_seek_51 C v x2 x3 (1 : Int32) _ h hr ev eM)

def b_X4_seek_0 (M : xM) (x2 : Int32) (x3 : Int32) : Option (xM) :=
  lt (uM M 15 0 (-1 : Int32)) (fun M_1 => bd (f_X4_tryDay M_1 x2 (0 : Int32) x3) (fun M_4 => b_X4_seek_16 M_4 x2 x3 (0 : Int32)))
set_option maxRecDepth 20000 in
set_option maxHeartbeats 2000000 in
theorem w_X4_seek_0 {x : xC} (C : CtC x RX4 cX4_seek 6 ({ frames := 3, cells := 0, slots := 0, locals := 73 } : Room)) (M : xM) (x2 : Int32) (x3 : Int32)  (o : xM) (h : b_X4_seek_0 M x2 x3 = some o) (hr : (x_me x).sig.returnType = none) (ev : x_rv x = none) (eM : x_M x = o) : J x M 0 [(0, .ref (x_ad x 15)), (1, .ref (x_ad x 17)), (2, .int x2), (3, .int x3)] [] := by
  unfold b_X4_seek_0 at h
  refine r_aload_n C.1 0 dX4_seek_0 rfl rfl ?_
  refine r_iconst (v := -1) C.1 dX4_seek_1 rfl ?_
  obtain ⟨M_1, eM_1, h⟩ := lt_E h
  refine pf_X4_9 C eM_1 dX4_seek_2 ?_
  refine r_aload_n C.1 0 dX4_seek_5 rfl rfl ?_
  refine r_aload_n C.1 1 dX4_seek_6 rfl rfl ?_
  refine r_iload_n C.1 2 dX4_seek_7 rfl rfl ?_
  refine r_iconst (v := 0) C.1 dX4_seek_8 rfl ?_
  refine r_iload_n C.1 3 dX4_seek_9 rfl rfl ?_
  obtain ⟨M_4, hc_3, h⟩ := bd_E h
  refine cl_X4_18 C ⟨Nat.le_of_ble_eq_true rfl, Nat.le_of_ble_eq_true rfl⟩ (m_X4_tryDay _ _ _ M_1 x2 (0 : Int32) x3 hc_3) (Nat.le_of_ble_eq_true rfl) dX4_seek_10 ?_
  refine r_iconst (v := 0) C.1 dX4_seek_13 rfl ?_
  refine r_istore C.1 [(4, .int (0 : Int32)), (0, .ref (x_ad x 15)), (1, .ref (x_ad x 17)), (2, .int x2), (3, .int x3)] dX4_seek_14 (by decide) rfl rfl ?_
  exact r_sub [1, 2, 3, 4, 0] rfl (w_X4_seek_16 C M_4 x2 x3 (0 : Int32) _ h hr ev eM)
def f_X4_seek (M : xM) (x2 : Int32) (x3 : Int32) : Option (xM) := b_X4_seek_0 M x2 x3
set_option maxRecDepth 20000 in
theorem m_X4_seek (l : Launch) (D : va_G) (ad : Nat → Nat) (M : xM) (x2 : Int32) (x3 : Int32)  {o : xM} (h : f_X4_seek M x2 x3 = some o) : xMetC l yX4_seek cX4_seek 6 none ({ frames := 3, cells := 0, slots := 0, locals := 73 } : Room) [.ref (ad 15), .ref (ad 17), .int x2, .int x3] D ad M none o := by
  refine xMetC_of (own := RX4) (by decide) rfl (Nat.le_of_ble_eq_true rfl) ?_
  intro x C e1 e2 e3 ev eM hr
  subst e1; subst e2; subst e3
  refine r_sub (L := [(0, .ref (x_ad x 15)), (1, .ref (x_ad x 17)), (2, .int x2), (3, .int x3)]) (L' := [(0, .ref (x_ad x 15)), (1, .ref (x_ad x 17)), (2, .int x2), (3, .int x3)]) [0, 1, 2, 3] rfl ?_
  exact w_X4_seek_0 C M x2 x3 _ h hr ev eM

def bl_X6_forget_7 (M : xM) (x1 : Int32) : Option ((xM × Int32) ⊕ (xM)) :=
  if (7 : Int32) ≤ x1 then some (.inr M) else gd x1 7 (gd x1 7 (lt (uM M 4 x1.toNatClampNeg (fWi x1.toNatClampNeg)) (fun M_4 => gd x1 7 (lt (uM M_4 5 x1.toNatClampNeg (0 : Int32)) (fun M_6 => lt (x1 + (1 : Int32)) (fun y_7 => some (.inl (M_6, y_7))))))))
set_option maxRecDepth 20000 in
set_option maxHeartbeats 2000000 in
theorem wl_X6_forget_7 {x : xC} (C : CtC x RX6 cX6_forget 2 ({ frames := 0, cells := 0, slots := 0, locals := 0 } : Room)) (M : xM) (x1 : Int32)  (o : (xM × Int32) ⊕ (xM)) (h : bl_X6_forget_7 M x1 = some o) (kh : ∀ s : xM × Int32, o = .inl s → J x s.1 7 [(0, .ref (x_ad x 3)), (1, .int s.2)] []) (ke_0 : ∀ v : xM, o = .inr v → J x v 42 [] []) : J x M 7 [(0, .ref (x_ad x 3)), (1, .int x1)] [] := by
  unfold bl_X6_forget_7 at h
  refine r_iload_n C.1 1 dX6_forget_7 rfl rfl ?_
  refine r_getsN (ref := RX10) (host := RX10) C.1 C.2.2.2.2 (C.2.2.2.2.2.2.2.2.1.1) (by decide +kernel) rfl dX6_forget_8 ?_
  refine r_tlen C.1 (C.2.2.2.2.2.2.2.2.1.2) (v := 7) rfl dX6_forget_11 ?_
  refine r_icmp_ge C.1 42 dX6_forget_12 (by decide) (fun c_1 => ?_) (fun c_1 => ?_)
  · replace h := ite_T c_1 h
    exact r_sub [] rfl (ke_0 _ (Option.some.inj h).symm)
  · replace h := ite_F c_1 h
    refine r_aload_n C.1 0 dX6_forget_15 rfl rfl ?_
    refine gf_X6_13 C dX6_forget_16 ?_
    refine r_iload_n C.1 1 dX6_forget_19 rfl rfl ?_
    refine r_getsN (ref := RX10) (host := RX10) C.1 C.2.2.2.2 (C.2.2.2.2.2.2.2.2.1.1) (by decide +kernel) rfl dX6_forget_20 ?_
    refine r_iload_n C.1 1 dX6_forget_23 rfl rfl ?_
    obtain ⟨q_2, h⟩ := gd_E h
    refine r_tq C.1 (C.2.2.2.2.2.2.2.2.1.2) q_2 rfl dX6_forget_24 ?_
    refine r_getX (ad := fun j => x_ad x (1010 + j)) (i := x1.toNatClampNeg) C.1 (C.2.2.2.2.2.2.2.2.2.2.2.1) (vp_lt q_2) kw_1870 rfl dX6_forget_25 ?_
    obtain ⟨q_3, h⟩ := gd_E h
    obtain ⟨M_4, eM_4, h⟩ := lt_E h
    refine r_iast C.1 (cK C (by decide)) (cS C (sh_4)) 0 (cT0 C) q_3 eM_4 dX6_forget_28 ?_
    refine r_aload_n C.1 0 dX6_forget_29 rfl rfl ?_
    refine gf_X6_19 C dX6_forget_30 ?_
    refine r_iload_n C.1 1 dX6_forget_33 rfl rfl ?_
    refine r_iconst (v := 0) C.1 dX6_forget_34 rfl ?_
    obtain ⟨q_5, h⟩ := gd_E h
    obtain ⟨M_6, eM_6, h⟩ := lt_E h
    refine r_zast C.1 (cK C (by decide)) (cS C (sh_5)) 1 (cT1 C) q_5 (nz_v (by decide)) eM_6 dX6_forget_35 ?_
    obtain ⟨y_7, ey_7, h⟩ := lt_E h
    refine r_iinc C.1 1 [(1, .int y_7), (0, .ref (x_ad x 3))] dX6_forget_36 rfl ey_7 (by decide) rfl ?_
    refine r_goto C.1 7 dX6_forget_39 (by decide) ?_
    exact r_sub [1, 0] rfl (kh _ (Option.some.inj h).symm)

def b_X6_forget_7 (M : xM) (x1 : Int32) : Option (xM) :=
  bd (loopN (fun s : xM × Int32 => bl_X6_forget_7 s.1 s.2) BG (M, x1)) (fun v => some v)
set_option maxRecDepth 20000 in
set_option maxHeartbeats 2000000 in
theorem w_X6_forget_7 {x : xC} (C : CtC x RX6 cX6_forget 2 ({ frames := 0, cells := 0, slots := 0, locals := 0 } : Room)) (M : xM) (x1 : Int32)  (o : xM) (h : b_X6_forget_7 M x1 = some o) (hr : (x_me x).sig.returnType = none) (ev : x_rv x = none) (eM : x_M x = o) : J x M 7 [(0, .ref (x_ad x 3)), (1, .int x1)] [] := by
  unfold b_X6_forget_7 at h
  obtain ⟨r_0, hr_0, h⟩ := bd_E h
  refine loopN_ind (JJ := fun s => J x s.1 7 [(0, .ref (x_ad x 3)), (1, .int s.2)] []) (KX := fun q => q = r_0) ?_ BG (M, x1) r_0 hr_0 rfl
  intro s o1 hb kk1 kk2
  refine wl_X6_forget_7 C s.1 s.2 _ hb kk1 ?_
  · intro v e0
    have e1 := kk2 _ e0
    subst e1
    obtain rfl := Option.some.inj h
    exact r_vret C.1 hr ev eM dX6_forget_42

def b_X6_forget_0 (M : xM)  : Option (xM) :=
  lt (uM M 3 2 (0 : Int32)) (fun M_1 => b_X6_forget_7 M_1 (0 : Int32))
set_option maxRecDepth 20000 in
set_option maxHeartbeats 2000000 in
theorem w_X6_forget_0 {x : xC} (C : CtC x RX6 cX6_forget 2 ({ frames := 0, cells := 0, slots := 0, locals := 0 } : Room)) (M : xM)   (o : xM) (h : b_X6_forget_0 M = some o) (hr : (x_me x).sig.returnType = none) (ev : x_rv x = none) (eM : x_M x = o) : J x M 0 [(0, .ref (x_ad x 3))] [] := by
  unfold b_X6_forget_0 at h
  refine r_aload_n C.1 0 dX6_forget_0 rfl rfl ?_
  refine r_iconst (v := 0) C.1 dX6_forget_1 rfl ?_
  obtain ⟨M_1, eM_1, h⟩ := lt_E h
  refine pf_X6_23 C eM_1 dX6_forget_2 ?_
  refine r_iconst (v := 0) C.1 dX6_forget_5 rfl ?_
  refine r_istore_n C.1 [(1, .int (0 : Int32)), (0, .ref (x_ad x 3))] dX6_forget_6 rfl (by decide) rfl rfl ?_
  exact r_sub [1, 0] rfl (w_X6_forget_7 C M_1 (0 : Int32) _ h hr ev eM)
def f_X6_forget (M : xM)  : Option (xM) := b_X6_forget_0 M 
set_option maxRecDepth 20000 in
theorem m_X6_forget (l : Launch) (D : va_G) (ad : Nat → Nat) (M : xM)   {o : xM} (h : f_X6_forget M = some o) : xMetC l yX6_forget cX6_forget 2 none ({ frames := 0, cells := 0, slots := 0, locals := 0 } : Room) [.ref (ad 3)] D ad M none o := by
  refine xMetC_of (own := RX6) (by decide) rfl (Nat.le_of_ble_eq_true rfl) ?_
  intro x C e1 e2 e3 ev eM hr
  subst e1; subst e2; subst e3
  refine r_sub (L := [(0, .ref (x_ad x 3))]) (L' := [(0, .ref (x_ad x 3))]) [0] rfl ?_
  exact w_X6_forget_0 C M _ h hr ev eM

def b_X7_byteAt_22 (M : xM) (s0 : Int32) : Option (Int32) :=
  some s0
set_option maxRecDepth 20000 in
set_option maxHeartbeats 2000000 in
theorem w_X7_byteAt_22 {x : xC} (C : CtC x RX7 cX7_byteAt 2 ({ frames := 0, cells := 0, slots := 0, locals := 0 } : Room)) (M : xM) (s0 : Int32)  (o : Int32) (h : b_X7_byteAt_22 M s0 = some o) (hr : (x_me x).sig.returnType = some .int) (ev : x_rv x = some (.int o)) (eM : x_M x = M) : J x M 22 [] [.int s0] := by
  unfold b_X7_byteAt_22 at h
  obtain rfl := Option.some.inj h
  exact r_iret C.1 hr ev eM dX7_byteAt_22

def b_X7_byteAt_21 (M : xM)  : Option (Int32) :=
  b_X7_byteAt_22 M (0 : Int32)
set_option maxRecDepth 20000 in
set_option maxHeartbeats 2000000 in
theorem w_X7_byteAt_21 {x : xC} (C : CtC x RX7 cX7_byteAt 2 ({ frames := 0, cells := 0, slots := 0, locals := 0 } : Room)) (M : xM)   (o : Int32) (h : b_X7_byteAt_21 M = some o) (hr : (x_me x).sig.returnType = some .int) (ev : x_rv x = some (.int o)) (eM : x_M x = M) : J x M 21 [] [] := by
  unfold b_X7_byteAt_21 at h
  refine r_iconst (v := 0) C.1 dX7_byteAt_21 rfl ?_
  exact r_sub [] rfl (w_X7_byteAt_22 C M (0 : Int32) _ h hr ev eM)

def b_X7_byteAt_0 (M : xM) (x1 : Int32) : Option (Int32) :=
  if x1 < 0 then b_X7_byteAt_21 M else if (M 1 1) ≤ x1 then b_X7_byteAt_21 M else gd x1 200 (b_X7_byteAt_22 M (M 2 x1.toNatClampNeg))
set_option maxRecDepth 20000 in
set_option maxHeartbeats 2000000 in
theorem w_X7_byteAt_0 {x : xC} (C : CtC x RX7 cX7_byteAt 2 ({ frames := 0, cells := 0, slots := 0, locals := 0 } : Room)) (M : xM) (x1 : Int32)  (o : Int32) (h : b_X7_byteAt_0 M x1 = some o) (hr : (x_me x).sig.returnType = some .int) (ev : x_rv x = some (.int o)) (eM : x_M x = M) : J x M 0 [(0, .ref (x_ad x 1)), (1, .int x1)] [] := by
  unfold b_X7_byteAt_0 at h
  refine r_iload_n C.1 1 dX7_byteAt_0 rfl rfl ?_
  refine r_if_lt C.1 21 dX7_byteAt_1 (by decide) (fun c_1 => ?_) (fun c_1 => ?_)
  · replace h := ite_T c_1 h
    exact r_sub [] rfl (w_X7_byteAt_21 C M _ h hr ev eM)
  · replace h := ite_F c_1 h
    refine r_iload_n C.1 1 dX7_byteAt_4 rfl rfl ?_
    refine r_aload_n C.1 0 dX7_byteAt_5 rfl rfl ?_
    refine gf_X7_15 C dX7_byteAt_6 ?_
    refine r_icmp_ge C.1 21 dX7_byteAt_9 (by decide) (fun c_2 => ?_) (fun c_2 => ?_)
    · replace h := ite_T c_2 h
      exact r_sub [] rfl (w_X7_byteAt_21 C M _ h hr ev eM)
    · replace h := ite_F c_2 h
      refine r_aload_n C.1 0 dX7_byteAt_12 rfl rfl ?_
      refine gf_X7_9 C dX7_byteAt_13 ?_
      refine r_iload_n C.1 1 dX7_byteAt_16 rfl rfl ?_
      obtain ⟨q_3, h⟩ := gd_E h
      refine r_iald C.1 (cK C (by decide)) (cS C (sh_2)) 0 (cT0 C) q_3 dX7_byteAt_17 ?_
      refine r_goto C.1 22 dX7_byteAt_18 (by decide) ?_
      exact r_sub [] rfl (w_X7_byteAt_22 C M (M 2 x1.toNatClampNeg) _ h hr ev eM)
def f_X7_byteAt (M : xM) (x1 : Int32) : Option (Int32) := b_X7_byteAt_0 M x1
set_option maxRecDepth 20000 in
theorem m_X7_byteAt (l : Launch) (D : va_G) (ad : Nat → Nat) (M : xM) (x1 : Int32)  {o : Int32} (h : f_X7_byteAt M x1 = some o) : xMetC l yX7_byteAt cX7_byteAt 2 (some .int) ({ frames := 0, cells := 0, slots := 0, locals := 0 } : Room) [.ref (ad 1), .int x1] D ad M (some (.int o)) M := by
  refine xMetC_of (own := RX7) (by decide) rfl (Nat.le_of_ble_eq_true rfl) ?_
  intro x C e1 e2 e3 ev eM hr
  subst e1; subst e2; subst e3
  refine r_sub (L := [(0, .ref (x_ad x 1)), (1, .int x1)]) (L' := [(0, .ref (x_ad x 1)), (1, .int x1)]) [0, 1] rfl ?_
  exact w_X7_byteAt_0 C M x1 _ h hr ev eM

def b_X7_pastBlanks_26 (M : xM) (x2 : Int32) : Option (Int32) :=
  some x2
set_option maxRecDepth 20000 in
set_option maxHeartbeats 2000000 in
theorem w_X7_pastBlanks_26 {x : xC} (C : CtC x RX7 cX7_pastBlanks 3 ({ frames := 1, cells := 0, slots := 0, locals := 21 } : Room)) (M : xM) (x2 : Int32)  (o : Int32) (h : b_X7_pastBlanks_26 M x2 = some o) (hr : (x_me x).sig.returnType = some .int) (ev : x_rv x = some (.int o)) (eM : x_M x = M) : J x M 26 [(2, .int x2)] [] := by
  unfold b_X7_pastBlanks_26 at h
  refine r_iload_n C.1 0 dX7_pastBlanks_26 rfl rfl ?_
  obtain rfl := Option.some.inj h
  exact r_iret C.1 hr ev eM dX7_pastBlanks_27

def bl_X7_pastBlanks_2 (M : xM) (x2 : Int32) : Option ((Int32) ⊕ (Int32)) :=
  if (M 1 1) ≤ x2 then some (.inr x2) else bd (f_X7_byteAt M x2) (fun r_2 => if r_2 = (32 : Int32) then lt (x2 + (1 : Int32)) (fun y_5 => some (.inl y_5)) else some (.inr x2))
set_option maxRecDepth 20000 in
set_option maxHeartbeats 2000000 in
theorem wl_X7_pastBlanks_2 {x : xC} (C : CtC x RX7 cX7_pastBlanks 3 ({ frames := 1, cells := 0, slots := 0, locals := 21 } : Room)) (M : xM) (x2 : Int32)  (o : (Int32) ⊕ (Int32)) (h : bl_X7_pastBlanks_2 M x2 = some o) (kh : ∀ s : Int32, o = .inl s → J x M 2 [(0, .ref (x_ad x 1)), (2, .int s)] []) (ke_0 : ∀ v : Int32, o = .inr v → J x M 26 [(2, .int v)] []) : J x M 2 [(0, .ref (x_ad x 1)), (2, .int x2)] [] := by
  unfold bl_X7_pastBlanks_2 at h
  refine r_iload_n C.1 1 dX7_pastBlanks_2 rfl rfl ?_
  refine r_aload_n C.1 0 dX7_pastBlanks_3 rfl rfl ?_
  refine gf_X7_15 C dX7_pastBlanks_4 ?_
  refine r_icmp_ge C.1 26 dX7_pastBlanks_7 (by decide) (fun c_1 => ?_) (fun c_1 => ?_)
  · replace h := ite_T c_1 h
    exact r_sub [1] rfl (ke_0 _ (Option.some.inj h).symm)
  · replace h := ite_F c_1 h
    refine r_aload_n C.1 0 dX7_pastBlanks_10 rfl rfl ?_
    refine r_iload_n C.1 1 dX7_pastBlanks_11 rfl rfl ?_
    obtain ⟨r_2, hc_3, h⟩ := bd_E h
    refine cl_X7_19 C ⟨Nat.le_of_ble_eq_true rfl, Nat.le_of_ble_eq_true rfl⟩ (m_X7_byteAt _ _ _ M x2 hc_3) (Nat.le_of_ble_eq_true rfl) dX7_pastBlanks_12 ?_
    refine r_bipush (v := 32) C.1 dX7_pastBlanks_15 (by decide) ?_
    refine r_icmp_ne C.1 26 dX7_pastBlanks_17 (by decide) (fun c_4 => ?_) (fun c_4 => ?_)
    · replace h := ite_F c_4 h
      exact r_sub [1] rfl (ke_0 _ (Option.some.inj h).symm)
    · replace h := ite_T c_4 h
      obtain ⟨y_5, ey_5, h⟩ := lt_E h
      refine r_iinc C.1 1 [(2, .int y_5), (0, .ref (x_ad x 1))] dX7_pastBlanks_20 rfl ey_5 (by decide) rfl ?_
      refine r_goto C.1 2 dX7_pastBlanks_23 (by decide) ?_
      exact r_sub [1, 0] rfl (kh _ (Option.some.inj h).symm)

def b_X7_pastBlanks_2 (M : xM) (x2 : Int32) : Option (Int32) :=
  bd (loopN (fun s : Int32 => bl_X7_pastBlanks_2 M s) BG x2) (fun v => b_X7_pastBlanks_26 M v)
set_option maxRecDepth 20000 in
set_option maxHeartbeats 2000000 in
theorem w_X7_pastBlanks_2 {x : xC} (C : CtC x RX7 cX7_pastBlanks 3 ({ frames := 1, cells := 0, slots := 0, locals := 21 } : Room)) (M : xM) (x2 : Int32)  (o : Int32) (h : b_X7_pastBlanks_2 M x2 = some o) (hr : (x_me x).sig.returnType = some .int) (ev : x_rv x = some (.int o)) (eM : x_M x = M) : J x M 2 [(0, .ref (x_ad x 1)), (2, .int x2)] [] := by
  unfold b_X7_pastBlanks_2 at h
  obtain ⟨r_0, hr_0, h⟩ := bd_E h
  refine loopN_ind (JJ := fun s => J x M 2 [(0, .ref (x_ad x 1)), (2, .int s)] []) (KX := fun q => q = r_0) ?_ BG x2 r_0 hr_0 rfl
  intro s o1 hb kk1 kk2
  refine wl_X7_pastBlanks_2 C M s _ hb kk1 ?_
  · intro v e0
    have e1 := kk2 _ e0
    subst e1
    exact r_sub [0] rfl (w_X7_pastBlanks_26 C M v _ h hr ev eM)

def b_X7_pastBlanks_0 (M : xM) (x1 : Int32) : Option (Int32) :=
  b_X7_pastBlanks_2 M x1
set_option maxRecDepth 20000 in
set_option maxHeartbeats 2000000 in
theorem w_X7_pastBlanks_0 {x : xC} (C : CtC x RX7 cX7_pastBlanks 3 ({ frames := 1, cells := 0, slots := 0, locals := 21 } : Room)) (M : xM) (x1 : Int32)  (o : Int32) (h : b_X7_pastBlanks_0 M x1 = some o) (hr : (x_me x).sig.returnType = some .int) (ev : x_rv x = some (.int o)) (eM : x_M x = M) : J x M 0 [(0, .ref (x_ad x 1)), (1, .int x1)] [] := by
  unfold b_X7_pastBlanks_0 at h
  refine r_iload_n C.1 1 dX7_pastBlanks_0 rfl rfl ?_
  refine r_istore_n C.1 [(2, .int x1), (0, .ref (x_ad x 1)), (1, .int x1)] dX7_pastBlanks_1 rfl (by decide) rfl rfl ?_
  exact r_sub [1, 0] rfl (w_X7_pastBlanks_2 C M x1 _ h hr ev eM)
def f_X7_pastBlanks (M : xM) (x1 : Int32) : Option (Int32) := b_X7_pastBlanks_0 M x1
set_option maxRecDepth 20000 in
theorem m_X7_pastBlanks (l : Launch) (D : va_G) (ad : Nat → Nat) (M : xM) (x1 : Int32)  {o : Int32} (h : f_X7_pastBlanks M x1 = some o) : xMetC l yX7_pastBlanks cX7_pastBlanks 3 (some .int) ({ frames := 1, cells := 0, slots := 0, locals := 21 } : Room) [.ref (ad 1), .int x1] D ad M (some (.int o)) M := by
  refine xMetC_of (own := RX7) (by decide) rfl (Nat.le_of_ble_eq_true rfl) ?_
  intro x C e1 e2 e3 ev eM hr
  subst e1; subst e2; subst e3
  refine r_sub (L := [(0, .ref (x_ad x 1)), (1, .int x1)]) (L' := [(0, .ref (x_ad x 1)), (1, .int x1)]) [0, 1] rfl ?_
  exact w_X7_pastBlanks_0 C M x1 _ h hr ev eM

def b_X7_pastRun_38 (M : xM) (x4 : Int32) : Option (Int32) :=
  some x4
set_option maxRecDepth 20000 in
set_option maxHeartbeats 2000000 in
theorem w_X7_pastRun_38 {x : xC} (C : CtC x RX7 cX7_pastRun 5 ({ frames := 1, cells := 0, slots := 0, locals := 21 } : Room)) (M : xM) (x4 : Int32)  (o : Int32) (h : b_X7_pastRun_38 M x4 = some o) (hr : (x_me x).sig.returnType = some .int) (ev : x_rv x = some (.int o)) (eM : x_M x = M) : J x M 38 [(4, .int x4)] [] := by
  unfold b_X7_pastRun_38 at h
  refine r_iload C.1 0 dX7_pastRun_38 rfl ?_
  obtain rfl := Option.some.inj h
  exact r_iret C.1 hr ev eM dX7_pastRun_40

def bl_X7_pastRun_3 (M : xM) (x2 : Int32) (x3 : Int32) (x4 : Int32) : Option ((Int32) ⊕ (Int32)) :=
  if (M 1 1) ≤ x4 then some (.inr x4) else bd (f_X7_byteAt M x4) (fun r_2 => if r_2 < x2 then some (.inr x4) else bd (f_X7_byteAt M x4) (fun r_5 => if x3 < r_5 then some (.inr x4) else lt (x4 + (1 : Int32)) (fun y_8 => some (.inl y_8))))
set_option maxRecDepth 20000 in
set_option maxHeartbeats 2000000 in
theorem wl_X7_pastRun_3 {x : xC} (C : CtC x RX7 cX7_pastRun 5 ({ frames := 1, cells := 0, slots := 0, locals := 21 } : Room)) (M : xM) (x2 : Int32) (x3 : Int32) (x4 : Int32)  (o : (Int32) ⊕ (Int32)) (h : bl_X7_pastRun_3 M x2 x3 x4 = some o) (kh : ∀ s : Int32, o = .inl s → J x M 3 [(0, .ref (x_ad x 1)), (2, .int x2), (3, .int x3), (4, .int s)] []) (ke_0 : ∀ v : Int32, o = .inr v → J x M 38 [(4, .int v)] []) : J x M 3 [(0, .ref (x_ad x 1)), (2, .int x2), (3, .int x3), (4, .int x4)] [] := by
  unfold bl_X7_pastRun_3 at h
  refine r_iload C.1 3 dX7_pastRun_3 rfl ?_
  refine r_aload_n C.1 0 dX7_pastRun_5 rfl rfl ?_
  refine gf_X7_15 C dX7_pastRun_6 ?_
  refine r_icmp_ge C.1 38 dX7_pastRun_9 (by decide) (fun c_1 => ?_) (fun c_1 => ?_)
  · replace h := ite_T c_1 h
    exact r_sub [3] rfl (ke_0 _ (Option.some.inj h).symm)
  · replace h := ite_F c_1 h
    refine r_aload_n C.1 0 dX7_pastRun_12 rfl rfl ?_
    refine r_iload C.1 3 dX7_pastRun_13 rfl ?_
    obtain ⟨r_2, hc_3, h⟩ := bd_E h
    refine cl_X7_19 C ⟨Nat.le_of_ble_eq_true rfl, Nat.le_of_ble_eq_true rfl⟩ (m_X7_byteAt _ _ _ M x4 hc_3) (Nat.le_of_ble_eq_true rfl) dX7_pastRun_15 ?_
    refine r_iload_n C.1 1 dX7_pastRun_18 rfl rfl ?_
    refine r_icmp_lt C.1 38 dX7_pastRun_19 (by decide) (fun c_4 => ?_) (fun c_4 => ?_)
    · replace h := ite_T c_4 h
      exact r_sub [3] rfl (ke_0 _ (Option.some.inj h).symm)
    · replace h := ite_F c_4 h
      refine r_aload_n C.1 0 dX7_pastRun_22 rfl rfl ?_
      refine r_iload C.1 3 dX7_pastRun_23 rfl ?_
      obtain ⟨r_5, hc_6, h⟩ := bd_E h
      refine cl_X7_19 C ⟨Nat.le_of_ble_eq_true rfl, Nat.le_of_ble_eq_true rfl⟩ (m_X7_byteAt _ _ _ M x4 hc_6) (Nat.le_of_ble_eq_true rfl) dX7_pastRun_25 ?_
      refine r_iload_n C.1 2 dX7_pastRun_28 rfl rfl ?_
      refine r_icmp_gt C.1 38 dX7_pastRun_29 (by decide) (fun c_7 => ?_) (fun c_7 => ?_)
      · replace h := ite_T c_7 h
        exact r_sub [3] rfl (ke_0 _ (Option.some.inj h).symm)
      · replace h := ite_F c_7 h
        obtain ⟨y_8, ey_8, h⟩ := lt_E h
        refine r_iinc C.1 3 [(4, .int y_8), (0, .ref (x_ad x 1)), (2, .int x2), (3, .int x3)] dX7_pastRun_32 rfl ey_8 (by decide) rfl ?_
        refine r_goto C.1 3 dX7_pastRun_35 (by decide) ?_
        exact r_sub [1, 2, 3, 0] rfl (kh _ (Option.some.inj h).symm)

def b_X7_pastRun_3 (M : xM) (x2 : Int32) (x3 : Int32) (x4 : Int32) : Option (Int32) :=
  bd (loopN (fun s : Int32 => bl_X7_pastRun_3 M x2 x3 s) BG x4) (fun v => b_X7_pastRun_38 M v)
set_option maxRecDepth 20000 in
set_option maxHeartbeats 2000000 in
theorem w_X7_pastRun_3 {x : xC} (C : CtC x RX7 cX7_pastRun 5 ({ frames := 1, cells := 0, slots := 0, locals := 21 } : Room)) (M : xM) (x2 : Int32) (x3 : Int32) (x4 : Int32)  (o : Int32) (h : b_X7_pastRun_3 M x2 x3 x4 = some o) (hr : (x_me x).sig.returnType = some .int) (ev : x_rv x = some (.int o)) (eM : x_M x = M) : J x M 3 [(0, .ref (x_ad x 1)), (2, .int x2), (3, .int x3), (4, .int x4)] [] := by
  unfold b_X7_pastRun_3 at h
  obtain ⟨r_0, hr_0, h⟩ := bd_E h
  refine loopN_ind (JJ := fun s => J x M 3 [(0, .ref (x_ad x 1)), (2, .int x2), (3, .int x3), (4, .int s)] []) (KX := fun q => q = r_0) ?_ BG x4 r_0 hr_0 rfl
  intro s o1 hb kk1 kk2
  refine wl_X7_pastRun_3 C M x2 x3 s _ hb kk1 ?_
  · intro v e0
    have e1 := kk2 _ e0
    subst e1
    exact r_sub [0] rfl (w_X7_pastRun_38 C M v _ h hr ev eM)

def b_X7_pastRun_0 (M : xM) (x1 : Int32) (x2 : Int32) (x3 : Int32) : Option (Int32) :=
  b_X7_pastRun_3 M x2 x3 x1
set_option maxRecDepth 20000 in
set_option maxHeartbeats 2000000 in
theorem w_X7_pastRun_0 {x : xC} (C : CtC x RX7 cX7_pastRun 5 ({ frames := 1, cells := 0, slots := 0, locals := 21 } : Room)) (M : xM) (x1 : Int32) (x2 : Int32) (x3 : Int32)  (o : Int32) (h : b_X7_pastRun_0 M x1 x2 x3 = some o) (hr : (x_me x).sig.returnType = some .int) (ev : x_rv x = some (.int o)) (eM : x_M x = M) : J x M 0 [(0, .ref (x_ad x 1)), (1, .int x1), (2, .int x2), (3, .int x3)] [] := by
  unfold b_X7_pastRun_0 at h
  refine r_iload_n C.1 1 dX7_pastRun_0 rfl rfl ?_
  refine r_istore C.1 [(4, .int x1), (0, .ref (x_ad x 1)), (1, .int x1), (2, .int x2), (3, .int x3)] dX7_pastRun_1 (by decide) rfl rfl ?_
  exact r_sub [1, 3, 4, 0] rfl (w_X7_pastRun_3 C M x2 x3 x1 _ h hr ev eM)
def f_X7_pastRun (M : xM) (x1 : Int32) (x2 : Int32) (x3 : Int32) : Option (Int32) := b_X7_pastRun_0 M x1 x2 x3
set_option maxRecDepth 20000 in
theorem m_X7_pastRun (l : Launch) (D : va_G) (ad : Nat → Nat) (M : xM) (x1 : Int32) (x2 : Int32) (x3 : Int32)  {o : Int32} (h : f_X7_pastRun M x1 x2 x3 = some o) : xMetC l yX7_pastRun cX7_pastRun 5 (some .int) ({ frames := 1, cells := 0, slots := 0, locals := 21 } : Room) [.ref (ad 1), .int x1, .int x2, .int x3] D ad M (some (.int o)) M := by
  refine xMetC_of (own := RX7) (by decide) rfl (Nat.le_of_ble_eq_true rfl) ?_
  intro x C e1 e2 e3 ev eM hr
  subst e1; subst e2; subst e3
  refine r_sub (L := [(0, .ref (x_ad x 1)), (1, .int x1), (2, .int x2), (3, .int x3)]) (L' := [(0, .ref (x_ad x 1)), (1, .int x1), (2, .int x2), (3, .int x3)]) [0, 1, 2, 3] rfl ?_
  exact w_X7_pastRun_0 C M x1 x2 x3 _ h hr ev eM

def bl_X7_isWord_15 (M : xM) (x1 : Int32) (k3 : Nat) (x4 : Int32) : Option ((Int32) ⊕ ((Unit) ⊕ (Unit))) :=
  if (Int32.ofNat (sLen k3)) ≤ x4 then some (.inr (.inr ())) else bd (f_X7_byteAt M (x1 + x4)) (fun r_2 => gd x4 (sLen k3) (if r_2 = (sByt k3 x4.toNatClampNeg) then lt (x4 + (1 : Int32)) (fun y_6 => some (.inl y_6)) else some (.inr (.inl ()))))
set_option maxRecDepth 20000 in
set_option maxHeartbeats 2000000 in
theorem wl_X7_isWord_15 {x : xC} (C : CtC x RX7 cX7_isWord 5 ({ frames := 4, cells := 0, slots := 0, locals := 85 } : Room)) (M : xM) (x1 : Int32) (k3 : Nat) (x4 : Int32) (h3 : KS k3) (o : (Int32) ⊕ ((Unit) ⊕ (Unit))) (h : bl_X7_isWord_15 M x1 k3 x4 = some o) (kh : ∀ s : Int32, o = .inl s → J x M 15 [(0, .ref (x_ad x 1)), (1, .int x1), (3, .ref (x_ad x (1020 + k3))), (4, .int s)] []) (ke_0 : ∀ v : Unit, o = .inr (.inl v) → J x M 41 [] []) (ke_1 : ∀ v : Unit, o = .inr (.inr v) → J x M 49 [] []) : J x M 15 [(0, .ref (x_ad x 1)), (1, .int x1), (3, .ref (x_ad x (1020 + k3))), (4, .int x4)] [] := by
  unfold bl_X7_isWord_15 at h
  refine r_iload C.1 3 dX7_isWord_15 rfl ?_
  refine r_aload_n C.1 2 dX7_isWord_17 rfl rfl ?_
  refine r_callO C.1 C.2.2.2.2 (As := []) (nn := 0) (js_length _ _ _ _ _ _ M h3) ⟨kw_393, kw_394, kw_395, kw_12, kw_396⟩ ⟨rfl, by decide +kernel, by decide +kernel, by decide +kernel⟩ ⟨rfl, rfl, Nat.le_of_ble_eq_true rfl, Nat.le_of_ble_eq_true rfl⟩ (cStr C.2.2.2.2 h3) rfl rfl (Nat.le_of_ble_eq_true rfl) dX7_isWord_18 ?_
  refine r_icmp_ge C.1 49 dX7_isWord_21 (by decide) (fun c_1 => ?_) (fun c_1 => ?_)
  · replace h := ite_T c_1 h
    exact r_sub [] rfl (ke_1 _ (Option.some.inj h).symm)
  · replace h := ite_F c_1 h
    refine r_aload_n C.1 0 dX7_isWord_24 rfl rfl ?_
    refine r_iload_n C.1 1 dX7_isWord_25 rfl rfl ?_
    refine r_iload C.1 3 dX7_isWord_26 rfl ?_
    refine r_iadd C.1 dX7_isWord_28 ?_
    obtain ⟨r_2, hc_3, h⟩ := bd_E h
    refine cl_X7_19 C ⟨Nat.le_of_ble_eq_true rfl, Nat.le_of_ble_eq_true rfl⟩ (m_X7_byteAt _ _ _ M (x1 + x4) hc_3) (Nat.le_of_ble_eq_true rfl) dX7_isWord_29 ?_
    refine r_aload_n C.1 2 dX7_isWord_32 rfl rfl ?_
    refine r_iload C.1 3 dX7_isWord_33 rfl ?_
    obtain ⟨q_4, h⟩ := gd_E h
    refine r_callO C.1 C.2.2.2.2 (As := [.int x4]) (nn := 1) (js_charAt _ _ _ _ _ _ M h3 x4 q_4) ⟨kw_403, kw_404, kw_405, kw_12, kw_406⟩ ⟨rfl, by decide +kernel, by decide +kernel, by decide +kernel⟩ ⟨rfl, rfl, Nat.le_of_ble_eq_true rfl, Nat.le_of_ble_eq_true rfl⟩ (cStr C.2.2.2.2 h3) rfl rfl (Nat.le_of_ble_eq_true rfl) dX7_isWord_35 ?_
    refine r_icmp_eq C.1 43 dX7_isWord_38 (by decide) (fun c_5 => ?_) (fun c_5 => ?_)
    · replace h := ite_T c_5 h
      obtain ⟨y_6, ey_6, h⟩ := lt_E h
      refine r_iinc C.1 3 [(4, .int y_6), (0, .ref (x_ad x 1)), (1, .int x1), (3, .ref (x_ad x (1020 + k3)))] dX7_isWord_43 rfl ey_6 (by decide) rfl ?_
      refine r_goto C.1 15 dX7_isWord_46 (by decide) ?_
      exact r_sub [1, 2, 3, 0] rfl (kh _ (Option.some.inj h).symm)
    · replace h := ite_F c_5 h
      exact r_sub [] rfl (ke_0 _ (Option.some.inj h).symm)

def b_X7_isWord_15 (M : xM) (x1 : Int32) (k3 : Nat) (x4 : Int32) : Option (Int32) :=
  bd (loopN (fun s : Int32 => bl_X7_isWord_15 M x1 k3 s) BG x4) (fun r => sm r (fun v => some (0 : Int32)) (fun v => some (1 : Int32)))
set_option maxRecDepth 20000 in
set_option maxHeartbeats 2000000 in
theorem w_X7_isWord_15 {x : xC} (C : CtC x RX7 cX7_isWord 5 ({ frames := 4, cells := 0, slots := 0, locals := 85 } : Room)) (M : xM) (x1 : Int32) (k3 : Nat) (x4 : Int32) (h3 : KS k3) (o : Int32) (h : b_X7_isWord_15 M x1 k3 x4 = some o) (hr : (x_me x).sig.returnType = some .boolean) (ev : x_rv x = some (.int o)) (eM : x_M x = M) : J x M 15 [(0, .ref (x_ad x 1)), (1, .int x1), (3, .ref (x_ad x (1020 + k3))), (4, .int x4)] [] := by
  unfold b_X7_isWord_15 at h
  obtain ⟨r_0, hr_0, h⟩ := bd_E h
  refine loopN_ind (JJ := fun s => J x M 15 [(0, .ref (x_ad x 1)), (1, .int x1), (3, .ref (x_ad x (1020 + k3))), (4, .int s)] []) (KX := fun q => q = r_0) ?_ BG x4 r_0 hr_0 rfl
  intro s o1 hb kk1 kk2
  refine wl_X7_isWord_15 C M x1 k3 s h3 _ hb kk1 ?_ ?_
  · intro v e0
    have e1 := kk2 _ e0
    subst e1
    replace h := sm_l h
    refine r_iconst (v := 0) C.1 dX7_isWord_41 rfl ?_
    obtain rfl := Option.some.inj h
    exact r_zret C.1 hr rfl ev eM dX7_isWord_42
  · intro v e0
    have e1 := kk2 _ e0
    subst e1
    replace h := sm_r h
    refine r_iconst (v := 1) C.1 dX7_isWord_49 rfl ?_
    obtain rfl := Option.some.inj h
    exact r_zret C.1 hr rfl ev eM dX7_isWord_50

def b_X7_isWord_0 (M : xM) (x1 : Int32) (x2 : Int32) (k3 : Nat) : Option (Int32) :=
  if (x2 - x1) = (Int32.ofNat (sLen k3)) then b_X7_isWord_15 M x1 k3 (0 : Int32) else some (0 : Int32)
set_option maxRecDepth 20000 in
set_option maxHeartbeats 2000000 in
theorem w_X7_isWord_0 {x : xC} (C : CtC x RX7 cX7_isWord 5 ({ frames := 4, cells := 0, slots := 0, locals := 85 } : Room)) (M : xM) (x1 : Int32) (x2 : Int32) (k3 : Nat) (h3 : KS k3) (o : Int32) (h : b_X7_isWord_0 M x1 x2 k3 = some o) (hr : (x_me x).sig.returnType = some .boolean) (ev : x_rv x = some (.int o)) (eM : x_M x = M) : J x M 0 [(0, .ref (x_ad x 1)), (1, .int x1), (2, .int x2), (3, .ref (x_ad x (1020 + k3)))] [] := by
  unfold b_X7_isWord_0 at h
  refine r_iload_n C.1 2 dX7_isWord_0 rfl rfl ?_
  refine r_iload_n C.1 1 dX7_isWord_1 rfl rfl ?_
  refine r_isub C.1 dX7_isWord_2 ?_
  refine r_aload_n C.1 3 dX7_isWord_3 rfl rfl ?_
  refine r_callO C.1 C.2.2.2.2 (As := []) (nn := 0) (js_length _ _ _ _ _ _ M h3) ⟨kw_393, kw_394, kw_395, kw_12, kw_396⟩ ⟨rfl, by decide +kernel, by decide +kernel, by decide +kernel⟩ ⟨rfl, rfl, Nat.le_of_ble_eq_true rfl, Nat.le_of_ble_eq_true rfl⟩ (cStr C.2.2.2.2 h3) rfl rfl (Nat.le_of_ble_eq_true rfl) dX7_isWord_4 ?_
  refine r_icmp_eq C.1 12 dX7_isWord_7 (by decide) (fun c_1 => ?_) (fun c_1 => ?_)
  · replace h := ite_T c_1 h
    refine r_iconst (v := 0) C.1 dX7_isWord_12 rfl ?_
    refine r_istore C.1 [(4, .int (0 : Int32)), (0, .ref (x_ad x 1)), (1, .int x1), (2, .int x2), (3, .ref (x_ad x (1020 + k3)))] dX7_isWord_13 (by decide) rfl rfl ?_
    exact r_sub [1, 2, 4, 0] rfl (w_X7_isWord_15 C M x1 k3 (0 : Int32) h3 _ h hr ev eM)
  · replace h := ite_F c_1 h
    refine r_iconst (v := 0) C.1 dX7_isWord_10 rfl ?_
    obtain rfl := Option.some.inj h
    exact r_zret C.1 hr rfl ev eM dX7_isWord_11
def f_X7_isWord (M : xM) (x1 : Int32) (x2 : Int32) (k3 : Nat) : Option (Int32) := b_X7_isWord_0 M x1 x2 k3
set_option maxRecDepth 20000 in
theorem m_X7_isWord (l : Launch) (D : va_G) (ad : Nat → Nat) (M : xM) (x1 : Int32) (x2 : Int32) (k3 : Nat) (h3 : KS k3) {o : Int32} (h : f_X7_isWord M x1 x2 k3 = some o) : xMetC l yX7_isWord cX7_isWord 5 (some .boolean) ({ frames := 4, cells := 0, slots := 0, locals := 85 } : Room) [.ref (ad 1), .int x1, .int x2, .ref (ad (1020 + k3))] D ad M (some (.int o)) M := by
  refine xMetC_of (own := RX7) (by decide) rfl (Nat.le_of_ble_eq_true rfl) ?_
  intro x C e1 e2 e3 ev eM hr
  subst e1; subst e2; subst e3
  refine r_sub (L := [(0, .ref (x_ad x 1)), (1, .int x1), (2, .int x2), (3, .ref (x_ad x (1020 + k3)))]) (L' := [(0, .ref (x_ad x 1)), (1, .int x1), (2, .int x2), (3, .ref (x_ad x (1020 + k3)))]) [0, 1, 2, 3] rfl ?_
  exact w_X7_isWord_0 C M x1 x2 k3 h3 _ h hr ev eM

def bl_X6_ruleAt_3 (M : xM) (x2 : Int32) (x3 : Int32) (x4 : Int32) : Option ((Int32) ⊕ ((Int32) ⊕ (Unit))) :=
  if (7 : Int32) ≤ x4 then some (.inr (.inr ())) else gd x4 7 (bd (f_X7_isWord M x2 x3 x4.toNatClampNeg) (fun r_3 => if r_3 = 0 then lt (x4 + (1 : Int32)) (fun y_6 => some (.inl y_6)) else some (.inr (.inl x4))))
set_option maxRecDepth 20000 in
set_option maxHeartbeats 2000000 in
theorem wl_X6_ruleAt_3 {x : xC} (C : CtC x RX6 cX6_ruleAt 5 ({ frames := 5, cells := 0, slots := 0, locals := 109 } : Room)) (M : xM) (x2 : Int32) (x3 : Int32) (x4 : Int32)  (o : (Int32) ⊕ ((Int32) ⊕ (Unit))) (h : bl_X6_ruleAt_3 M x2 x3 x4 = some o) (kh : ∀ s : Int32, o = .inl s → J x M 3 [(1, .ref (x_ad x 1)), (2, .int x2), (3, .int x3), (4, .int s)] []) (ke_0 : ∀ v : Int32, o = .inr (.inl v) → J x M 30 [(4, .int v)] []) (ke_1 : ∀ v : Unit, o = .inr (.inr v) → J x M 39 [] []) : J x M 3 [(1, .ref (x_ad x 1)), (2, .int x2), (3, .int x3), (4, .int x4)] [] := by
  unfold bl_X6_ruleAt_3 at h
  refine r_iload C.1 3 dX6_ruleAt_3 rfl ?_
  refine r_getsN (ref := RX10) (host := RX10) C.1 C.2.2.2.2 (C.2.2.2.2.2.2.2.2.1.1) (by decide +kernel) rfl dX6_ruleAt_5 ?_
  refine r_tlen C.1 (C.2.2.2.2.2.2.2.2.1.2) (v := 7) rfl dX6_ruleAt_8 ?_
  refine r_icmp_ge C.1 39 dX6_ruleAt_9 (by decide) (fun c_1 => ?_) (fun c_1 => ?_)
  · replace h := ite_T c_1 h
    exact r_sub [] rfl (ke_1 _ (Option.some.inj h).symm)
  · replace h := ite_F c_1 h
    refine r_aload_n C.1 0 dX6_ruleAt_12 rfl rfl ?_
    refine r_iload_n C.1 1 dX6_ruleAt_13 rfl rfl ?_
    refine r_iload_n C.1 2 dX6_ruleAt_14 rfl rfl ?_
    refine r_getsN (ref := RX10) (host := RX10) C.1 C.2.2.2.2 (C.2.2.2.2.2.2.2.2.1.1) (by decide +kernel) rfl dX6_ruleAt_15 ?_
    refine r_iload C.1 3 dX6_ruleAt_18 rfl ?_
    obtain ⟨q_2, h⟩ := gd_E h
    refine r_tq C.1 (C.2.2.2.2.2.2.2.2.1.2) q_2 rfl dX6_ruleAt_20 ?_
    refine r_getX (ad := fun j => x_ad x (1010 + j)) (i := x4.toNatClampNeg) C.1 C.2.2.2.2.2.2.2.2.2.2.2.2.2.1 (vp_lt q_2) kw_1871 rfl dX6_ruleAt_21 ?_
    obtain ⟨r_3, hc_4, h⟩ := bd_E h
    refine cl_X6_75 C ⟨Nat.le_of_ble_eq_true rfl, Nat.le_of_ble_eq_true rfl⟩ (m_X7_isWord _ _ _ M x2 x3 x4.toNatClampNeg (ks7 (vp_lt q_2)) hc_4) (Nat.le_of_ble_eq_true rfl) dX6_ruleAt_24 ?_
    refine r_if_eq C.1 33 dX6_ruleAt_27 (by decide) (fun c_5 => ?_) (fun c_5 => ?_)
    · replace h := ite_T c_5 h
      obtain ⟨y_6, ey_6, h⟩ := lt_E h
      refine r_iinc C.1 3 [(4, .int y_6), (1, .ref (x_ad x 1)), (2, .int x2), (3, .int x3)] dX6_ruleAt_33 rfl ey_6 (by decide) rfl ?_
      refine r_goto C.1 3 dX6_ruleAt_36 (by decide) ?_
      exact r_sub [1, 2, 3, 0] rfl (kh _ (Option.some.inj h).symm)
    · replace h := ite_F c_5 h
      exact r_sub [3] rfl (ke_0 _ (Option.some.inj h).symm)

def b_X6_ruleAt_3 (M : xM) (x2 : Int32) (x3 : Int32) (x4 : Int32) : Option (Int32) :=
  bd (loopN (fun s : Int32 => bl_X6_ruleAt_3 M x2 x3 s) BG x4) (fun r => sm r (fun v => some v) (fun v => some (-1 : Int32)))
set_option maxRecDepth 20000 in
set_option maxHeartbeats 2000000 in
theorem w_X6_ruleAt_3 {x : xC} (C : CtC x RX6 cX6_ruleAt 5 ({ frames := 5, cells := 0, slots := 0, locals := 109 } : Room)) (M : xM) (x2 : Int32) (x3 : Int32) (x4 : Int32)  (o : Int32) (h : b_X6_ruleAt_3 M x2 x3 x4 = some o) (hr : (x_me x).sig.returnType = some .int) (ev : x_rv x = some (.int o)) (eM : x_M x = M) : J x M 3 [(1, .ref (x_ad x 1)), (2, .int x2), (3, .int x3), (4, .int x4)] [] := by
  unfold b_X6_ruleAt_3 at h
  obtain ⟨r_0, hr_0, h⟩ := bd_E h
  refine loopN_ind (JJ := fun s => J x M 3 [(1, .ref (x_ad x 1)), (2, .int x2), (3, .int x3), (4, .int s)] []) (KX := fun q => q = r_0) ?_ BG x4 r_0 hr_0 rfl
  intro s o1 hb kk1 kk2
  refine wl_X6_ruleAt_3 C M x2 x3 s _ hb kk1 ?_ ?_
  · intro v e0
    have e1 := kk2 _ e0
    subst e1
    replace h := sm_l h
    refine r_iload C.1 0 dX6_ruleAt_30 rfl ?_
    obtain rfl := Option.some.inj h
    exact r_iret C.1 hr ev eM dX6_ruleAt_32
  · intro v e0
    have e1 := kk2 _ e0
    subst e1
    replace h := sm_r h
    refine r_iconst (v := -1) C.1 dX6_ruleAt_39 rfl ?_
    obtain rfl := Option.some.inj h
    exact r_iret C.1 hr ev eM dX6_ruleAt_40

def b_X6_ruleAt_0 (M : xM) (x2 : Int32) (x3 : Int32) : Option (Int32) :=
  b_X6_ruleAt_3 M x2 x3 (0 : Int32)
set_option maxRecDepth 20000 in
set_option maxHeartbeats 2000000 in
theorem w_X6_ruleAt_0 {x : xC} (C : CtC x RX6 cX6_ruleAt 5 ({ frames := 5, cells := 0, slots := 0, locals := 109 } : Room)) (M : xM) (x2 : Int32) (x3 : Int32)  (o : Int32) (h : b_X6_ruleAt_0 M x2 x3 = some o) (hr : (x_me x).sig.returnType = some .int) (ev : x_rv x = some (.int o)) (eM : x_M x = M) : J x M 0 [(1, .ref (x_ad x 1)), (2, .int x2), (3, .int x3)] [] := by
  unfold b_X6_ruleAt_0 at h
  refine r_iconst (v := 0) C.1 dX6_ruleAt_0 rfl ?_
  refine r_istore C.1 [(4, .int (0 : Int32)), (1, .ref (x_ad x 1)), (2, .int x2), (3, .int x3)] dX6_ruleAt_1 (by decide) rfl rfl ?_
  exact r_sub [1, 2, 3, 0] rfl (w_X6_ruleAt_3 C M x2 x3 (0 : Int32) _ h hr ev eM)
def f_X6_ruleAt (M : xM) (x2 : Int32) (x3 : Int32) : Option (Int32) := b_X6_ruleAt_0 M x2 x3
set_option maxRecDepth 20000 in
theorem m_X6_ruleAt (l : Launch) (D : va_G) (ad : Nat → Nat) (M : xM) (x2 : Int32) (x3 : Int32)  {o : Int32} (h : f_X6_ruleAt M x2 x3 = some o) : xMetC l yX6_ruleAt cX6_ruleAt 5 (some .int) ({ frames := 5, cells := 0, slots := 0, locals := 109 } : Room) [.ref (ad 3), .ref (ad 1), .int x2, .int x3] D ad M (some (.int o)) M := by
  refine xMetC_of (own := RX6) (by decide) rfl (Nat.le_of_ble_eq_true rfl) ?_
  intro x C e1 e2 e3 ev eM hr
  subst e1; subst e2; subst e3
  refine r_sub (L := [(0, .ref (x_ad x 3)), (1, .ref (x_ad x 1)), (2, .int x2), (3, .int x3)]) (L' := [(1, .ref (x_ad x 1)), (2, .int x2), (3, .int x3)]) [1, 2, 3] rfl ?_
  exact w_X6_ruleAt_0 C M x2 x3 _ h hr ev eM

def b_X6_numberIn_12 (M : xM)  : Option (Int32) :=
  some (-1 : Int32)
set_option maxRecDepth 20000 in
set_option maxHeartbeats 2000000 in
theorem w_X6_numberIn_12 {x : xC} (C : CtC x RX6 cX6_numberIn 6 ({ frames := 1, cells := 0, slots := 0, locals := 21 } : Room)) (M : xM)   (o : Int32) (h : b_X6_numberIn_12 M = some o) (hr : (x_me x).sig.returnType = some .int) (ev : x_rv x = some (.int o)) (eM : x_M x = M) : J x M 12 [] [] := by
  unfold b_X6_numberIn_12 at h
  refine r_iconst (v := -1) C.1 dX6_numberIn_12 rfl ?_
  obtain rfl := Option.some.inj h
  exact r_iret C.1 hr ev eM dX6_numberIn_13

def bl_X6_numberIn_20 (M : xM) (x3 : Int32) (x4 : Int32) (x5 : Int32) : Option ((Int32 × Int32) ⊕ (Int32)) :=
  if x3 ≤ x5 then some (.inr x4) else bd (f_X7_byteAt M x5) (fun r_2 => lt (((x4 * (10 : Int32)) + r_2) - (48 : Int32)) (fun y_4 => lt (x5 + (1 : Int32)) (fun y_5 => some (.inl (y_4, y_5)))))
set_option maxRecDepth 20000 in
set_option maxHeartbeats 2000000 in
theorem wl_X6_numberIn_20 {x : xC} (C : CtC x RX6 cX6_numberIn 6 ({ frames := 1, cells := 0, slots := 0, locals := 21 } : Room)) (M : xM) (x3 : Int32) (x4 : Int32) (x5 : Int32)  (o : (Int32 × Int32) ⊕ (Int32)) (h : bl_X6_numberIn_20 M x3 x4 x5 = some o) (kh : ∀ s : Int32 × Int32, o = .inl s → J x M 20 [(1, .ref (x_ad x 1)), (3, .int x3), (4, .int s.1), (5, .int s.2)] []) (ke_0 : ∀ v : Int32, o = .inr v → J x M 49 [(4, .int v)] []) : J x M 20 [(1, .ref (x_ad x 1)), (3, .int x3), (4, .int x4), (5, .int x5)] [] := by
  unfold bl_X6_numberIn_20 at h
  refine r_iload C.1 3 dX6_numberIn_20 rfl ?_
  refine r_iload_n C.1 1 dX6_numberIn_22 rfl rfl ?_
  refine r_icmp_ge C.1 49 dX6_numberIn_23 (by decide) (fun c_1 => ?_) (fun c_1 => ?_)
  · replace h := ite_T c_1 h
    exact r_sub [2] rfl (ke_0 _ (Option.some.inj h).symm)
  · replace h := ite_F c_1 h
    refine r_iload C.1 2 dX6_numberIn_26 rfl ?_
    refine r_bipush (v := 10) C.1 dX6_numberIn_28 (by decide) ?_
    refine r_imul C.1 dX6_numberIn_30 ?_
    refine r_aload_n C.1 0 dX6_numberIn_31 rfl rfl ?_
    refine r_iload C.1 3 dX6_numberIn_32 rfl ?_
    obtain ⟨r_2, hc_3, h⟩ := bd_E h
    refine cl_X6_46 C ⟨Nat.le_of_ble_eq_true rfl, Nat.le_of_ble_eq_true rfl⟩ (m_X7_byteAt _ _ _ M x5 hc_3) (Nat.le_of_ble_eq_true rfl) dX6_numberIn_34 ?_
    refine r_iadd C.1 dX6_numberIn_37 ?_
    refine r_bipush (v := 48) C.1 dX6_numberIn_38 (by decide) ?_
    refine r_isub C.1 dX6_numberIn_40 ?_
    obtain ⟨y_4, ey_4, h⟩ := lt_E h
    refine r_istore C.1 [(4, .int y_4), (1, .ref (x_ad x 1)), (3, .int x3), (5, .int x5)] dX6_numberIn_41 (by decide) ey_4 rfl ?_
    obtain ⟨y_5, ey_5, h⟩ := lt_E h
    refine r_iinc C.1 3 [(5, .int y_5), (4, .int y_4), (1, .ref (x_ad x 1)), (3, .int x3)] dX6_numberIn_43 rfl ey_5 (by decide) rfl ?_
    refine r_goto C.1 20 dX6_numberIn_46 (by decide) ?_
    exact r_sub [2, 3, 1, 0] rfl (kh _ (Option.some.inj h).symm)

def b_X6_numberIn_20 (M : xM) (x3 : Int32) (x4 : Int32) (x5 : Int32) : Option (Int32) :=
  bd (loopN (fun s : Int32 × Int32 => bl_X6_numberIn_20 M x3 s.1 s.2) BG (x4, x5)) (fun v => some v)
set_option maxRecDepth 20000 in
set_option maxHeartbeats 2000000 in
theorem w_X6_numberIn_20 {x : xC} (C : CtC x RX6 cX6_numberIn 6 ({ frames := 1, cells := 0, slots := 0, locals := 21 } : Room)) (M : xM) (x3 : Int32) (x4 : Int32) (x5 : Int32)  (o : Int32) (h : b_X6_numberIn_20 M x3 x4 x5 = some o) (hr : (x_me x).sig.returnType = some .int) (ev : x_rv x = some (.int o)) (eM : x_M x = M) : J x M 20 [(1, .ref (x_ad x 1)), (3, .int x3), (4, .int x4), (5, .int x5)] [] := by
  unfold b_X6_numberIn_20 at h
  obtain ⟨r_0, hr_0, h⟩ := bd_E h
  refine loopN_ind (JJ := fun s => J x M 20 [(1, .ref (x_ad x 1)), (3, .int x3), (4, .int s.1), (5, .int s.2)] []) (KX := fun q => q = r_0) ?_ BG (x4, x5) r_0 hr_0 rfl
  intro s o1 hb kk1 kk2
  refine wl_X6_numberIn_20 C M x3 s.1 s.2 _ hb kk1 ?_
  · intro v e0
    have e1 := kk2 _ e0
    subst e1
    refine r_iload C.1 0 dX6_numberIn_49 rfl ?_
    obtain rfl := Option.some.inj h
    exact r_iret C.1 hr ev eM dX6_numberIn_51

def b_X6_numberIn_0 (M : xM) (x2 : Int32) (x3 : Int32) : Option (Int32) :=
  if x3 = x2 then b_X6_numberIn_12 M else if (x3 - x2) ≤ (4 : Int32) then b_X6_numberIn_20 M x3 (0 : Int32) x2 else b_X6_numberIn_12 M
set_option maxRecDepth 20000 in
set_option maxHeartbeats 2000000 in
theorem w_X6_numberIn_0 {x : xC} (C : CtC x RX6 cX6_numberIn 6 ({ frames := 1, cells := 0, slots := 0, locals := 21 } : Room)) (M : xM) (x2 : Int32) (x3 : Int32)  (o : Int32) (h : b_X6_numberIn_0 M x2 x3 = some o) (hr : (x_me x).sig.returnType = some .int) (ev : x_rv x = some (.int o)) (eM : x_M x = M) : J x M 0 [(1, .ref (x_ad x 1)), (2, .int x2), (3, .int x3)] [] := by
  unfold b_X6_numberIn_0 at h
  refine r_iload_n C.1 2 dX6_numberIn_0 rfl rfl ?_
  refine r_iload_n C.1 1 dX6_numberIn_1 rfl rfl ?_
  refine r_icmp_eq C.1 12 dX6_numberIn_2 (by decide) (fun c_1 => ?_) (fun c_1 => ?_)
  · replace h := ite_T c_1 h
    exact r_sub [] rfl (w_X6_numberIn_12 C M _ h hr ev eM)
  · replace h := ite_F c_1 h
    refine r_iload_n C.1 2 dX6_numberIn_5 rfl rfl ?_
    refine r_iload_n C.1 1 dX6_numberIn_6 rfl rfl ?_
    refine r_isub C.1 dX6_numberIn_7 ?_
    refine r_iconst (v := 4) C.1 dX6_numberIn_8 rfl ?_
    refine r_icmp_le C.1 14 dX6_numberIn_9 (by decide) (fun c_2 => ?_) (fun c_2 => ?_)
    · replace h := ite_T c_2 h
      refine r_iconst (v := 0) C.1 dX6_numberIn_14 rfl ?_
      refine r_istore C.1 [(4, .int (0 : Int32)), (1, .ref (x_ad x 1)), (2, .int x2), (3, .int x3)] dX6_numberIn_15 (by decide) rfl rfl ?_
      refine r_iload_n C.1 2 dX6_numberIn_17 rfl rfl ?_
      refine r_istore C.1 [(5, .int x2), (4, .int (0 : Int32)), (1, .ref (x_ad x 1)), (2, .int x2), (3, .int x3)] dX6_numberIn_18 (by decide) rfl rfl ?_
      exact r_sub [2, 4, 1, 0] rfl (w_X6_numberIn_20 C M x3 (0 : Int32) x2 _ h hr ev eM)
    · replace h := ite_F c_2 h
      exact r_sub [] rfl (w_X6_numberIn_12 C M _ h hr ev eM)
def f_X6_numberIn (M : xM) (x2 : Int32) (x3 : Int32) : Option (Int32) := b_X6_numberIn_0 M x2 x3
set_option maxRecDepth 20000 in
theorem m_X6_numberIn (l : Launch) (D : va_G) (ad : Nat → Nat) (M : xM) (x2 : Int32) (x3 : Int32)  {o : Int32} (h : f_X6_numberIn M x2 x3 = some o) : xMetC l yX6_numberIn cX6_numberIn 6 (some .int) ({ frames := 1, cells := 0, slots := 0, locals := 21 } : Room) [.ref (ad 3), .ref (ad 1), .int x2, .int x3] D ad M (some (.int o)) M := by
  refine xMetC_of (own := RX6) (by decide) rfl (Nat.le_of_ble_eq_true rfl) ?_
  intro x C e1 e2 e3 ev eM hr
  subst e1; subst e2; subst e3
  refine r_sub (L := [(0, .ref (x_ad x 3)), (1, .ref (x_ad x 1)), (2, .int x2), (3, .int x3)]) (L' := [(1, .ref (x_ad x 1)), (2, .int x2), (3, .int x3)]) [1, 2, 3] rfl ?_
  exact w_X6_numberIn_0 C M x2 x3 _ h hr ev eM

def b_X6_readLine_113 (M : xM) (x5 : Int32) : Option (Int32 × xM) :=
  some (x5, M)
set_option maxRecDepth 20000 in
set_option maxHeartbeats 2000000 in
theorem w_X6_readLine_113 {x : xC} (C : CtC x RX6 cX6_readLine 7 ({ frames := 6, cells := 0, slots := 0, locals := 133 } : Room)) (M : xM) (x5 : Int32)  (o : Int32 × xM) (h : b_X6_readLine_113 M x5 = some o) (hr : (x_me x).sig.returnType = some .int) (ev : x_rv x = some (.int o.1)) (eM : x_M x = o.2) : J x M 113 [(5, .int x5)] [] := by
  unfold b_X6_readLine_113 at h
  refine r_iload C.1 0 dX6_readLine_113 rfl ?_
  obtain rfl := Option.some.inj h
  exact r_iret C.1 hr ev eM dX6_readLine_115

def b_X6_readLine_45 (M : xM) (x2 : Int32) : Option (Int32 × xM) :=
  some (x2, M)
set_option maxRecDepth 20000 in
set_option maxHeartbeats 2000000 in
theorem w_X6_readLine_45 {x : xC} (C : CtC x RX6 cX6_readLine 7 ({ frames := 6, cells := 0, slots := 0, locals := 133 } : Room)) (M : xM) (x2 : Int32)  (o : Int32 × xM) (h : b_X6_readLine_45 M x2 = some o) (hr : (x_me x).sig.returnType = some .int) (ev : x_rv x = some (.int o.1)) (eM : x_M x = o.2) : J x M 45 [(2, .int x2)] [] := by
  unfold b_X6_readLine_45 at h
  refine r_iload_n C.1 0 dX6_readLine_45 rfl rfl ?_
  obtain rfl := Option.some.inj h
  exact r_iret C.1 hr ev eM dX6_readLine_46

def b_X6_readLine_0 (M : xM) (x2 : Int32) : Option (Int32 × xM) :=
  if x2 = (M 1 1) then some (x2, M) else bd (f_X7_pastRun M x2 (97 : Int32) (122 : Int32)) (fun r_2 => bd (f_X6_ruleAt M x2 r_2) (fun r_4 => if r_4 = (-1 : Int32) then b_X6_readLine_45 M x2 else gd r_4 7 (if (M 5 r_4.toNatClampNeg) = 0 then bd (f_X7_pastBlanks M r_2) (fun r_9 => if r_9 = (M 1 1) then some (r_9, M) else bd (f_X7_pastRun M r_9 (48 : Int32) (57 : Int32)) (fun r_12 => bd (f_X6_numberIn M r_9 r_12) (fun r_14 => gd r_4 7 (if r_14 < (fLo r_4.toNatClampNeg) then b_X6_readLine_113 M r_9 else gd r_4 7 (if r_14 ≤ (fHi r_4.toNatClampNeg) then gd r_4 7 (lt (uM M 4 r_4.toNatClampNeg r_14) (fun M_21 => gd r_4 7 (lt (uM M_21 5 r_4.toNatClampNeg (1 : Int32)) (fun M_23 => lt (uM M_23 3 2 ((M_23 3 2) + (1 : Int32))) (fun M_24 => some ((-1 : Int32), M_24)))))) else b_X6_readLine_113 M r_9))))) else b_X6_readLine_45 M x2)))
set_option maxRecDepth 20000 in
set_option maxHeartbeats 2000000 in
theorem w_X6_readLine_0 {x : xC} (C : CtC x RX6 cX6_readLine 7 ({ frames := 6, cells := 0, slots := 0, locals := 133 } : Room)) (M : xM) (x2 : Int32)  (o : Int32 × xM) (h : b_X6_readLine_0 M x2 = some o) (hr : (x_me x).sig.returnType = some .int) (ev : x_rv x = some (.int o.1)) (eM : x_M x = o.2) : J x M 0 [(0, .ref (x_ad x 3)), (1, .ref (x_ad x 1)), (2, .int x2)] [] := by
  unfold b_X6_readLine_0 at h
  refine r_iload_n C.1 2 dX6_readLine_0 rfl rfl ?_
  refine r_aload_n C.1 1 dX6_readLine_1 rfl rfl ?_
  refine gf_X6_36 C dX6_readLine_2 ?_
  refine r_icmp_ne C.1 10 dX6_readLine_5 (by decide) (fun c_1 => ?_) (fun c_1 => ?_)
  · replace h := ite_F c_1 h
    refine r_aload_n C.1 1 dX6_readLine_10 rfl rfl ?_
    refine r_iload_n C.1 2 dX6_readLine_11 rfl rfl ?_
    refine r_bipush (v := 97) C.1 dX6_readLine_12 (by decide) ?_
    refine r_bipush (v := 122) C.1 dX6_readLine_14 (by decide) ?_
    obtain ⟨r_2, hc_3, h⟩ := bd_E h
    refine cl_X6_54 C ⟨Nat.le_of_ble_eq_true rfl, Nat.le_of_ble_eq_true rfl⟩ (m_X7_pastRun _ _ _ M x2 (97 : Int32) (122 : Int32) hc_3) (Nat.le_of_ble_eq_true rfl) dX6_readLine_16 ?_
    refine r_istore_n C.1 [(3, .int r_2), (0, .ref (x_ad x 3)), (1, .ref (x_ad x 1)), (2, .int x2)] dX6_readLine_19 rfl (by decide) rfl rfl ?_
    refine r_aload_n C.1 1 dX6_readLine_20 rfl rfl ?_
    refine r_aload_n C.1 2 dX6_readLine_21 rfl rfl ?_
    refine r_iload_n C.1 3 dX6_readLine_22 rfl rfl ?_
    refine r_iload_n C.1 0 dX6_readLine_23 rfl rfl ?_
    obtain ⟨r_4, hc_5, h⟩ := bd_E h
    refine cl_X6_58 C ⟨Nat.le_of_ble_eq_true rfl, Nat.le_of_ble_eq_true rfl⟩ (m_X6_ruleAt _ _ _ M x2 r_2 hc_5) (Nat.le_of_ble_eq_true rfl) dX6_readLine_24 ?_
    refine r_istore C.1 [(4, .int r_4), (3, .int r_2), (0, .ref (x_ad x 3)), (1, .ref (x_ad x 1)), (2, .int x2)] dX6_readLine_27 (by decide) rfl rfl ?_
    refine r_iload C.1 0 dX6_readLine_29 rfl ?_
    refine r_iconst (v := -1) C.1 dX6_readLine_31 rfl ?_
    refine r_icmp_eq C.1 45 dX6_readLine_32 (by decide) (fun c_6 => ?_) (fun c_6 => ?_)
    · replace h := ite_T c_6 h
      exact r_sub [4] rfl (w_X6_readLine_45 C M x2 _ h hr ev eM)
    · replace h := ite_F c_6 h
      refine r_aload_n C.1 2 dX6_readLine_35 rfl rfl ?_
      refine gf_X6_19 C dX6_readLine_36 ?_
      refine r_iload C.1 0 dX6_readLine_39 rfl ?_
      obtain ⟨q_7, h⟩ := gd_E h
      refine r_zald C.1 (cK C (by decide)) (cS C (sh_5)) 1 (cT1 C) q_7 dX6_readLine_41 ?_
      refine r_if_eq C.1 47 dX6_readLine_42 (by decide) (fun c_8 => ?_) (fun c_8 => ?_)
      · replace h := ite_T c_8 h
        refine r_aload_n C.1 3 dX6_readLine_47 rfl rfl ?_
        refine r_iload_n C.1 1 dX6_readLine_48 rfl rfl ?_
        obtain ⟨r_9, hc_10, h⟩ := bd_E h
        refine cl_X6_30 C ⟨Nat.le_of_ble_eq_true rfl, Nat.le_of_ble_eq_true rfl⟩ (m_X7_pastBlanks _ _ _ M r_2 hc_10) (Nat.le_of_ble_eq_true rfl) dX6_readLine_49 ?_
        refine r_istore C.1 [(5, .int r_9), (4, .int r_4), (3, .int r_2), (0, .ref (x_ad x 3)), (1, .ref (x_ad x 1)), (2, .int x2)] dX6_readLine_52 (by decide) rfl rfl ?_
        refine r_iload C.1 0 dX6_readLine_54 rfl ?_
        refine r_aload_n C.1 4 dX6_readLine_56 rfl rfl ?_
        refine gf_X6_36 C dX6_readLine_57 ?_
        refine r_icmp_ne C.1 66 dX6_readLine_60 (by decide) (fun c_11 => ?_) (fun c_11 => ?_)
        · replace h := ite_F c_11 h
          refine r_aload_n C.1 3 dX6_readLine_66 rfl rfl ?_
          refine r_aload_n C.1 4 dX6_readLine_67 rfl rfl ?_
          refine r_iload C.1 0 dX6_readLine_68 rfl ?_
          refine r_aload_n C.1 4 dX6_readLine_70 rfl rfl ?_
          refine r_iload C.1 0 dX6_readLine_71 rfl ?_
          refine r_bipush (v := 48) C.1 dX6_readLine_73 (by decide) ?_
          refine r_bipush (v := 57) C.1 dX6_readLine_75 (by decide) ?_
          obtain ⟨r_12, hc_13, h⟩ := bd_E h
          refine cl_X6_54 C ⟨Nat.le_of_ble_eq_true rfl, Nat.le_of_ble_eq_true rfl⟩ (m_X7_pastRun _ _ _ M r_9 (48 : Int32) (57 : Int32) hc_13) (Nat.le_of_ble_eq_true rfl) dX6_readLine_77 ?_
          obtain ⟨r_14, hc_15, h⟩ := bd_E h
          refine cl_X6_62 C ⟨Nat.le_of_ble_eq_true rfl, Nat.le_of_ble_eq_true rfl⟩ (m_X6_numberIn _ _ _ M r_9 r_12 hc_15) (Nat.le_of_ble_eq_true rfl) dX6_readLine_80 ?_
          refine r_istore C.1 [(6, .int r_14), (5, .int r_9), (4, .int r_4), (3, .int r_2), (0, .ref (x_ad x 3)), (1, .ref (x_ad x 1)), (2, .int x2)] dX6_readLine_83 (by decide) rfl rfl ?_
          refine r_iload C.1 0 dX6_readLine_85 rfl ?_
          refine r_getsN (ref := RX10) (host := RX10) C.1 C.2.2.2.2 (C.2.2.2.2.2.2.2.2.1.1) (by decide +kernel) rfl dX6_readLine_87 ?_
          refine r_iload C.1 2 dX6_readLine_90 rfl ?_
          obtain ⟨q_16, h⟩ := gd_E h
          refine r_tq C.1 (C.2.2.2.2.2.2.2.2.1.2) q_16 rfl dX6_readLine_92 ?_
          refine r_getX (ad := fun j => x_ad x (1010 + j)) (i := r_4.toNatClampNeg) C.1 (C.2.2.2.2.2.2.2.2.2.1) (vp_lt q_16) kw_1874 rfl dX6_readLine_93 ?_
          refine r_icmp_lt C.1 113 dX6_readLine_96 (by decide) (fun c_17 => ?_) (fun c_17 => ?_)
          · replace h := ite_T c_17 h
            exact r_sub [1] rfl (w_X6_readLine_113 C M r_9 _ h hr ev eM)
          · replace h := ite_F c_17 h
            refine r_iload C.1 0 dX6_readLine_99 rfl ?_
            refine r_getsN (ref := RX10) (host := RX10) C.1 C.2.2.2.2 (C.2.2.2.2.2.2.2.2.1.1) (by decide +kernel) rfl dX6_readLine_101 ?_
            refine r_iload C.1 2 dX6_readLine_104 rfl ?_
            obtain ⟨q_18, h⟩ := gd_E h
            refine r_tq C.1 (C.2.2.2.2.2.2.2.2.1.2) q_18 rfl dX6_readLine_106 ?_
            refine r_getX (ad := fun j => x_ad x (1010 + j)) (i := r_4.toNatClampNeg) C.1 (C.2.2.2.2.2.2.2.2.2.2.1) (vp_lt q_18) kw_1875 rfl dX6_readLine_107 ?_
            refine r_icmp_le C.1 116 dX6_readLine_110 (by decide) (fun c_19 => ?_) (fun c_19 => ?_)
            · replace h := ite_T c_19 h
              refine r_aload_n C.1 4 dX6_readLine_116 rfl rfl ?_
              refine gf_X6_13 C dX6_readLine_117 ?_
              refine r_iload C.1 2 dX6_readLine_120 rfl ?_
              refine r_iload C.1 0 dX6_readLine_122 rfl ?_
              obtain ⟨q_20, h⟩ := gd_E h
              obtain ⟨M_21, eM_21, h⟩ := lt_E h
              refine r_iast C.1 (cK C (by decide)) (cS C (sh_4)) 0 (cT0 C) q_20 eM_21 dX6_readLine_124 ?_
              refine r_aload_n C.1 4 dX6_readLine_125 rfl rfl ?_
              refine gf_X6_19 C dX6_readLine_126 ?_
              refine r_iload C.1 2 dX6_readLine_129 rfl ?_
              refine r_iconst (v := 1) C.1 dX6_readLine_131 rfl ?_
              obtain ⟨q_22, h⟩ := gd_E h
              obtain ⟨M_23, eM_23, h⟩ := lt_E h
              refine r_zast C.1 (cK C (by decide)) (cS C (sh_5)) 1 (cT1 C) q_22 (nz_v (by decide)) eM_23 dX6_readLine_132 ?_
              refine r_aload_n C.1 4 dX6_readLine_133 rfl rfl ?_
              refine r_dup C.1 rfl dX6_readLine_134 ?_
              refine gf_X6_23 C dX6_readLine_135 ?_
              refine r_iconst (v := 1) C.1 dX6_readLine_138 rfl ?_
              refine r_iadd C.1 dX6_readLine_139 ?_
              obtain ⟨M_24, eM_24, h⟩ := lt_E h
              refine pf_X6_23 C eM_24 dX6_readLine_140 ?_
              refine r_iconst (v := -1) C.1 dX6_readLine_143 rfl ?_
              obtain rfl := Option.some.inj h
              exact r_iret C.1 hr ev eM dX6_readLine_144
            · replace h := ite_F c_19 h
              exact r_sub [1] rfl (w_X6_readLine_113 C M r_9 _ h hr ev eM)
        · replace h := ite_T c_11 h
          refine r_iload C.1 0 dX6_readLine_63 rfl ?_
          obtain rfl := Option.some.inj h
          exact r_iret C.1 hr ev eM dX6_readLine_65
      · replace h := ite_F c_8 h
        exact r_sub [4] rfl (w_X6_readLine_45 C M x2 _ h hr ev eM)
  · replace h := ite_T c_1 h
    refine r_iload_n C.1 2 dX6_readLine_8 rfl rfl ?_
    obtain rfl := Option.some.inj h
    exact r_iret C.1 hr ev eM dX6_readLine_9
def f_X6_readLine (M : xM) (x2 : Int32) : Option (Int32 × xM) := b_X6_readLine_0 M x2
set_option maxRecDepth 20000 in
theorem m_X6_readLine (l : Launch) (D : va_G) (ad : Nat → Nat) (M : xM) (x2 : Int32)  {r : Int32} {M1 : xM} (h : f_X6_readLine M x2 = some (r, M1)) : xMetC l yX6_readLine cX6_readLine 7 (some .int) ({ frames := 6, cells := 0, slots := 0, locals := 133 } : Room) [.ref (ad 3), .ref (ad 1), .int x2] D ad M (some (.int r)) M1 := by
  refine xMetC_of (own := RX6) (by decide) rfl (Nat.le_of_ble_eq_true rfl) ?_
  intro x C e1 e2 e3 ev eM hr
  subst e1; subst e2; subst e3
  refine r_sub (L := [(0, .ref (x_ad x 3)), (1, .ref (x_ad x 1)), (2, .int x2)]) (L' := [(0, .ref (x_ad x 3)), (1, .ref (x_ad x 1)), (2, .int x2)]) [0, 1, 2] rfl ?_
  exact w_X6_readLine_0 C M x2 _ h hr ev eM

def b_X6_lineEnd_0 (M : xM) (x2 : Int32) : Option (Int32) :=
  bd (f_X7_pastRun M x2 (97 : Int32) (122 : Int32)) (fun r_1 => bd (f_X7_pastBlanks M r_1) (fun r_3 => bd (f_X7_pastRun M r_3 (48 : Int32) (57 : Int32)) (fun r_5 => bd (f_X7_pastBlanks M r_5) (fun r_7 => some r_7))))
set_option maxRecDepth 20000 in
set_option maxHeartbeats 2000000 in
theorem w_X6_lineEnd_0 {x : xC} (C : CtC x RX6 cX6_lineEnd 4 ({ frames := 2, cells := 0, slots := 0, locals := 45 } : Room)) (M : xM) (x2 : Int32)  (o : Int32) (h : b_X6_lineEnd_0 M x2 = some o) (hr : (x_me x).sig.returnType = some .int) (ev : x_rv x = some (.int o)) (eM : x_M x = M) : J x M 0 [(1, .ref (x_ad x 1)), (2, .int x2)] [] := by
  unfold b_X6_lineEnd_0 at h
  refine r_aload_n C.1 0 dX6_lineEnd_0 rfl rfl ?_
  refine r_aload_n C.1 0 dX6_lineEnd_1 rfl rfl ?_
  refine r_iload_n C.1 1 dX6_lineEnd_2 rfl rfl ?_
  refine r_bipush (v := 97) C.1 dX6_lineEnd_3 (by decide) ?_
  refine r_bipush (v := 122) C.1 dX6_lineEnd_5 (by decide) ?_
  obtain ⟨r_1, hc_2, h⟩ := bd_E h
  refine cl_X6_54 C ⟨Nat.le_of_ble_eq_true rfl, Nat.le_of_ble_eq_true rfl⟩ (m_X7_pastRun _ _ _ M x2 (97 : Int32) (122 : Int32) hc_2) (Nat.le_of_ble_eq_true rfl) dX6_lineEnd_7 ?_
  obtain ⟨r_3, hc_4, h⟩ := bd_E h
  refine cl_X6_30 C ⟨Nat.le_of_ble_eq_true rfl, Nat.le_of_ble_eq_true rfl⟩ (m_X7_pastBlanks _ _ _ M r_1 hc_4) (Nat.le_of_ble_eq_true rfl) dX6_lineEnd_10 ?_
  refine r_istore_n C.1 [(3, .int r_3), (1, .ref (x_ad x 1)), (2, .int x2)] dX6_lineEnd_13 rfl (by decide) rfl rfl ?_
  refine r_aload_n C.1 1 dX6_lineEnd_14 rfl rfl ?_
  refine r_aload_n C.1 1 dX6_lineEnd_15 rfl rfl ?_
  refine r_iload_n C.1 0 dX6_lineEnd_16 rfl rfl ?_
  refine r_bipush (v := 48) C.1 dX6_lineEnd_17 (by decide) ?_
  refine r_bipush (v := 57) C.1 dX6_lineEnd_19 (by decide) ?_
  obtain ⟨r_5, hc_6, h⟩ := bd_E h
  refine cl_X6_54 C ⟨Nat.le_of_ble_eq_true rfl, Nat.le_of_ble_eq_true rfl⟩ (m_X7_pastRun _ _ _ M r_3 (48 : Int32) (57 : Int32) hc_6) (Nat.le_of_ble_eq_true rfl) dX6_lineEnd_21 ?_
  obtain ⟨r_7, hc_8, h⟩ := bd_E h
  refine cl_X6_30 C ⟨Nat.le_of_ble_eq_true rfl, Nat.le_of_ble_eq_true rfl⟩ (m_X7_pastBlanks _ _ _ M r_5 hc_8) (Nat.le_of_ble_eq_true rfl) dX6_lineEnd_24 ?_
  obtain rfl := Option.some.inj h
  exact r_iret C.1 hr ev eM dX6_lineEnd_27
def f_X6_lineEnd (M : xM) (x2 : Int32) : Option (Int32) := b_X6_lineEnd_0 M x2
set_option maxRecDepth 20000 in
theorem m_X6_lineEnd (l : Launch) (D : va_G) (ad : Nat → Nat) (M : xM) (x2 : Int32)  {o : Int32} (h : f_X6_lineEnd M x2 = some o) : xMetC l yX6_lineEnd cX6_lineEnd 4 (some .int) ({ frames := 2, cells := 0, slots := 0, locals := 45 } : Room) [.ref (ad 3), .ref (ad 1), .int x2] D ad M (some (.int o)) M := by
  refine xMetC_of (own := RX6) (by decide) rfl (Nat.le_of_ble_eq_true rfl) ?_
  intro x C e1 e2 e3 ev eM hr
  subst e1; subst e2; subst e3
  refine r_sub (L := [(0, .ref (x_ad x 3)), (1, .ref (x_ad x 1)), (2, .int x2)]) (L' := [(1, .ref (x_ad x 1)), (2, .int x2)]) [1, 2] rfl ?_
  exact w_X6_lineEnd_0 C M x2 _ h hr ev eM

def bl_X6_firstFault_22 (M : xM) (x2 : Int32) (x3 : Int32) : Option ((xM × Int32 × Int32) ⊕ ((xM × Int32) ⊕ ((xM) ⊕ ((xM × Int32) ⊕ (xM × Int32))))) :=
  if (7 : Int32) < x3 then some (.inr (.inr (.inr (.inr (M, x2))))) else bd2 (f_X6_readLine M x2) (fun r_2 M_4 => if r_2 = (-1 : Int32) then bd (f_X6_lineEnd M_4 x2) (fun r_6 => if r_6 = (M_4 1 1) then some (.inr (.inr (.inl M_4))) else bd (f_X7_byteAt M_4 r_6) (fun r_9 => if r_9 = (59 : Int32) then bd (f_X7_pastBlanks M_4 (r_6 + (1 : Int32))) (fun r_12 => lt (x3 + (1 : Int32)) (fun y_14 => some (.inl (M_4, r_12, y_14)))) else some (.inr (.inr (.inr (.inl (M_4, r_6))))))) else some (.inr (.inl (M_4, r_2))))
set_option maxRecDepth 20000 in
set_option maxHeartbeats 2000000 in
theorem wl_X6_firstFault_22 {x : xC} (C : CtC x RX6 cX6_firstFault 5 ({ frames := 7, cells := 0, slots := 0, locals := 159 } : Room)) (M : xM) (x2 : Int32) (x3 : Int32)  (o : (xM × Int32 × Int32) ⊕ ((xM × Int32) ⊕ ((xM) ⊕ ((xM × Int32) ⊕ (xM × Int32))))) (h : bl_X6_firstFault_22 M x2 x3 = some o) (kh : ∀ s : xM × Int32 × Int32, o = .inl s → J x s.1 22 [(0, .ref (x_ad x 3)), (1, .ref (x_ad x 1)), (2, .int s.2.1), (3, .int s.2.2)] []) (ke_0 : ∀ v : xM × Int32, o = .inr (.inl v) → J x v.1 44 [(4, .int v.2)] []) (ke_1 : ∀ v : xM, o = .inr (.inr (.inl v)) → J x v 62 [] []) (ke_2 : ∀ v : xM × Int32, o = .inr (.inr (.inr (.inl v))) → J x v.1 74 [(2, .int v.2)] []) (ke_3 : ∀ v : xM × Int32, o = .inr (.inr (.inr (.inr v))) → J x v.1 90 [(2, .int v.2)] []) : J x M 22 [(0, .ref (x_ad x 3)), (1, .ref (x_ad x 1)), (2, .int x2), (3, .int x3)] [] := by
  unfold bl_X6_firstFault_22 at h
  refine r_iload_n C.1 3 dX6_firstFault_22 rfl rfl ?_
  refine r_getsN (ref := RX10) (host := RX10) C.1 C.2.2.2.2 (C.2.2.2.2.2.2.2.2.1.1) (by decide +kernel) rfl dX6_firstFault_23 ?_
  refine r_tlen C.1 (C.2.2.2.2.2.2.2.2.1.2) (v := 7) rfl dX6_firstFault_26 ?_
  refine r_icmp_gt C.1 90 dX6_firstFault_27 (by decide) (fun c_1 => ?_) (fun c_1 => ?_)
  · replace h := ite_T c_1 h
    exact r_sub [2] rfl (ke_3 _ (Option.some.inj h).symm)
  · replace h := ite_F c_1 h
    refine r_aload_n C.1 0 dX6_firstFault_30 rfl rfl ?_
    refine r_aload_n C.1 1 dX6_firstFault_31 rfl rfl ?_
    refine r_iload_n C.1 2 dX6_firstFault_32 rfl rfl ?_
    obtain ⟨r_2, M_4, hc_3, h⟩ := bd2_E h
    refine cl_X6_39 C ⟨Nat.le_of_ble_eq_true rfl, Nat.le_of_ble_eq_true rfl⟩ (m_X6_readLine _ _ _ M x2 hc_3) (Nat.le_of_ble_eq_true rfl) dX6_firstFault_33 ?_
    refine r_istore C.1 [(4, .int r_2), (0, .ref (x_ad x 3)), (1, .ref (x_ad x 1)), (2, .int x2), (3, .int x3)] dX6_firstFault_36 (by decide) rfl rfl ?_
    refine r_iload C.1 0 dX6_firstFault_38 rfl ?_
    refine r_iconst (v := -1) C.1 dX6_firstFault_40 rfl ?_
    refine r_icmp_eq C.1 47 dX6_firstFault_41 (by decide) (fun c_5 => ?_) (fun c_5 => ?_)
    · replace h := ite_T c_5 h
      refine r_aload_n C.1 1 dX6_firstFault_47 rfl rfl ?_
      refine r_aload_n C.1 2 dX6_firstFault_48 rfl rfl ?_
      refine r_iload_n C.1 3 dX6_firstFault_49 rfl rfl ?_
      obtain ⟨r_6, hc_7, h⟩ := bd_E h
      refine cl_X6_43 C ⟨Nat.le_of_ble_eq_true rfl, Nat.le_of_ble_eq_true rfl⟩ (m_X6_lineEnd _ _ _ M_4 x2 hc_7) (Nat.le_of_ble_eq_true rfl) dX6_firstFault_50 ?_
      refine r_istore_n C.1 [(2, .int r_6), (4, .int r_2), (0, .ref (x_ad x 3)), (1, .ref (x_ad x 1)), (3, .int x3)] dX6_firstFault_53 rfl (by decide) rfl rfl ?_
      refine r_iload_n C.1 0 dX6_firstFault_54 rfl rfl ?_
      refine r_aload_n C.1 3 dX6_firstFault_55 rfl rfl ?_
      refine gf_X6_36 C dX6_firstFault_56 ?_
      refine r_icmp_ne C.1 64 dX6_firstFault_59 (by decide) (fun c_8 => ?_) (fun c_8 => ?_)
      · replace h := ite_F c_8 h
        refine r_aload_n C.1 3 dX6_firstFault_64 rfl rfl ?_
        refine r_iload_n C.1 0 dX6_firstFault_65 rfl rfl ?_
        obtain ⟨r_9, hc_10, h⟩ := bd_E h
        refine cl_X6_46 C ⟨Nat.le_of_ble_eq_true rfl, Nat.le_of_ble_eq_true rfl⟩ (m_X7_byteAt _ _ _ M_4 r_6 hc_10) (Nat.le_of_ble_eq_true rfl) dX6_firstFault_66 ?_
        refine r_bipush (v := 59) C.1 dX6_firstFault_69 (by decide) ?_
        refine r_icmp_eq C.1 76 dX6_firstFault_71 (by decide) (fun c_11 => ?_) (fun c_11 => ?_)
        · replace h := ite_T c_11 h
          refine r_aload_n C.1 3 dX6_firstFault_76 rfl rfl ?_
          refine r_iload_n C.1 0 dX6_firstFault_77 rfl rfl ?_
          refine r_iconst (v := 1) C.1 dX6_firstFault_78 rfl ?_
          refine r_iadd C.1 dX6_firstFault_79 ?_
          obtain ⟨r_12, hc_13, h⟩ := bd_E h
          refine cl_X6_30 C ⟨Nat.le_of_ble_eq_true rfl, Nat.le_of_ble_eq_true rfl⟩ (m_X7_pastBlanks _ _ _ M_4 (r_6 + (1 : Int32)) hc_13) (Nat.le_of_ble_eq_true rfl) dX6_firstFault_80 ?_
          refine r_istore_n C.1 [(2, .int r_12), (4, .int r_2), (0, .ref (x_ad x 3)), (1, .ref (x_ad x 1)), (3, .int x3)] dX6_firstFault_83 rfl (by decide) rfl rfl ?_
          obtain ⟨y_14, ey_14, h⟩ := lt_E h
          refine r_iinc C.1 4 [(3, .int y_14), (2, .int r_12), (4, .int r_2), (0, .ref (x_ad x 3)), (1, .ref (x_ad x 1))] dX6_firstFault_84 rfl ey_14 (by decide) rfl ?_
          refine r_goto C.1 22 dX6_firstFault_87 (by decide) ?_
          exact r_sub [3, 4, 1, 0] rfl (kh _ (Option.some.inj h).symm)
        · replace h := ite_F c_11 h
          exact r_sub [0] rfl (ke_2 _ (Option.some.inj h).symm)
      · replace h := ite_T c_8 h
        exact r_sub [] rfl (ke_1 _ (Option.some.inj h).symm)
    · replace h := ite_F c_5 h
      exact r_sub [0] rfl (ke_0 _ (Option.some.inj h).symm)

def b_X6_firstFault_22 (M : xM) (x2 : Int32) (x3 : Int32) : Option (Int32 × xM) :=
  bd (loopN (fun s : xM × Int32 × Int32 => bl_X6_firstFault_22 s.1 s.2.1 s.2.2) BG (M, x2, x3)) (fun r => sm r (fun v => some (v.2, v.1)) (fun r => sm r (fun v => some ((-1 : Int32), v)) (fun r => sm r (fun v => some (v.2, v.1)) (fun v => some (v.2, v.1)))))
set_option maxRecDepth 20000 in
set_option maxHeartbeats 2000000 in
theorem w_X6_firstFault_22 {x : xC} (C : CtC x RX6 cX6_firstFault 5 ({ frames := 7, cells := 0, slots := 0, locals := 159 } : Room)) (M : xM) (x2 : Int32) (x3 : Int32)  (o : Int32 × xM) (h : b_X6_firstFault_22 M x2 x3 = some o) (hr : (x_me x).sig.returnType = some .int) (ev : x_rv x = some (.int o.1)) (eM : x_M x = o.2) : J x M 22 [(0, .ref (x_ad x 3)), (1, .ref (x_ad x 1)), (2, .int x2), (3, .int x3)] [] := by
  unfold b_X6_firstFault_22 at h
  obtain ⟨r_0, hr_0, h⟩ := bd_E h
  refine loopN_ind (JJ := fun s => J x s.1 22 [(0, .ref (x_ad x 3)), (1, .ref (x_ad x 1)), (2, .int s.2.1), (3, .int s.2.2)] []) (KX := fun q => q = r_0) ?_ BG (M, x2, x3) r_0 hr_0 rfl
  intro s o1 hb kk1 kk2
  refine wl_X6_firstFault_22 C s.1 s.2.1 s.2.2 _ hb kk1 ?_ ?_ ?_ ?_
  · intro v e0
    have e1 := kk2 _ e0
    subst e1
    replace h := sm_l h
    refine r_iload C.1 0 dX6_firstFault_44 rfl ?_
    obtain rfl := Option.some.inj h
    exact r_iret C.1 hr ev eM dX6_firstFault_46
  · intro v e0
    have e1 := kk2 _ e0
    subst e1
    replace h := sm_r h
    replace h := sm_l h
    refine r_iconst (v := -1) C.1 dX6_firstFault_62 rfl ?_
    obtain rfl := Option.some.inj h
    exact r_iret C.1 hr ev eM dX6_firstFault_63
  · intro v e0
    have e1 := kk2 _ e0
    subst e1
    replace h := sm_r h
    replace h := sm_r h
    replace h := sm_l h
    refine r_iload_n C.1 0 dX6_firstFault_74 rfl rfl ?_
    obtain rfl := Option.some.inj h
    exact r_iret C.1 hr ev eM dX6_firstFault_75
  · intro v e0
    have e1 := kk2 _ e0
    subst e1
    replace h := sm_r h
    replace h := sm_r h
    replace h := sm_r h
    refine r_iload_n C.1 0 dX6_firstFault_90 rfl rfl ?_
    obtain rfl := Option.some.inj h
    exact r_iret C.1 hr ev eM dX6_firstFault_91

def b_X6_firstFault_0 (M : xM)  : Option (Int32 × xM) :=
  bd (f_X6_forget M) (fun M_3 => bd (f_X7_pastBlanks M_3 (0 : Int32)) (fun r_4 => if r_4 = (M_3 1 1) then some ((-1 : Int32), M_3) else b_X6_firstFault_22 M_3 r_4 (0 : Int32)))
set_option maxRecDepth 20000 in
set_option maxHeartbeats 2000000 in
theorem w_X6_firstFault_0 {x : xC} (C : CtC x RX6 cX6_firstFault 5 ({ frames := 7, cells := 0, slots := 0, locals := 159 } : Room)) (M : xM)   (o : Int32 × xM) (h : b_X6_firstFault_0 M = some o) (hr : (x_me x).sig.returnType = some .int) (ev : x_rv x = some (.int o.1)) (eM : x_M x = o.2) : J x M 0 [(0, .ref (x_ad x 3)), (1, .ref (x_ad x 1))] [] := by
  unfold b_X6_firstFault_0 at h
  refine r_aload_n C.1 0 dX6_firstFault_0 rfl rfl ?_
  obtain ⟨M_3, hc_2, h⟩ := bd_E h
  refine cl_X6_27 C ⟨Nat.le_of_ble_eq_true rfl, Nat.le_of_ble_eq_true rfl⟩ (m_X6_forget _ _ _ M hc_2) (Nat.le_of_ble_eq_true rfl) dX6_firstFault_1 ?_
  refine r_aload_n C.1 1 dX6_firstFault_4 rfl rfl ?_
  refine r_iconst (v := 0) C.1 dX6_firstFault_5 rfl ?_
  obtain ⟨r_4, hc_5, h⟩ := bd_E h
  refine cl_X6_30 C ⟨Nat.le_of_ble_eq_true rfl, Nat.le_of_ble_eq_true rfl⟩ (m_X7_pastBlanks _ _ _ M_3 (0 : Int32) hc_5) (Nat.le_of_ble_eq_true rfl) dX6_firstFault_6 ?_
  refine r_istore_n C.1 [(2, .int r_4), (0, .ref (x_ad x 3)), (1, .ref (x_ad x 1))] dX6_firstFault_9 rfl (by decide) rfl rfl ?_
  refine r_iload_n C.1 0 dX6_firstFault_10 rfl rfl ?_
  refine r_aload_n C.1 2 dX6_firstFault_11 rfl rfl ?_
  refine gf_X6_36 C dX6_firstFault_12 ?_
  refine r_icmp_ne C.1 20 dX6_firstFault_15 (by decide) (fun c_6 => ?_) (fun c_6 => ?_)
  · replace h := ite_F c_6 h
    refine r_iconst (v := 0) C.1 dX6_firstFault_20 rfl ?_
    refine r_istore_n C.1 [(3, .int (0 : Int32)), (2, .int r_4), (0, .ref (x_ad x 3)), (1, .ref (x_ad x 1))] dX6_firstFault_21 rfl (by decide) rfl rfl ?_
    exact r_sub [2, 3, 1, 0] rfl (w_X6_firstFault_22 C M_3 r_4 (0 : Int32) _ h hr ev eM)
  · replace h := ite_T c_6 h
    refine r_iconst (v := -1) C.1 dX6_firstFault_18 rfl ?_
    obtain rfl := Option.some.inj h
    exact r_iret C.1 hr ev eM dX6_firstFault_19
def f_X6_firstFault (M : xM)  : Option (Int32 × xM) := b_X6_firstFault_0 M 
set_option maxRecDepth 20000 in
theorem m_X6_firstFault (l : Launch) (D : va_G) (ad : Nat → Nat) (M : xM)   {r : Int32} {M1 : xM} (h : f_X6_firstFault M = some (r, M1)) : xMetC l yX6_firstFault cX6_firstFault 5 (some .int) ({ frames := 7, cells := 0, slots := 0, locals := 159 } : Room) [.ref (ad 3), .ref (ad 1)] D ad M (some (.int r)) M1 := by
  refine xMetC_of (own := RX6) (by decide) rfl (Nat.le_of_ble_eq_true rfl) ?_
  intro x C e1 e2 e3 ev eM hr
  subst e1; subst e2; subst e3
  refine r_sub (L := [(0, .ref (x_ad x 3)), (1, .ref (x_ad x 1))]) (L' := [(0, .ref (x_ad x 3)), (1, .ref (x_ad x 1))]) [0, 1] rfl ?_
  exact w_X6_firstFault_0 C M _ h hr ev eM

def b_X7_take_51 (M : xM) (x1 : Int32) (x2 : Int32) : Option ((xM × Int32) ⊕ ((xM) ⊕ (xM))) :=
  lt (x2 + (-8 : Int32)) (fun y_1 => some (.inl (M, y_1)))
set_option maxRecDepth 20000 in
set_option maxHeartbeats 2000000 in
theorem w_X7_take_51 {x : xC} (C : CtC x RX7 cX7_take 4 ({ frames := 0, cells := 0, slots := 0, locals := 0 } : Room)) (M : xM) (x1 : Int32) (x2 : Int32)  (o : (xM × Int32) ⊕ ((xM) ⊕ (xM))) (h : b_X7_take_51 M x1 x2 = some o) (kh : ∀ s : xM × Int32, o = .inl s → J x s.1 3 [(0, .ref (x_ad x 1)), (1, .int x1), (2, .int s.2)] []) (ke_0 : ∀ v : xM, o = .inr (.inl v) → J x v 29 [] []) (ke_1 : ∀ v : xM, o = .inr (.inr v) → J x v 57 [] []) : J x M 51 [(0, .ref (x_ad x 1)), (1, .int x1), (2, .int x2)] [] := by
  unfold b_X7_take_51 at h
  obtain ⟨y_1, ey_1, h⟩ := lt_E h
  refine r_iinc C.1 2 [(2, .int y_1), (0, .ref (x_ad x 1)), (1, .int x1)] dX7_take_51 rfl ey_1 (by decide) rfl ?_
  refine r_goto C.1 3 dX7_take_54 (by decide) ?_
  exact r_sub [1, 2, 0] rfl (kh _ (Option.some.inj h).symm)

def bl_X7_take_3 (M : xM) (x1 : Int32) (x2 : Int32) : Option ((xM × Int32) ⊕ ((xM) ⊕ (xM))) :=
  if x2 < 0 then some (.inr (.inr M)) else lt (((x1.toUInt32 >>> (x2.toUInt32 &&& Int32.toUInt32 31)).toInt32) &&& (255 : Int32)) (fun y_2 => if y_2 = 0 then b_X7_take_51 M x1 x2 else if (M 1 1) < (200 : Int32) then gd (M 1 1) 200 (lt (uM M 2 (M 1 1).toNatClampNeg y_2) (fun M_6 => lt (uM M_6 1 1 ((M_6 1 1) + (1 : Int32))) (fun M_7 => b_X7_take_51 M_7 x1 x2))) else some (.inr (.inl M)))
set_option maxRecDepth 20000 in
set_option maxHeartbeats 2000000 in
theorem wl_X7_take_3 {x : xC} (C : CtC x RX7 cX7_take 4 ({ frames := 0, cells := 0, slots := 0, locals := 0 } : Room)) (M : xM) (x1 : Int32) (x2 : Int32)  (o : (xM × Int32) ⊕ ((xM) ⊕ (xM))) (h : bl_X7_take_3 M x1 x2 = some o) (kh : ∀ s : xM × Int32, o = .inl s → J x s.1 3 [(0, .ref (x_ad x 1)), (1, .int x1), (2, .int s.2)] []) (ke_0 : ∀ v : xM, o = .inr (.inl v) → J x v 29 [] []) (ke_1 : ∀ v : xM, o = .inr (.inr v) → J x v 57 [] []) : J x M 3 [(0, .ref (x_ad x 1)), (1, .int x1), (2, .int x2)] [] := by
  unfold bl_X7_take_3 at h
  refine r_iload_n C.1 2 dX7_take_3 rfl rfl ?_
  refine r_if_lt C.1 57 dX7_take_4 (by decide) (fun c_1 => ?_) (fun c_1 => ?_)
  · replace h := ite_T c_1 h
    exact r_sub [] rfl (ke_1 _ (Option.some.inj h).symm)
  · replace h := ite_F c_1 h
    refine r_iload_n C.1 1 dX7_take_7 rfl rfl ?_
    refine r_iload_n C.1 2 dX7_take_8 rfl rfl ?_
    refine r_iushr C.1 dX7_take_9 ?_
    refine r_sipush (v := 255) C.1 dX7_take_10 (by decide) ?_
    refine r_iand C.1 dX7_take_13 ?_
    obtain ⟨y_2, ey_2, h⟩ := lt_E h
    refine r_istore_n C.1 [(3, .int y_2), (0, .ref (x_ad x 1)), (1, .int x1), (2, .int x2)] dX7_take_14 rfl (by decide) ey_2 rfl ?_
    refine r_iload_n C.1 0 dX7_take_15 rfl rfl ?_
    refine r_if_eq C.1 51 dX7_take_16 (by decide) (fun c_3 => ?_) (fun c_3 => ?_)
    · replace h := ite_T c_3 h
      exact r_sub [1, 2, 3] rfl (w_X7_take_51 C M x1 x2 _ h kh ke_0 ke_1)
    · replace h := ite_F c_3 h
      refine r_aload_n C.1 1 dX7_take_19 rfl rfl ?_
      refine gf_X7_15 C dX7_take_20 ?_
      refine r_sipush (v := 200) C.1 dX7_take_23 (by decide) ?_
      refine r_icmp_lt C.1 31 dX7_take_26 (by decide) (fun c_4 => ?_) (fun c_4 => ?_)
      · replace h := ite_T c_4 h
        refine r_aload_n C.1 1 dX7_take_31 rfl rfl ?_
        refine gf_X7_9 C dX7_take_32 ?_
        refine r_aload_n C.1 1 dX7_take_35 rfl rfl ?_
        refine gf_X7_15 C dX7_take_36 ?_
        refine r_iload_n C.1 0 dX7_take_39 rfl rfl ?_
        obtain ⟨q_5, h⟩ := gd_E h
        obtain ⟨M_6, eM_6, h⟩ := lt_E h
        refine r_iast C.1 (cK C (by decide)) (cS C (sh_2)) 0 (cT0 C) q_5 eM_6 dX7_take_40 ?_
        refine r_aload_n C.1 1 dX7_take_41 rfl rfl ?_
        refine r_dup C.1 rfl dX7_take_42 ?_
        refine gf_X7_15 C dX7_take_43 ?_
        refine r_iconst (v := 1) C.1 dX7_take_46 rfl ?_
        refine r_iadd C.1 dX7_take_47 ?_
        obtain ⟨M_7, eM_7, h⟩ := lt_E h
        refine pf_X7_15 C eM_7 dX7_take_48 ?_
        exact r_sub [1, 2, 3] rfl (w_X7_take_51 C M_7 x1 x2 _ h kh ke_0 ke_1)
      · replace h := ite_F c_4 h
        exact r_sub [] rfl (ke_0 _ (Option.some.inj h).symm)

def b_X7_take_3 (M : xM) (x1 : Int32) (x2 : Int32) : Option (Int32 × xM) :=
  bd (loopN (fun s : xM × Int32 => bl_X7_take_3 s.1 x1 s.2) BG (M, x2)) (fun r => sm r (fun v => some ((0 : Int32), v)) (fun v => some ((1 : Int32), v)))
set_option maxRecDepth 20000 in
set_option maxHeartbeats 2000000 in
theorem w_X7_take_3 {x : xC} (C : CtC x RX7 cX7_take 4 ({ frames := 0, cells := 0, slots := 0, locals := 0 } : Room)) (M : xM) (x1 : Int32) (x2 : Int32)  (o : Int32 × xM) (h : b_X7_take_3 M x1 x2 = some o) (hr : (x_me x).sig.returnType = some .boolean) (ev : x_rv x = some (.int o.1)) (eM : x_M x = o.2) : J x M 3 [(0, .ref (x_ad x 1)), (1, .int x1), (2, .int x2)] [] := by
  unfold b_X7_take_3 at h
  obtain ⟨r_0, hr_0, h⟩ := bd_E h
  refine loopN_ind (JJ := fun s => J x s.1 3 [(0, .ref (x_ad x 1)), (1, .int x1), (2, .int s.2)] []) (KX := fun q => q = r_0) ?_ BG (M, x2) r_0 hr_0 rfl
  intro s o1 hb kk1 kk2
  refine wl_X7_take_3 C s.1 x1 s.2 _ hb kk1 ?_ ?_
  · intro v e0
    have e1 := kk2 _ e0
    subst e1
    replace h := sm_l h
    refine r_iconst (v := 0) C.1 dX7_take_29 rfl ?_
    obtain rfl := Option.some.inj h
    exact r_zret C.1 hr rfl ev eM dX7_take_30
  · intro v e0
    have e1 := kk2 _ e0
    subst e1
    replace h := sm_r h
    refine r_iconst (v := 1) C.1 dX7_take_57 rfl ?_
    obtain rfl := Option.some.inj h
    exact r_zret C.1 hr rfl ev eM dX7_take_58

def b_X7_take_0 (M : xM) (x1 : Int32) : Option (Int32 × xM) :=
  b_X7_take_3 M x1 (24 : Int32)
set_option maxRecDepth 20000 in
set_option maxHeartbeats 2000000 in
theorem w_X7_take_0 {x : xC} (C : CtC x RX7 cX7_take 4 ({ frames := 0, cells := 0, slots := 0, locals := 0 } : Room)) (M : xM) (x1 : Int32)  (o : Int32 × xM) (h : b_X7_take_0 M x1 = some o) (hr : (x_me x).sig.returnType = some .boolean) (ev : x_rv x = some (.int o.1)) (eM : x_M x = o.2) : J x M 0 [(0, .ref (x_ad x 1)), (1, .int x1)] [] := by
  unfold b_X7_take_0 at h
  refine r_bipush (v := 24) C.1 dX7_take_0 (by decide) ?_
  refine r_istore_n C.1 [(2, .int (24 : Int32)), (0, .ref (x_ad x 1)), (1, .int x1)] dX7_take_2 rfl (by decide) rfl rfl ?_
  exact r_sub [1, 2, 0] rfl (w_X7_take_3 C M x1 (24 : Int32) _ h hr ev eM)
def f_X7_take (M : xM) (x1 : Int32) : Option (Int32 × xM) := b_X7_take_0 M x1
set_option maxRecDepth 20000 in
theorem m_X7_take (l : Launch) (D : va_G) (ad : Nat → Nat) (M : xM) (x1 : Int32)  {r : Int32} {M1 : xM} (h : f_X7_take M x1 = some (r, M1)) : xMetC l yX7_take cX7_take 4 (some .boolean) ({ frames := 0, cells := 0, slots := 0, locals := 0 } : Room) [.ref (ad 1), .int x1] D ad M (some (.int r)) M1 := by
  refine xMetC_of (own := RX7) (by decide) rfl (Nat.le_of_ble_eq_true rfl) ?_
  intro x C e1 e2 e3 ev eM hr
  subst e1; subst e2; subst e3
  refine r_sub (L := [(0, .ref (x_ad x 1)), (1, .int x1)]) (L' := [(0, .ref (x_ad x 1)), (1, .int x1)]) [0, 1] rfl ?_
  exact w_X7_take_0 C M x1 _ h hr ev eM

def b_X8_goTo_39 (M : xM)  : Option (xM) :=
  some M
set_option maxRecDepth 20000 in
set_option maxHeartbeats 2000000 in
theorem w_X8_goTo_39 {x : xC} (C : CtC x RX8 cX8_goTo 3 ({ frames := 0, cells := 0, slots := 0, locals := 0 } : Room)) (M : xM)   (o : xM) (h : b_X8_goTo_39 M = some o) (hr : (x_me x).sig.returnType = none) (ev : x_rv x = none) (eM : x_M x = o) : J x M 39 [] [] := by
  unfold b_X8_goTo_39 at h
  obtain rfl := Option.some.inj h
  exact r_vret C.1 hr ev eM dX8_goTo_39

def b_X8_goTo_0 (M : xM) (k0 : Nat) (x1 : Int32) (x2 : Int32) : Option (xM) :=
  if (6 : Int32) ≤ (M k0 2) then b_X8_goTo_39 M else gd (M k0 2) 6 (lt (uM M (k0 + 1) (M k0 2).toNatClampNeg x1) (fun M_3 => gd (M_3 k0 2) 6 (lt (uM M_3 (k0 + 2) (M_3 k0 2).toNatClampNeg x2) (fun M_5 => lt (uM M_5 k0 2 ((M_5 k0 2) + (1 : Int32))) (fun M_6 => b_X8_goTo_39 M_6)))))
set_option maxRecDepth 20000 in
set_option maxHeartbeats 2000000 in
theorem w_X8_goTo_0 {x : xC} (C : CtC x RX8 cX8_goTo 3 ({ frames := 0, cells := 0, slots := 0, locals := 0 } : Room)) (M : xM) (k0 : Nat) (x1 : Int32) (x2 : Int32) (h0 : KW k0) (o : xM) (h : b_X8_goTo_0 M k0 x1 x2 = some o) (hr : (x_me x).sig.returnType = none) (ev : x_rv x = none) (eM : x_M x = o) : J x M 0 [(0, .ref (x_ad x k0)), (1, .int x1), (2, .int x2)] [] := by
  unfold b_X8_goTo_0 at h
  refine r_aload_n C.1 0 dX8_goTo_0 rfl rfl ?_
  refine gfk_X8_18 C h0 dX8_goTo_1 ?_
  refine r_bipush (v := 6) C.1 dX8_goTo_4 (by decide) ?_
  refine r_icmp_ge C.1 39 dX8_goTo_6 (by decide) (fun c_1 => ?_) (fun c_1 => ?_)
  · replace h := ite_T c_1 h
    exact r_sub [] rfl (w_X8_goTo_39 C M _ h hr ev eM)
  · replace h := ite_F c_1 h
    refine r_aload_n C.1 0 dX8_goTo_9 rfl rfl ?_
    refine gfk_X8_21 C h0 dX8_goTo_10 ?_
    refine r_aload_n C.1 0 dX8_goTo_13 rfl rfl ?_
    refine gfk_X8_18 C h0 dX8_goTo_14 ?_
    refine r_iload_n C.1 1 dX8_goTo_17 rfl rfl ?_
    obtain ⟨q_2, h⟩ := gd_E h
    obtain ⟨M_3, eM_3, h⟩ := lt_E h
    refine r_iast C.1 (cK C (kW1 h0)) (cS C (sh_W1 h0)) 0 (cT0 C) q_2 eM_3 dX8_goTo_18 ?_
    refine r_aload_n C.1 0 dX8_goTo_19 rfl rfl ?_
    refine gfk_X8_25 C h0 dX8_goTo_20 ?_
    refine r_aload_n C.1 0 dX8_goTo_23 rfl rfl ?_
    refine gfk_X8_18 C h0 dX8_goTo_24 ?_
    refine r_iload_n C.1 2 dX8_goTo_27 rfl rfl ?_
    obtain ⟨q_4, h⟩ := gd_E h
    obtain ⟨M_5, eM_5, h⟩ := lt_E h
    refine r_iast C.1 (cK C (kW2 h0)) (cS C (sh_W2 h0)) 0 (cT0 C) q_4 eM_5 dX8_goTo_28 ?_
    refine r_aload_n C.1 0 dX8_goTo_29 rfl rfl ?_
    refine r_dup C.1 rfl dX8_goTo_30 ?_
    refine gfk_X8_18 C h0 dX8_goTo_31 ?_
    refine r_iconst (v := 1) C.1 dX8_goTo_34 rfl ?_
    refine r_iadd C.1 dX8_goTo_35 ?_
    obtain ⟨M_6, eM_6, h⟩ := lt_E h
    refine pfk_X8_18 C h0 eM_6 dX8_goTo_36 ?_
    exact r_sub [] rfl (w_X8_goTo_39 C M_6 _ h hr ev eM)
def f_X8_goTo (M : xM) (k0 : Nat) (x1 : Int32) (x2 : Int32) : Option (xM) := b_X8_goTo_0 M k0 x1 x2
set_option maxRecDepth 20000 in
theorem m_X8_goTo (l : Launch) (D : va_G) (ad : Nat → Nat) (M : xM) (k0 : Nat) (x1 : Int32) (x2 : Int32) (h0 : KW k0) {o : xM} (h : f_X8_goTo M k0 x1 x2 = some o) : xMetC l yX8_goTo cX8_goTo 3 none ({ frames := 0, cells := 0, slots := 0, locals := 0 } : Room) [.ref (ad k0), .int x1, .int x2] D ad M none o := by
  refine xMetC_of (own := RX8) (by decide) rfl (Nat.le_of_ble_eq_true rfl) ?_
  intro x C e1 e2 e3 ev eM hr
  subst e1; subst e2; subst e3
  refine r_sub (L := [(0, .ref (x_ad x k0)), (1, .int x1), (2, .int x2)]) (L' := [(0, .ref (x_ad x k0)), (1, .int x1), (2, .int x2)]) [0, 1, 2] rfl ?_
  exact w_X8_goTo_0 C M k0 x1 x2 h0 _ h hr ev eM

def b_X8_changesAfter_27 (M : xM) (s0 : Int32) : Option (Int32) :=
  gz s0 (some s0)
set_option maxRecDepth 20000 in
set_option maxHeartbeats 2000000 in
theorem w_X8_changesAfter_27 {x : xC} (C : CtC x RX8 cX8_changesAfter 2 ({ frames := 0, cells := 0, slots := 0, locals := 0 } : Room)) (M : xM) (s0 : Int32)  (o : Int32) (h : b_X8_changesAfter_27 M s0 = some o) (hr : (x_me x).sig.returnType = some .boolean) (ev : x_rv x = some (.int o)) (eM : x_M x = M) : J x M 27 [] [.int s0] := by
  unfold b_X8_changesAfter_27 at h
  obtain ⟨z_1, h⟩ := gz_E h
  obtain rfl := Option.some.inj h
  exact r_zret C.1 hr (nz_n z_1) ev eM dX8_changesAfter_27

def b_X8_changesAfter_26 (M : xM)  : Option (Int32) :=
  b_X8_changesAfter_27 M (0 : Int32)
set_option maxRecDepth 20000 in
set_option maxHeartbeats 2000000 in
theorem w_X8_changesAfter_26 {x : xC} (C : CtC x RX8 cX8_changesAfter 2 ({ frames := 0, cells := 0, slots := 0, locals := 0 } : Room)) (M : xM)   (o : Int32) (h : b_X8_changesAfter_26 M = some o) (hr : (x_me x).sig.returnType = some .boolean) (ev : x_rv x = some (.int o)) (eM : x_M x = M) : J x M 26 [] [] := by
  unfold b_X8_changesAfter_26 at h
  refine r_iconst (v := 0) C.1 dX8_changesAfter_26 rfl ?_
  exact r_sub [] rfl (w_X8_changesAfter_27 C M (0 : Int32) _ h hr ev eM)

def b_X8_changesAfter_0 (M : xM) (k0 : Nat) (x1 : Int32) : Option (Int32) :=
  if (M k0 2) ≤ 0 then b_X8_changesAfter_26 M else gd ((M k0 2) - (1 : Int32)) 6 (if (M (k0 + 1) ((M k0 2) - (1 : Int32)).toNatClampNeg) ≤ x1 then b_X8_changesAfter_26 M else b_X8_changesAfter_27 M (1 : Int32))
set_option maxRecDepth 20000 in
set_option maxHeartbeats 2000000 in
theorem w_X8_changesAfter_0 {x : xC} (C : CtC x RX8 cX8_changesAfter 2 ({ frames := 0, cells := 0, slots := 0, locals := 0 } : Room)) (M : xM) (k0 : Nat) (x1 : Int32) (h0 : KW k0) (o : Int32) (h : b_X8_changesAfter_0 M k0 x1 = some o) (hr : (x_me x).sig.returnType = some .boolean) (ev : x_rv x = some (.int o)) (eM : x_M x = M) : J x M 0 [(0, .ref (x_ad x k0)), (1, .int x1)] [] := by
  unfold b_X8_changesAfter_0 at h
  refine r_aload_n C.1 0 dX8_changesAfter_0 rfl rfl ?_
  refine gfk_X8_18 C h0 dX8_changesAfter_1 ?_
  refine r_if_le C.1 26 dX8_changesAfter_4 (by decide) (fun c_1 => ?_) (fun c_1 => ?_)
  · replace h := ite_T c_1 h
    exact r_sub [] rfl (w_X8_changesAfter_26 C M _ h hr ev eM)
  · replace h := ite_F c_1 h
    refine r_aload_n C.1 0 dX8_changesAfter_7 rfl rfl ?_
    refine gfk_X8_21 C h0 dX8_changesAfter_8 ?_
    refine r_aload_n C.1 0 dX8_changesAfter_11 rfl rfl ?_
    refine gfk_X8_18 C h0 dX8_changesAfter_12 ?_
    refine r_iconst (v := 1) C.1 dX8_changesAfter_15 rfl ?_
    refine r_isub C.1 dX8_changesAfter_16 ?_
    obtain ⟨q_2, h⟩ := gd_E h
    refine r_iald C.1 (cK C (kW1 h0)) (cS C (sh_W1 h0)) 0 (cT0 C) q_2 dX8_changesAfter_17 ?_
    refine r_iload_n C.1 1 dX8_changesAfter_18 rfl rfl ?_
    refine r_icmp_le C.1 26 dX8_changesAfter_19 (by decide) (fun c_3 => ?_) (fun c_3 => ?_)
    · replace h := ite_T c_3 h
      exact r_sub [] rfl (w_X8_changesAfter_26 C M _ h hr ev eM)
    · replace h := ite_F c_3 h
      refine r_iconst (v := 1) C.1 dX8_changesAfter_22 rfl ?_
      refine r_goto C.1 27 dX8_changesAfter_23 (by decide) ?_
      exact r_sub [] rfl (w_X8_changesAfter_27 C M (1 : Int32) _ h hr ev eM)
def f_X8_changesAfter (M : xM) (k0 : Nat) (x1 : Int32) : Option (Int32) := b_X8_changesAfter_0 M k0 x1
set_option maxRecDepth 20000 in
theorem m_X8_changesAfter (l : Launch) (D : va_G) (ad : Nat → Nat) (M : xM) (k0 : Nat) (x1 : Int32) (h0 : KW k0) {o : Int32} (h : f_X8_changesAfter M k0 x1 = some o) : xMetC l yX8_changesAfter cX8_changesAfter 2 (some .boolean) ({ frames := 0, cells := 0, slots := 0, locals := 0 } : Room) [.ref (ad k0), .int x1] D ad M (some (.int o)) M := by
  refine xMetC_of (own := RX8) (by decide) rfl (Nat.le_of_ble_eq_true rfl) ?_
  intro x C e1 e2 e3 ev eM hr
  subst e1; subst e2; subst e3
  refine r_sub (L := [(0, .ref (x_ad x k0)), (1, .int x1)]) (L' := [(0, .ref (x_ad x k0)), (1, .int x1)]) [0, 1] rfl ?_
  exact w_X8_changesAfter_0 C M k0 x1 h0 _ h hr ev eM

def b_X8_isShutOn_23 (M : xM) (s0 : Int32) : Option (Int32) :=
  gz s0 (some s0)
set_option maxRecDepth 20000 in
set_option maxHeartbeats 2000000 in
theorem w_X8_isShutOn_23 {x : xC} (C : CtC x RX8 cX8_isShutOn 2 ({ frames := 1, cells := 0, slots := 0, locals := 20 } : Room)) (M : xM) (s0 : Int32)  (o : Int32) (h : b_X8_isShutOn_23 M s0 = some o) (hr : (x_me x).sig.returnType = some .boolean) (ev : x_rv x = some (.int o)) (eM : x_M x = M) : J x M 23 [] [.int s0] := by
  unfold b_X8_isShutOn_23 at h
  obtain ⟨z_1, h⟩ := gz_E h
  obtain rfl := Option.some.inj h
  exact r_zret C.1 hr (nz_n z_1) ev eM dX8_isShutOn_23

def b_X8_isShutOn_18 (M : xM)  : Option (Int32) :=
  b_X8_isShutOn_23 M (1 : Int32)
set_option maxRecDepth 20000 in
set_option maxHeartbeats 2000000 in
theorem w_X8_isShutOn_18 {x : xC} (C : CtC x RX8 cX8_isShutOn 2 ({ frames := 1, cells := 0, slots := 0, locals := 20 } : Room)) (M : xM)   (o : Int32) (h : b_X8_isShutOn_18 M = some o) (hr : (x_me x).sig.returnType = some .boolean) (ev : x_rv x = some (.int o)) (eM : x_M x = M) : J x M 18 [] [] := by
  unfold b_X8_isShutOn_18 at h
  refine r_iconst (v := 1) C.1 dX8_isShutOn_18 rfl ?_
  refine r_goto C.1 23 dX8_isShutOn_19 (by decide) ?_
  exact r_sub [] rfl (w_X8_isShutOn_23 C M (1 : Int32) _ h hr ev eM)

def b_X8_isShutOn_0 (M : xM) (k0 : Nat) (x1 : Int32) : Option (Int32) :=
  if (M k0 6) = 0 then bd (f_X10_firstDay M (M k0 5)) (fun r_2 => if r_2 ≤ x1 then b_X8_isShutOn_23 M (0 : Int32) else b_X8_isShutOn_18 M) else b_X8_isShutOn_18 M
set_option maxRecDepth 20000 in
set_option maxHeartbeats 2000000 in
theorem w_X8_isShutOn_0 {x : xC} (C : CtC x RX8 cX8_isShutOn 2 ({ frames := 1, cells := 0, slots := 0, locals := 20 } : Room)) (M : xM) (k0 : Nat) (x1 : Int32) (h0 : KW k0) (o : Int32) (h : b_X8_isShutOn_0 M k0 x1 = some o) (hr : (x_me x).sig.returnType = some .boolean) (ev : x_rv x = some (.int o)) (eM : x_M x = M) : J x M 0 [(0, .ref (x_ad x k0)), (1, .int x1)] [] := by
  unfold b_X8_isShutOn_0 at h
  refine r_aload_n C.1 0 dX8_isShutOn_0 rfl rfl ?_
  refine gfk_X8_31 C h0 dX8_isShutOn_1 ?_
  refine r_if_ne C.1 18 dX8_isShutOn_4 (by decide) (fun c_1 => ?_) (fun c_1 => ?_)
  · replace h := ite_F c_1 h
    exact r_sub [] rfl (w_X8_isShutOn_18 C M _ h hr ev eM)
  · replace h := ite_T c_1 h
    refine r_iload_n C.1 1 dX8_isShutOn_7 rfl rfl ?_
    refine r_aload_n C.1 0 dX8_isShutOn_8 rfl rfl ?_
    refine gfk_X8_28 C h0 dX8_isShutOn_9 ?_
    obtain ⟨r_2, hc_3, h⟩ := bd_E h
    refine cl_X8_51 C ⟨Nat.le_of_ble_eq_true rfl, Nat.le_of_ble_eq_true rfl⟩ (m_X10_firstDay _ _ _ M (M k0 5) hc_3) (Nat.le_of_ble_eq_true rfl) dX8_isShutOn_12 ?_
    refine r_icmp_ge C.1 22 dX8_isShutOn_15 (by decide) (fun c_4 => ?_) (fun c_4 => ?_)
    · replace h := ite_T c_4 h
      refine r_iconst (v := 0) C.1 dX8_isShutOn_22 rfl ?_
      exact r_sub [] rfl (w_X8_isShutOn_23 C M (0 : Int32) _ h hr ev eM)
    · replace h := ite_F c_4 h
      exact r_sub [] rfl (w_X8_isShutOn_18 C M _ h hr ev eM)
def f_X8_isShutOn (M : xM) (k0 : Nat) (x1 : Int32) : Option (Int32) := b_X8_isShutOn_0 M k0 x1
set_option maxRecDepth 20000 in
theorem m_X8_isShutOn (l : Launch) (D : va_G) (ad : Nat → Nat) (M : xM) (k0 : Nat) (x1 : Int32) (h0 : KW k0) {o : Int32} (h : f_X8_isShutOn M k0 x1 = some o) : xMetC l yX8_isShutOn cX8_isShutOn 2 (some .boolean) ({ frames := 1, cells := 0, slots := 0, locals := 20 } : Room) [.ref (ad k0), .int x1] D ad M (some (.int o)) M := by
  refine xMetC_of (own := RX8) (by decide) rfl (Nat.le_of_ble_eq_true rfl) ?_
  intro x C e1 e2 e3 ev eM hr
  subst e1; subst e2; subst e3
  refine r_sub (L := [(0, .ref (x_ad x k0)), (1, .int x1)]) (L' := [(0, .ref (x_ad x k0)), (1, .int x1)]) [0, 1] rfl ?_
  exact w_X8_isShutOn_0 C M k0 x1 h0 _ h hr ev eM

def b_X8_broughtBy_29 (M : xM) (s0 : Int32) : Option (Int32) :=
  some s0
set_option maxRecDepth 20000 in
set_option maxHeartbeats 2000000 in
theorem w_X8_broughtBy_29 {x : xC} (C : CtC x RX8 cX8_broughtBy 2 ({ frames := 0, cells := 0, slots := 0, locals := 0 } : Room)) (M : xM) (s0 : Int32)  (o : Int32) (h : b_X8_broughtBy_29 M s0 = some o) (hr : (x_me x).sig.returnType = some .int) (ev : x_rv x = some (.int o)) (eM : x_M x = M) : J x M 29 [] [.int s0] := by
  unfold b_X8_broughtBy_29 at h
  obtain rfl := Option.some.inj h
  exact r_iret C.1 hr ev eM dX8_broughtBy_29

def b_X8_broughtBy_28 (M : xM)  : Option (Int32) :=
  b_X8_broughtBy_29 M (0 : Int32)
set_option maxRecDepth 20000 in
set_option maxHeartbeats 2000000 in
theorem w_X8_broughtBy_28 {x : xC} (C : CtC x RX8 cX8_broughtBy 2 ({ frames := 0, cells := 0, slots := 0, locals := 0 } : Room)) (M : xM)   (o : Int32) (h : b_X8_broughtBy_28 M = some o) (hr : (x_me x).sig.returnType = some .int) (ev : x_rv x = some (.int o)) (eM : x_M x = M) : J x M 28 [] [] := by
  unfold b_X8_broughtBy_28 at h
  refine r_iconst (v := 0) C.1 dX8_broughtBy_28 rfl ?_
  exact r_sub [] rfl (w_X8_broughtBy_29 C M (0 : Int32) _ h hr ev eM)

def b_X8_broughtBy_0 (M : xM) (k0 : Nat) (x1 : Int32) : Option (Int32) :=
  if x1 < 0 then b_X8_broughtBy_28 M else if (M k0 5) ≤ x1 then b_X8_broughtBy_28 M else gd x1 10 (gd x1 10 (b_X8_broughtBy_29 M ((M (k0 + 3) x1.toNatClampNeg) - (M (k0 + 4) x1.toNatClampNeg))))
set_option maxRecDepth 20000 in
set_option maxHeartbeats 2000000 in
theorem w_X8_broughtBy_0 {x : xC} (C : CtC x RX8 cX8_broughtBy 2 ({ frames := 0, cells := 0, slots := 0, locals := 0 } : Room)) (M : xM) (k0 : Nat) (x1 : Int32) (h0 : KW k0) (o : Int32) (h : b_X8_broughtBy_0 M k0 x1 = some o) (hr : (x_me x).sig.returnType = some .int) (ev : x_rv x = some (.int o)) (eM : x_M x = M) : J x M 0 [(0, .ref (x_ad x k0)), (1, .int x1)] [] := by
  unfold b_X8_broughtBy_0 at h
  refine r_iload_n C.1 1 dX8_broughtBy_0 rfl rfl ?_
  refine r_if_lt C.1 28 dX8_broughtBy_1 (by decide) (fun c_1 => ?_) (fun c_1 => ?_)
  · replace h := ite_T c_1 h
    exact r_sub [] rfl (w_X8_broughtBy_28 C M _ h hr ev eM)
  · replace h := ite_F c_1 h
    refine r_iload_n C.1 1 dX8_broughtBy_4 rfl rfl ?_
    refine r_aload_n C.1 0 dX8_broughtBy_5 rfl rfl ?_
    refine gfk_X8_28 C h0 dX8_broughtBy_6 ?_
    refine r_icmp_ge C.1 28 dX8_broughtBy_9 (by decide) (fun c_2 => ?_) (fun c_2 => ?_)
    · replace h := ite_T c_2 h
      exact r_sub [] rfl (w_X8_broughtBy_28 C M _ h hr ev eM)
    · replace h := ite_F c_2 h
      refine r_aload_n C.1 0 dX8_broughtBy_12 rfl rfl ?_
      refine gfk_X8_35 C h0 dX8_broughtBy_13 ?_
      refine r_iload_n C.1 1 dX8_broughtBy_16 rfl rfl ?_
      obtain ⟨q_3, h⟩ := gd_E h
      refine r_iald C.1 (cK C (kW3 h0)) (cS C (sh_W3 h0)) 0 (cT0 C) q_3 dX8_broughtBy_17 ?_
      refine r_aload_n C.1 0 dX8_broughtBy_18 rfl rfl ?_
      refine gfk_X8_38 C h0 dX8_broughtBy_19 ?_
      refine r_iload_n C.1 1 dX8_broughtBy_22 rfl rfl ?_
      obtain ⟨q_4, h⟩ := gd_E h
      refine r_iald C.1 (cK C (kW4 h0)) (cS C (sh_W4 h0)) 0 (cT0 C) q_4 dX8_broughtBy_23 ?_
      refine r_isub C.1 dX8_broughtBy_24 ?_
      refine r_goto C.1 29 dX8_broughtBy_25 (by decide) ?_
      exact r_sub [] rfl (w_X8_broughtBy_29 C M ((M (k0 + 3) x1.toNatClampNeg) - (M (k0 + 4) x1.toNatClampNeg)) _ h hr ev eM)
def f_X8_broughtBy (M : xM) (k0 : Nat) (x1 : Int32) : Option (Int32) := b_X8_broughtBy_0 M k0 x1
set_option maxRecDepth 20000 in
theorem m_X8_broughtBy (l : Launch) (D : va_G) (ad : Nat → Nat) (M : xM) (k0 : Nat) (x1 : Int32) (h0 : KW k0) {o : Int32} (h : f_X8_broughtBy M k0 x1 = some o) : xMetC l yX8_broughtBy cX8_broughtBy 2 (some .int) ({ frames := 0, cells := 0, slots := 0, locals := 0 } : Room) [.ref (ad k0), .int x1] D ad M (some (.int o)) M := by
  refine xMetC_of (own := RX8) (by decide) rfl (Nat.le_of_ble_eq_true rfl) ?_
  intro x C e1 e2 e3 ev eM hr
  subst e1; subst e2; subst e3
  refine r_sub (L := [(0, .ref (x_ad x k0)), (1, .int x1)]) (L' := [(0, .ref (x_ad x k0)), (1, .int x1)]) [0, 1] rfl ?_
  exact w_X8_broughtBy_0 C M k0 x1 h0 _ h hr ev eM

def b_X8_dayOfAge_0 (M : xM) (k0 : Nat) (x1 : Int32) : Option (Int32) :=
  some ((M k0 0) + (x1 * (360 : Int32)))
set_option maxRecDepth 20000 in
set_option maxHeartbeats 2000000 in
theorem w_X8_dayOfAge_0 {x : xC} (C : CtC x RX8 cX8_dayOfAge 2 ({ frames := 0, cells := 0, slots := 0, locals := 0 } : Room)) (M : xM) (k0 : Nat) (x1 : Int32) (h0 : KW k0) (o : Int32) (h : b_X8_dayOfAge_0 M k0 x1 = some o) (hr : (x_me x).sig.returnType = some .int) (ev : x_rv x = some (.int o)) (eM : x_M x = M) : J x M 0 [(0, .ref (x_ad x k0)), (1, .int x1)] [] := by
  unfold b_X8_dayOfAge_0 at h
  refine r_aload_n C.1 0 dX8_dayOfAge_0 rfl rfl ?_
  refine gfk_X8_9 C h0 dX8_dayOfAge_1 ?_
  refine r_iload_n C.1 1 dX8_dayOfAge_4 rfl rfl ?_
  refine r_sipush (v := 360) C.1 dX8_dayOfAge_5 (by decide) ?_
  refine r_imul C.1 dX8_dayOfAge_8 ?_
  refine r_iadd C.1 dX8_dayOfAge_9 ?_
  obtain rfl := Option.some.inj h
  exact r_iret C.1 hr ev eM dX8_dayOfAge_10
def f_X8_dayOfAge (M : xM) (k0 : Nat) (x1 : Int32) : Option (Int32) := b_X8_dayOfAge_0 M k0 x1
set_option maxRecDepth 20000 in
theorem m_X8_dayOfAge (l : Launch) (D : va_G) (ad : Nat → Nat) (M : xM) (k0 : Nat) (x1 : Int32) (h0 : KW k0) {o : Int32} (h : f_X8_dayOfAge M k0 x1 = some o) : xMetC l yX8_dayOfAge cX8_dayOfAge 2 (some .int) ({ frames := 0, cells := 0, slots := 0, locals := 0 } : Room) [.ref (ad k0), .int x1] D ad M (some (.int o)) M := by
  refine xMetC_of (own := RX8) (by decide) rfl (Nat.le_of_ble_eq_true rfl) ?_
  intro x C e1 e2 e3 ev eM hr
  subst e1; subst e2; subst e3
  refine r_sub (L := [(0, .ref (x_ad x k0)), (1, .int x1)]) (L' := [(0, .ref (x_ad x k0)), (1, .int x1)]) [0, 1] rfl ?_
  exact w_X8_dayOfAge_0 C M k0 x1 h0 _ h hr ev eM

def b_X8_canSettle_34 (M : xM) (s0 : Int32) : Option (Int32) :=
  gz s0 (some s0)
set_option maxRecDepth 20000 in
set_option maxHeartbeats 2000000 in
theorem w_X8_canSettle_34 {x : xC} (C : CtC x RX8 cX8_canSettle 3 ({ frames := 1, cells := 0, slots := 0, locals := 24 } : Room)) (M : xM) (s0 : Int32)  (o : Int32) (h : b_X8_canSettle_34 M s0 = some o) (hr : (x_me x).sig.returnType = some .boolean) (ev : x_rv x = some (.int o)) (eM : x_M x = M) : J x M 34 [] [.int s0] := by
  unfold b_X8_canSettle_34 at h
  obtain ⟨z_1, h⟩ := gz_E h
  obtain rfl := Option.some.inj h
  exact r_zret C.1 hr (nz_n z_1) ev eM dX8_canSettle_34

def b_X8_canSettle_33 (M : xM)  : Option (Int32) :=
  b_X8_canSettle_34 M (0 : Int32)
set_option maxRecDepth 20000 in
set_option maxHeartbeats 2000000 in
theorem w_X8_canSettle_33 {x : xC} (C : CtC x RX8 cX8_canSettle 3 ({ frames := 1, cells := 0, slots := 0, locals := 24 } : Room)) (M : xM)   (o : Int32) (h : b_X8_canSettle_33 M = some o) (hr : (x_me x).sig.returnType = some .boolean) (ev : x_rv x = some (.int o)) (eM : x_M x = M) : J x M 33 [] [] := by
  unfold b_X8_canSettle_33 at h
  refine r_iconst (v := 0) C.1 dX8_canSettle_33 rfl ?_
  exact r_sub [] rfl (w_X8_canSettle_34 C M (0 : Int32) _ h hr ev eM)

def b_X8_canSettle_0 (M : xM) (k0 : Nat) (x1 : Int32) : Option (Int32) :=
  bd (f_X8_dayOfAge M k0 x1) (fun r_1 => if (3600 : Int32) ≤ r_1 then b_X8_canSettle_33 M else if (M k0 5) ≤ ((imax (0 : Int32) r_1) / (360 : Int32)) then b_X8_canSettle_33 M else b_X8_canSettle_34 M (1 : Int32))
set_option maxRecDepth 20000 in
set_option maxHeartbeats 2000000 in
theorem w_X8_canSettle_0 {x : xC} (C : CtC x RX8 cX8_canSettle 3 ({ frames := 1, cells := 0, slots := 0, locals := 24 } : Room)) (M : xM) (k0 : Nat) (x1 : Int32) (h0 : KW k0) (o : Int32) (h : b_X8_canSettle_0 M k0 x1 = some o) (hr : (x_me x).sig.returnType = some .boolean) (ev : x_rv x = some (.int o)) (eM : x_M x = M) : J x M 0 [(0, .ref (x_ad x k0)), (1, .int x1)] [] := by
  unfold b_X8_canSettle_0 at h
  refine r_aload_n C.1 0 dX8_canSettle_0 rfl rfl ?_
  refine r_iload_n C.1 1 dX8_canSettle_1 rfl rfl ?_
  obtain ⟨r_1, hc_2, h⟩ := bd_E h
  refine cl_X8_55 C h0 ⟨Nat.le_of_ble_eq_true rfl, Nat.le_of_ble_eq_true rfl⟩ (m_X8_dayOfAge _ _ _ M k0 x1 h0 hc_2) (Nat.le_of_ble_eq_true rfl) dX8_canSettle_2 ?_
  refine r_istore_n C.1 [(2, .int r_1), (0, .ref (x_ad x k0)), (1, .int x1)] dX8_canSettle_5 rfl (by decide) rfl rfl ?_
  refine r_iload_n C.1 0 dX8_canSettle_6 rfl rfl ?_
  refine r_sipush (v := 3600) C.1 dX8_canSettle_7 (by decide) ?_
  refine r_icmp_ge C.1 33 dX8_canSettle_10 (by decide) (fun c_3 => ?_) (fun c_3 => ?_)
  · replace h := ite_T c_3 h
    exact r_sub [] rfl (w_X8_canSettle_33 C M _ h hr ev eM)
  · replace h := ite_F c_3 h
    refine r_iconst (v := 0) C.1 dX8_canSettle_13 rfl ?_
    refine r_iload_n C.1 0 dX8_canSettle_14 rfl rfl ?_
    refine cm_X8_58 C.1 (by decide) (by decide) (Nat.le_of_ble_eq_true rfl) dX8_canSettle_15 ?_
    refine r_sipush (v := 360) C.1 dX8_canSettle_18 (by decide) ?_
    refine r_idiv C.1 (by decide) dX8_canSettle_21 ?_
    refine r_aload_n C.1 1 dX8_canSettle_22 rfl rfl ?_
    refine gfk_X8_28 C h0 dX8_canSettle_23 ?_
    refine r_icmp_ge C.1 33 dX8_canSettle_26 (by decide) (fun c_4 => ?_) (fun c_4 => ?_)
    · replace h := ite_T c_4 h
      exact r_sub [] rfl (w_X8_canSettle_33 C M _ h hr ev eM)
    · replace h := ite_F c_4 h
      refine r_iconst (v := 1) C.1 dX8_canSettle_29 rfl ?_
      refine r_goto C.1 34 dX8_canSettle_30 (by decide) ?_
      exact r_sub [] rfl (w_X8_canSettle_34 C M (1 : Int32) _ h hr ev eM)
def f_X8_canSettle (M : xM) (k0 : Nat) (x1 : Int32) : Option (Int32) := b_X8_canSettle_0 M k0 x1
set_option maxRecDepth 20000 in
theorem m_X8_canSettle (l : Launch) (D : va_G) (ad : Nat → Nat) (M : xM) (k0 : Nat) (x1 : Int32) (h0 : KW k0) {o : Int32} (h : f_X8_canSettle M k0 x1 = some o) : xMetC l yX8_canSettle cX8_canSettle 3 (some .boolean) ({ frames := 1, cells := 0, slots := 0, locals := 24 } : Room) [.ref (ad k0), .int x1] D ad M (some (.int o)) M := by
  refine xMetC_of (own := RX8) (by decide) rfl (Nat.le_of_ble_eq_true rfl) ?_
  intro x C e1 e2 e3 ev eM hr
  subst e1; subst e2; subst e3
  refine r_sub (L := [(0, .ref (x_ad x k0)), (1, .int x1)]) (L' := [(0, .ref (x_ad x k0)), (1, .int x1)]) [0, 1] rfl ?_
  exact w_X8_canSettle_0 C M k0 x1 h0 _ h hr ev eM

def b_X9_addFrom_23 (M : xM)  : Option (xM) :=
  some M
set_option maxRecDepth 20000 in
set_option maxHeartbeats 2000000 in
theorem w_X9_addFrom_23 {x : xC} (C : CtC x RX9 cX9_addFrom 3 ({ frames := 1, cells := 0, slots := 0, locals := 24 } : Room)) (M : xM)   (o : xM) (h : b_X9_addFrom_23 M = some o) (hr : (x_me x).sig.returnType = none) (ev : x_rv x = none) (eM : x_M x = o) : J x M 23 [] [] := by
  unfold b_X9_addFrom_23 at h
  obtain rfl := Option.some.inj h
  exact r_vret C.1 hr ev eM dX9_addFrom_23

def b_X9_addFrom_0 (M : xM) (x1 : Int32) (x2 : Int32) : Option (xM) :=
  if (720 : Int32) ≤ x1 then b_X9_addFrom_23 M else gd (imax (0 : Int32) x1) 720 (gd (imax (0 : Int32) x1) 720 (lt (uM M 12 (imax (0 : Int32) x1).toNatClampNeg ((M 12 (imax (0 : Int32) x1).toNatClampNeg) + x2)) (fun M_4 => b_X9_addFrom_23 M_4)))
set_option maxRecDepth 20000 in
set_option maxHeartbeats 2000000 in
theorem w_X9_addFrom_0 {x : xC} (C : CtC x RX9 cX9_addFrom 3 ({ frames := 1, cells := 0, slots := 0, locals := 24 } : Room)) (M : xM) (x1 : Int32) (x2 : Int32)  (o : xM) (h : b_X9_addFrom_0 M x1 x2 = some o) (hr : (x_me x).sig.returnType = none) (ev : x_rv x = none) (eM : x_M x = o) : J x M 0 [(0, .ref (x_ad x 11)), (1, .int x1), (2, .int x2)] [] := by
  unfold b_X9_addFrom_0 at h
  refine r_iload_n C.1 1 dX9_addFrom_0 rfl rfl ?_
  refine r_aload_n C.1 0 dX9_addFrom_1 rfl rfl ?_
  refine gf_X9_9 C dX9_addFrom_2 ?_
  refine r_alen C.1 (cK C (by decide)) (cS C (sh_12)) 0 (cT0 C) (v := 720) rfl dX9_addFrom_5 ?_
  refine r_icmp_ge C.1 23 dX9_addFrom_6 (by decide) (fun c_1 => ?_) (fun c_1 => ?_)
  · replace h := ite_T c_1 h
    exact r_sub [] rfl (w_X9_addFrom_23 C M _ h hr ev eM)
  · replace h := ite_F c_1 h
    refine r_aload_n C.1 0 dX9_addFrom_9 rfl rfl ?_
    refine gf_X9_9 C dX9_addFrom_10 ?_
    refine r_iconst (v := 0) C.1 dX9_addFrom_13 rfl ?_
    refine r_iload_n C.1 1 dX9_addFrom_14 rfl rfl ?_
    refine cm_X9_78 C.1 (by decide) (by decide) (Nat.le_of_ble_eq_true rfl) dX9_addFrom_15 ?_
    refine r_dup2 C.1 rfl rfl dX9_addFrom_18 ?_
    obtain ⟨q_2, h⟩ := gd_E h
    refine r_iald C.1 (cK C (by decide)) (cS C (sh_12)) 0 (cT0 C) q_2 dX9_addFrom_19 ?_
    refine r_iload_n C.1 2 dX9_addFrom_20 rfl rfl ?_
    refine r_iadd C.1 dX9_addFrom_21 ?_
    obtain ⟨q_3, h⟩ := gd_E h
    obtain ⟨M_4, eM_4, h⟩ := lt_E h
    refine r_iast C.1 (cK C (by decide)) (cS C (sh_12)) 0 (cT0 C) q_3 eM_4 dX9_addFrom_22 ?_
    exact r_sub [] rfl (w_X9_addFrom_23 C M_4 _ h hr ev eM)
def f_X9_addFrom (M : xM) (x1 : Int32) (x2 : Int32) : Option (xM) := b_X9_addFrom_0 M x1 x2
set_option maxRecDepth 20000 in
theorem m_X9_addFrom (l : Launch) (D : va_G) (ad : Nat → Nat) (M : xM) (x1 : Int32) (x2 : Int32)  {o : xM} (h : f_X9_addFrom M x1 x2 = some o) : xMetC l yX9_addFrom cX9_addFrom 3 none ({ frames := 1, cells := 0, slots := 0, locals := 24 } : Room) [.ref (ad 11), .int x1, .int x2] D ad M none o := by
  refine xMetC_of (own := RX9) (by decide) rfl (Nat.le_of_ble_eq_true rfl) ?_
  intro x C e1 e2 e3 ev eM hr
  subst e1; subst e2; subst e3
  refine r_sub (L := [(0, .ref (x_ad x 11)), (1, .int x1), (2, .int x2)]) (L' := [(0, .ref (x_ad x 11)), (1, .int x1), (2, .int x2)]) [0, 1, 2] rfl ?_
  exact w_X9_addFrom_0 C M x1 x2 _ h hr ev eM

def b_X9_findIdle_122 (M : xM) (x1 : Int32) (x2 : Int32) (x3 : Int32) (x4 : Int32) (x5 : Int32) : Option ((xM × Int32 × Int32 × Int32) ⊕ (xM)) :=
  lt (x5 + (1 : Int32)) (fun y_1 => some (.inl (M, x3, x4, y_1)))
set_option maxRecDepth 20000 in
set_option maxHeartbeats 2000000 in
theorem w_X9_findIdle_122 {x : xC} (C : CtC x RX9 cX9_findIdle 6 ({ frames := 1, cells := 0, slots := 0, locals := 24 } : Room)) (M : xM) (x1 : Int32) (x2 : Int32) (x3 : Int32) (x4 : Int32) (x5 : Int32)  (o : (xM × Int32 × Int32 × Int32) ⊕ (xM)) (h : b_X9_findIdle_122 M x1 x2 x3 x4 x5 = some o) (kh : ∀ s : xM × Int32 × Int32 × Int32, o = .inl s → J x s.1 12 [(0, .ref (x_ad x 11)), (1, .int x1), (2, .int x2), (3, .int s.2.1), (4, .int s.2.2.1), (5, .int s.2.2.2)] []) (ke_0 : ∀ v : xM, o = .inr v → J x v 128 [] []) : J x M 122 [(0, .ref (x_ad x 11)), (1, .int x1), (2, .int x2), (3, .int x3), (4, .int x4), (5, .int x5)] [] := by
  unfold b_X9_findIdle_122 at h
  obtain ⟨y_1, ey_1, h⟩ := lt_E h
  refine r_iinc C.1 5 [(5, .int y_1), (0, .ref (x_ad x 11)), (1, .int x1), (2, .int x2), (3, .int x3), (4, .int x4)] dX9_findIdle_122 rfl ey_1 (by decide) rfl ?_
  refine r_goto C.1 12 dX9_findIdle_125 (by decide) ?_
  exact r_sub [1, 2, 3, 4, 5, 0] rfl (kh _ (Option.some.inj h).symm)

def b_X9_findIdle_86 (M : xM) (x1 : Int32) (x2 : Int32) (x3 : Int32) (x4 : Int32) (x5 : Int32) : Option ((xM × Int32 × Int32 × Int32) ⊕ (xM)) :=
  if x5 < (360 : Int32) then b_X9_findIdle_122 M x1 x2 x3 x4 x5 else gd x3 720 (gd (M 14 x3.toNatClampNeg) 720 (gd (x5 - (360 : Int32)) 360 (lt (uM M 13 (x5 - (360 : Int32)).toNatClampNeg (imax (0 : Int32) ((M 12 (M 14 x3.toNatClampNeg).toNatClampNeg) - x2))) (fun M_5 => b_X9_findIdle_122 M_5 x1 x2 x3 x4 x5))))
set_option maxRecDepth 20000 in
set_option maxHeartbeats 2000000 in
theorem w_X9_findIdle_86 {x : xC} (C : CtC x RX9 cX9_findIdle 6 ({ frames := 1, cells := 0, slots := 0, locals := 24 } : Room)) (M : xM) (x1 : Int32) (x2 : Int32) (x3 : Int32) (x4 : Int32) (x5 : Int32)  (o : (xM × Int32 × Int32 × Int32) ⊕ (xM)) (h : b_X9_findIdle_86 M x1 x2 x3 x4 x5 = some o) (kh : ∀ s : xM × Int32 × Int32 × Int32, o = .inl s → J x s.1 12 [(0, .ref (x_ad x 11)), (1, .int x1), (2, .int x2), (3, .int s.2.1), (4, .int s.2.2.1), (5, .int s.2.2.2)] []) (ke_0 : ∀ v : xM, o = .inr v → J x v 128 [] []) : J x M 86 [(0, .ref (x_ad x 11)), (1, .int x1), (2, .int x2), (3, .int x3), (4, .int x4), (5, .int x5)] [] := by
  unfold b_X9_findIdle_86 at h
  refine r_iload C.1 5 dX9_findIdle_86 rfl ?_
  refine r_sipush (v := 360) C.1 dX9_findIdle_88 (by decide) ?_
  refine r_icmp_lt C.1 122 dX9_findIdle_91 (by decide) (fun c_1 => ?_) (fun c_1 => ?_)
  · replace h := ite_T c_1 h
    exact r_sub [0, 1, 2, 3, 4, 5] rfl (w_X9_findIdle_122 C M x1 x2 x3 x4 x5 _ h kh ke_0)
  · replace h := ite_F c_1 h
    refine r_aload_n C.1 0 dX9_findIdle_94 rfl rfl ?_
    refine gf_X9_15 C dX9_findIdle_95 ?_
    refine r_iload C.1 5 dX9_findIdle_98 rfl ?_
    refine r_sipush (v := 360) C.1 dX9_findIdle_100 (by decide) ?_
    refine r_isub C.1 dX9_findIdle_103 ?_
    refine r_iconst (v := 0) C.1 dX9_findIdle_104 rfl ?_
    refine r_aload_n C.1 0 dX9_findIdle_105 rfl rfl ?_
    refine gf_X9_9 C dX9_findIdle_106 ?_
    refine r_aload_n C.1 0 dX9_findIdle_109 rfl rfl ?_
    refine gf_X9_18 C dX9_findIdle_110 ?_
    refine r_iload_n C.1 3 dX9_findIdle_113 rfl rfl ?_
    obtain ⟨q_2, h⟩ := gd_E h
    refine r_iald C.1 (cK C (by decide)) (cS C (sh_14)) 0 (cT0 C) q_2 dX9_findIdle_114 ?_
    obtain ⟨q_3, h⟩ := gd_E h
    refine r_iald C.1 (cK C (by decide)) (cS C (sh_12)) 0 (cT0 C) q_3 dX9_findIdle_115 ?_
    refine r_iload_n C.1 2 dX9_findIdle_116 rfl rfl ?_
    refine r_isub C.1 dX9_findIdle_117 ?_
    refine cm_X9_78 C.1 (by decide) (by decide) (Nat.le_of_ble_eq_true rfl) dX9_findIdle_118 ?_
    obtain ⟨q_4, h⟩ := gd_E h
    obtain ⟨M_5, eM_5, h⟩ := lt_E h
    refine r_iast C.1 (cK C (by decide)) (cS C (sh_13)) 0 (cT0 C) q_4 eM_5 dX9_findIdle_121 ?_
    exact r_sub [0, 1, 2, 3, 4, 5] rfl (w_X9_findIdle_122 C M_5 x1 x2 x3 x4 x5 _ h kh ke_0)

def b_X9_findIdle_58 (M : xM) (x1 : Int32) (x2 : Int32) (x3 : Int32) (x4 : Int32) (x5 : Int32) : Option ((xM × Int32 × Int32 × Int32) ⊕ (xM)) :=
  gd x4 720 (lt (uM M 14 x4.toNatClampNeg x5) (fun M_2 => lt (x4 + (1 : Int32)) (fun y_3 => gd x3 720 (if (x5 - x1) ≤ (M_2 14 x3.toNatClampNeg) then b_X9_findIdle_86 M_2 x1 x2 x3 y_3 x5 else lt (x3 + (1 : Int32)) (fun y_6 => b_X9_findIdle_86 M_2 x1 x2 y_6 y_3 x5)))))
set_option maxRecDepth 20000 in
set_option maxHeartbeats 2000000 in
theorem w_X9_findIdle_58 {x : xC} (C : CtC x RX9 cX9_findIdle 6 ({ frames := 1, cells := 0, slots := 0, locals := 24 } : Room)) (M : xM) (x1 : Int32) (x2 : Int32) (x3 : Int32) (x4 : Int32) (x5 : Int32)  (o : (xM × Int32 × Int32 × Int32) ⊕ (xM)) (h : b_X9_findIdle_58 M x1 x2 x3 x4 x5 = some o) (kh : ∀ s : xM × Int32 × Int32 × Int32, o = .inl s → J x s.1 12 [(0, .ref (x_ad x 11)), (1, .int x1), (2, .int x2), (3, .int s.2.1), (4, .int s.2.2.1), (5, .int s.2.2.2)] []) (ke_0 : ∀ v : xM, o = .inr v → J x v 128 [] []) : J x M 58 [(0, .ref (x_ad x 11)), (1, .int x1), (2, .int x2), (3, .int x3), (4, .int x4), (5, .int x5)] [] := by
  unfold b_X9_findIdle_58 at h
  refine r_aload_n C.1 0 dX9_findIdle_58 rfl rfl ?_
  refine gf_X9_18 C dX9_findIdle_59 ?_
  refine r_iload C.1 4 dX9_findIdle_62 rfl ?_
  refine r_iload C.1 5 dX9_findIdle_64 rfl ?_
  obtain ⟨q_1, h⟩ := gd_E h
  obtain ⟨M_2, eM_2, h⟩ := lt_E h
  refine r_iast C.1 (cK C (by decide)) (cS C (sh_14)) 0 (cT0 C) q_1 eM_2 dX9_findIdle_66 ?_
  obtain ⟨y_3, ey_3, h⟩ := lt_E h
  refine r_iinc C.1 4 [(4, .int y_3), (0, .ref (x_ad x 11)), (1, .int x1), (2, .int x2), (3, .int x3), (5, .int x5)] dX9_findIdle_67 rfl ey_3 (by decide) rfl ?_
  refine r_aload_n C.1 1 dX9_findIdle_70 rfl rfl ?_
  refine gf_X9_18 C dX9_findIdle_71 ?_
  refine r_iload_n C.1 4 dX9_findIdle_74 rfl rfl ?_
  obtain ⟨q_4, h⟩ := gd_E h
  refine r_iald C.1 (cK C (by decide)) (cS C (sh_14)) 0 (cT0 C) q_4 dX9_findIdle_75 ?_
  refine r_iload C.1 5 dX9_findIdle_76 rfl ?_
  refine r_iload_n C.1 2 dX9_findIdle_78 rfl rfl ?_
  refine r_isub C.1 dX9_findIdle_79 ?_
  refine r_icmp_ge C.1 86 dX9_findIdle_80 (by decide) (fun c_5 => ?_) (fun c_5 => ?_)
  · replace h := ite_T c_5 h
    exact r_sub [1, 2, 3, 4, 0, 5] rfl (w_X9_findIdle_86 C M_2 x1 x2 x3 y_3 x5 _ h kh ke_0)
  · replace h := ite_F c_5 h
    obtain ⟨y_6, ey_6, h⟩ := lt_E h
    refine r_iinc C.1 4 [(3, .int y_6), (4, .int y_3), (0, .ref (x_ad x 11)), (1, .int x1), (2, .int x2), (5, .int x5)] dX9_findIdle_83 rfl ey_6 (by decide) rfl ?_
    exact r_sub [2, 3, 4, 0, 1, 5] rfl (w_X9_findIdle_86 C M_2 x1 x2 y_6 y_3 x5 _ h kh ke_0)

def bl_X9_findIdle_22 (M : xM) (x1 : Int32) (x2 : Int32) (x3 : Int32) (x4 : Int32) (x5 : Int32) : Option ((Int32) ⊕ (Int32)) :=
  if x4 ≤ x3 then some (.inr x4) else gd (x4 - (1 : Int32)) 720 (gd (M 14 (x4 - (1 : Int32)).toNatClampNeg) 720 (gd x5 720 (if (M 12 (M 14 (x4 - (1 : Int32)).toNatClampNeg).toNatClampNeg) < (M 12 x5.toNatClampNeg) then some (.inr x4) else lt (x4 + (-1 : Int32)) (fun y_6 => some (.inl y_6)))))
set_option maxRecDepth 20000 in
set_option maxHeartbeats 2000000 in
theorem wl_X9_findIdle_22 {x : xC} (C : CtC x RX9 cX9_findIdle 6 ({ frames := 1, cells := 0, slots := 0, locals := 24 } : Room)) (M : xM) (x1 : Int32) (x2 : Int32) (x3 : Int32) (x4 : Int32) (x5 : Int32)  (o : (Int32) ⊕ (Int32)) (h : bl_X9_findIdle_22 M x1 x2 x3 x4 x5 = some o) (kh : ∀ s : Int32, o = .inl s → J x M 22 [(0, .ref (x_ad x 11)), (1, .int x1), (2, .int x2), (3, .int x3), (4, .int s), (5, .int x5)] []) (ke_0 : ∀ v : Int32, o = .inr v → J x M 58 [(0, .ref (x_ad x 11)), (1, .int x1), (2, .int x2), (3, .int x3), (4, .int v), (5, .int x5)] []) : J x M 22 [(0, .ref (x_ad x 11)), (1, .int x1), (2, .int x2), (3, .int x3), (4, .int x4), (5, .int x5)] [] := by
  unfold bl_X9_findIdle_22 at h
  refine r_iload C.1 4 dX9_findIdle_22 rfl ?_
  refine r_iload_n C.1 3 dX9_findIdle_24 rfl rfl ?_
  refine r_icmp_le C.1 58 dX9_findIdle_25 (by decide) (fun c_1 => ?_) (fun c_1 => ?_)
  · replace h := ite_T c_1 h
    exact r_sub [0, 1, 2, 3, 4, 5] rfl (ke_0 _ (Option.some.inj h).symm)
  · replace h := ite_F c_1 h
    refine r_aload_n C.1 0 dX9_findIdle_28 rfl rfl ?_
    refine gf_X9_9 C dX9_findIdle_29 ?_
    refine r_aload_n C.1 0 dX9_findIdle_32 rfl rfl ?_
    refine gf_X9_18 C dX9_findIdle_33 ?_
    refine r_iload C.1 4 dX9_findIdle_36 rfl ?_
    refine r_iconst (v := 1) C.1 dX9_findIdle_38 rfl ?_
    refine r_isub C.1 dX9_findIdle_39 ?_
    obtain ⟨q_2, h⟩ := gd_E h
    refine r_iald C.1 (cK C (by decide)) (cS C (sh_14)) 0 (cT0 C) q_2 dX9_findIdle_40 ?_
    obtain ⟨q_3, h⟩ := gd_E h
    refine r_iald C.1 (cK C (by decide)) (cS C (sh_12)) 0 (cT0 C) q_3 dX9_findIdle_41 ?_
    refine r_aload_n C.1 0 dX9_findIdle_42 rfl rfl ?_
    refine gf_X9_9 C dX9_findIdle_43 ?_
    refine r_iload C.1 5 dX9_findIdle_46 rfl ?_
    obtain ⟨q_4, h⟩ := gd_E h
    refine r_iald C.1 (cK C (by decide)) (cS C (sh_12)) 0 (cT0 C) q_4 dX9_findIdle_48 ?_
    refine r_icmp_lt C.1 58 dX9_findIdle_49 (by decide) (fun c_5 => ?_) (fun c_5 => ?_)
    · replace h := ite_T c_5 h
      exact r_sub [0, 1, 2, 3, 4, 5] rfl (ke_0 _ (Option.some.inj h).symm)
    · replace h := ite_F c_5 h
      obtain ⟨y_6, ey_6, h⟩ := lt_E h
      refine r_iinc C.1 4 [(4, .int y_6), (0, .ref (x_ad x 11)), (1, .int x1), (2, .int x2), (3, .int x3), (5, .int x5)] dX9_findIdle_52 rfl ey_6 (by decide) rfl ?_
      refine r_goto C.1 22 dX9_findIdle_55 (by decide) ?_
      exact r_sub [1, 2, 3, 4, 0, 5] rfl (kh _ (Option.some.inj h).symm)

def b_X9_findIdle_22 (M : xM) (x1 : Int32) (x2 : Int32) (x3 : Int32) (x4 : Int32) (x5 : Int32) : Option ((xM × Int32 × Int32 × Int32) ⊕ (xM)) :=
  bd (loopN (fun s : Int32 => bl_X9_findIdle_22 M x1 x2 x3 s x5) BG x4) (fun v => b_X9_findIdle_58 M x1 x2 x3 v x5)
set_option maxRecDepth 20000 in
set_option maxHeartbeats 2000000 in
theorem w_X9_findIdle_22 {x : xC} (C : CtC x RX9 cX9_findIdle 6 ({ frames := 1, cells := 0, slots := 0, locals := 24 } : Room)) (M : xM) (x1 : Int32) (x2 : Int32) (x3 : Int32) (x4 : Int32) (x5 : Int32)  (o : (xM × Int32 × Int32 × Int32) ⊕ (xM)) (h : b_X9_findIdle_22 M x1 x2 x3 x4 x5 = some o) (kh : ∀ s : xM × Int32 × Int32 × Int32, o = .inl s → J x s.1 12 [(0, .ref (x_ad x 11)), (1, .int x1), (2, .int x2), (3, .int s.2.1), (4, .int s.2.2.1), (5, .int s.2.2.2)] []) (ke_0 : ∀ v : xM, o = .inr v → J x v 128 [] []) : J x M 22 [(0, .ref (x_ad x 11)), (1, .int x1), (2, .int x2), (3, .int x3), (4, .int x4), (5, .int x5)] [] := by
  unfold b_X9_findIdle_22 at h
  obtain ⟨r_0, hr_0, h⟩ := bd_E h
  refine loopN_ind (JJ := fun s => J x M 22 [(0, .ref (x_ad x 11)), (1, .int x1), (2, .int x2), (3, .int x3), (4, .int s), (5, .int x5)] []) (KX := fun q => q = r_0) ?_ BG x4 r_0 hr_0 rfl
  intro s o1 hb kk1 kk2
  refine wl_X9_findIdle_22 C M x1 x2 x3 s x5 _ hb kk1 ?_
  · intro v e0
    have e1 := kk2 _ e0
    subst e1
    exact r_sub [0, 1, 2, 3, 4, 5] rfl (w_X9_findIdle_58 C M x1 x2 x3 v x5 _ h kh ke_0)

def bl_X9_findIdle_12 (M : xM) (x1 : Int32) (x2 : Int32) (x3 : Int32) (x4 : Int32) (x5 : Int32) : Option ((xM × Int32 × Int32 × Int32) ⊕ (xM)) :=
  if (720 : Int32) ≤ x5 then some (.inr M) else b_X9_findIdle_22 M x1 x2 x3 x4 x5
set_option maxRecDepth 20000 in
set_option maxHeartbeats 2000000 in
theorem wl_X9_findIdle_12 {x : xC} (C : CtC x RX9 cX9_findIdle 6 ({ frames := 1, cells := 0, slots := 0, locals := 24 } : Room)) (M : xM) (x1 : Int32) (x2 : Int32) (x3 : Int32) (x4 : Int32) (x5 : Int32)  (o : (xM × Int32 × Int32 × Int32) ⊕ (xM)) (h : bl_X9_findIdle_12 M x1 x2 x3 x4 x5 = some o) (kh : ∀ s : xM × Int32 × Int32 × Int32, o = .inl s → J x s.1 12 [(0, .ref (x_ad x 11)), (1, .int x1), (2, .int x2), (3, .int s.2.1), (4, .int s.2.2.1), (5, .int s.2.2.2)] []) (ke_0 : ∀ v : xM, o = .inr v → J x v 128 [] []) : J x M 12 [(0, .ref (x_ad x 11)), (1, .int x1), (2, .int x2), (3, .int x3), (4, .int x4), (5, .int x5)] [] := by
  unfold bl_X9_findIdle_12 at h
  refine r_iload C.1 5 dX9_findIdle_12 rfl ?_
  refine r_aload_n C.1 0 dX9_findIdle_14 rfl rfl ?_
  refine gf_X9_9 C dX9_findIdle_15 ?_
  refine r_alen C.1 (cK C (by decide)) (cS C (sh_12)) 0 (cT0 C) (v := 720) rfl dX9_findIdle_18 ?_
  refine r_icmp_ge C.1 128 dX9_findIdle_19 (by decide) (fun c_1 => ?_) (fun c_1 => ?_)
  · replace h := ite_T c_1 h
    exact r_sub [] rfl (ke_0 _ (Option.some.inj h).symm)
  · replace h := ite_F c_1 h
    exact r_sub [0, 1, 2, 3, 4, 5] rfl (w_X9_findIdle_22 C M x1 x2 x3 x4 x5 _ h kh ke_0)

def b_X9_findIdle_12 (M : xM) (x1 : Int32) (x2 : Int32) (x3 : Int32) (x4 : Int32) (x5 : Int32) : Option (xM) :=
  bd (loopN (fun s : xM × Int32 × Int32 × Int32 => bl_X9_findIdle_12 s.1 x1 x2 s.2.1 s.2.2.1 s.2.2.2) BG (M, x3, x4, x5)) (fun v => some v)
set_option maxRecDepth 20000 in
set_option maxHeartbeats 2000000 in
theorem w_X9_findIdle_12 {x : xC} (C : CtC x RX9 cX9_findIdle 6 ({ frames := 1, cells := 0, slots := 0, locals := 24 } : Room)) (M : xM) (x1 : Int32) (x2 : Int32) (x3 : Int32) (x4 : Int32) (x5 : Int32)  (o : xM) (h : b_X9_findIdle_12 M x1 x2 x3 x4 x5 = some o) (hr : (x_me x).sig.returnType = none) (ev : x_rv x = none) (eM : x_M x = o) : J x M 12 [(0, .ref (x_ad x 11)), (1, .int x1), (2, .int x2), (3, .int x3), (4, .int x4), (5, .int x5)] [] := by
  unfold b_X9_findIdle_12 at h
  obtain ⟨r_0, hr_0, h⟩ := bd_E h
  refine loopN_ind (JJ := fun s => J x s.1 12 [(0, .ref (x_ad x 11)), (1, .int x1), (2, .int x2), (3, .int s.2.1), (4, .int s.2.2.1), (5, .int s.2.2.2)] []) (KX := fun q => q = r_0) ?_ BG (M, x3, x4, x5) r_0 hr_0 rfl
  intro s o1 hb kk1 kk2
  refine wl_X9_findIdle_12 C s.1 x1 x2 s.2.1 s.2.2.1 s.2.2.2 _ hb kk1 ?_
  · intro v e0
    have e1 := kk2 _ e0
    subst e1
    obtain rfl := Option.some.inj h
    exact r_vret C.1 hr ev eM dX9_findIdle_128

def b_X9_findIdle_0 (M : xM) (x1 : Int32) (x2 : Int32) : Option (xM) :=
  lt ((360 : Int32) - x1) (fun y_1 => b_X9_findIdle_12 M x1 x2 (0 : Int32) (0 : Int32) y_1)
set_option maxRecDepth 20000 in
set_option maxHeartbeats 2000000 in
theorem w_X9_findIdle_0 {x : xC} (C : CtC x RX9 cX9_findIdle 6 ({ frames := 1, cells := 0, slots := 0, locals := 24 } : Room)) (M : xM) (x1 : Int32) (x2 : Int32)  (o : xM) (h : b_X9_findIdle_0 M x1 x2 = some o) (hr : (x_me x).sig.returnType = none) (ev : x_rv x = none) (eM : x_M x = o) : J x M 0 [(0, .ref (x_ad x 11)), (1, .int x1), (2, .int x2)] [] := by
  unfold b_X9_findIdle_0 at h
  refine r_iconst (v := 0) C.1 dX9_findIdle_0 rfl ?_
  refine r_istore_n C.1 [(3, .int (0 : Int32)), (0, .ref (x_ad x 11)), (1, .int x1), (2, .int x2)] dX9_findIdle_1 rfl (by decide) rfl rfl ?_
  refine r_iconst (v := 0) C.1 dX9_findIdle_2 rfl ?_
  refine r_istore C.1 [(4, .int (0 : Int32)), (3, .int (0 : Int32)), (0, .ref (x_ad x 11)), (1, .int x1), (2, .int x2)] dX9_findIdle_3 (by decide) rfl rfl ?_
  refine r_sipush (v := 360) C.1 dX9_findIdle_5 (by decide) ?_
  refine r_iload_n C.1 3 dX9_findIdle_8 rfl rfl ?_
  refine r_isub C.1 dX9_findIdle_9 ?_
  obtain ⟨y_1, ey_1, h⟩ := lt_E h
  refine r_istore C.1 [(5, .int y_1), (4, .int (0 : Int32)), (3, .int (0 : Int32)), (0, .ref (x_ad x 11)), (1, .int x1), (2, .int x2)] dX9_findIdle_10 (by decide) ey_1 rfl ?_
  exact r_sub [3, 4, 5, 2, 1, 0] rfl (w_X9_findIdle_12 C M x1 x2 (0 : Int32) (0 : Int32) y_1 _ h hr ev eM)
def f_X9_findIdle (M : xM) (x1 : Int32) (x2 : Int32) : Option (xM) := b_X9_findIdle_0 M x1 x2
set_option maxRecDepth 20000 in
theorem m_X9_findIdle (l : Launch) (D : va_G) (ad : Nat → Nat) (M : xM) (x1 : Int32) (x2 : Int32)  {o : xM} (h : f_X9_findIdle M x1 x2 = some o) : xMetC l yX9_findIdle cX9_findIdle 6 none ({ frames := 1, cells := 0, slots := 0, locals := 24 } : Room) [.ref (ad 11), .int x1, .int x2] D ad M none o := by
  refine xMetC_of (own := RX9) (by decide) rfl (Nat.le_of_ble_eq_true rfl) ?_
  intro x C e1 e2 e3 ev eM hr
  subst e1; subst e2; subst e3
  refine r_sub (L := [(0, .ref (x_ad x 11)), (1, .int x1), (2, .int x2)]) (L' := [(0, .ref (x_ad x 11)), (1, .int x1), (2, .int x2)]) [0, 1, 2] rfl ?_
  exact w_X9_findIdle_0 C M x1 x2 _ h hr ev eM

def bl_X9_lookWithMoreOut_132 (M : xM) (x7 : Int32) : Option ((xM × Int32) ⊕ (xM)) :=
  if (720 : Int32) ≤ x7 then some (.inr M) else gd x7 720 (gd (x7 - (1 : Int32)) 720 (gd x7 720 (lt (uM M 12 x7.toNatClampNeg ((M 12 x7.toNatClampNeg) + (M 12 (x7 - (1 : Int32)).toNatClampNeg))) (fun M_5 => lt (x7 + (1 : Int32)) (fun y_6 => some (.inl (M_5, y_6)))))))
set_option maxRecDepth 20000 in
set_option maxHeartbeats 2000000 in
theorem wl_X9_lookWithMoreOut_132 {x : xC} (C : CtC x RX9 cX9_lookWithMoreOut 9 ({ frames := 2, cells := 0, slots := 0, locals := 49 } : Room)) (M : xM) (x7 : Int32)  (o : (xM × Int32) ⊕ (xM)) (h : bl_X9_lookWithMoreOut_132 M x7 = some o) (kh : ∀ s : xM × Int32, o = .inl s → J x s.1 132 [(0, .ref (x_ad x 11)), (1, .ref (x_ad x 17)), (7, .int s.2)] []) (ke_0 : ∀ v : xM, o = .inr v → J x v 167 [(0, .ref (x_ad x 11)), (1, .ref (x_ad x 17))] []) : J x M 132 [(0, .ref (x_ad x 11)), (1, .ref (x_ad x 17)), (7, .int x7)] [] := by
  unfold bl_X9_lookWithMoreOut_132 at h
  refine r_iload C.1 2 dX9_lookWithMoreOut_132 rfl ?_
  refine r_aload_n C.1 0 dX9_lookWithMoreOut_134 rfl rfl ?_
  refine gf_X9_9 C dX9_lookWithMoreOut_135 ?_
  refine r_alen C.1 (cK C (by decide)) (cS C (sh_12)) 0 (cT0 C) (v := 720) rfl dX9_lookWithMoreOut_138 ?_
  refine r_icmp_ge C.1 167 dX9_lookWithMoreOut_139 (by decide) (fun c_1 => ?_) (fun c_1 => ?_)
  · replace h := ite_T c_1 h
    exact r_sub [0, 1] rfl (ke_0 _ (Option.some.inj h).symm)
  · replace h := ite_F c_1 h
    refine r_aload_n C.1 0 dX9_lookWithMoreOut_142 rfl rfl ?_
    refine gf_X9_9 C dX9_lookWithMoreOut_143 ?_
    refine r_iload C.1 2 dX9_lookWithMoreOut_146 rfl ?_
    refine r_dup2 C.1 rfl rfl dX9_lookWithMoreOut_148 ?_
    obtain ⟨q_2, h⟩ := gd_E h
    refine r_iald C.1 (cK C (by decide)) (cS C (sh_12)) 0 (cT0 C) q_2 dX9_lookWithMoreOut_149 ?_
    refine r_aload_n C.1 0 dX9_lookWithMoreOut_150 rfl rfl ?_
    refine gf_X9_9 C dX9_lookWithMoreOut_151 ?_
    refine r_iload C.1 2 dX9_lookWithMoreOut_154 rfl ?_
    refine r_iconst (v := 1) C.1 dX9_lookWithMoreOut_156 rfl ?_
    refine r_isub C.1 dX9_lookWithMoreOut_157 ?_
    obtain ⟨q_3, h⟩ := gd_E h
    refine r_iald C.1 (cK C (by decide)) (cS C (sh_12)) 0 (cT0 C) q_3 dX9_lookWithMoreOut_158 ?_
    refine r_iadd C.1 dX9_lookWithMoreOut_159 ?_
    obtain ⟨q_4, h⟩ := gd_E h
    obtain ⟨M_5, eM_5, h⟩ := lt_E h
    refine r_iast C.1 (cK C (by decide)) (cS C (sh_12)) 0 (cT0 C) q_4 eM_5 dX9_lookWithMoreOut_160 ?_
    obtain ⟨y_6, ey_6, h⟩ := lt_E h
    refine r_iinc C.1 2 [(7, .int y_6), (0, .ref (x_ad x 11)), (1, .ref (x_ad x 17))] dX9_lookWithMoreOut_161 rfl ey_6 (by decide) rfl ?_
    refine r_goto C.1 132 dX9_lookWithMoreOut_164 (by decide) ?_
    exact r_sub [1, 2, 0] rfl (kh _ (Option.some.inj h).symm)

def b_X9_lookWithMoreOut_132 (M : xM) (x7 : Int32) : Option (xM) :=
  bd (loopN (fun s : xM × Int32 => bl_X9_lookWithMoreOut_132 s.1 s.2) BG (M, x7)) (fun v => gd (2 : Int32) 7 (gd (3 : Int32) 7 (bd (f_X9_findIdle v (v 18 (2 : Int32).toNatClampNeg) (v 18 (3 : Int32).toNatClampNeg)) (fun M_5 => some M_5))))
set_option maxRecDepth 20000 in
set_option maxHeartbeats 2000000 in
theorem w_X9_lookWithMoreOut_132 {x : xC} (C : CtC x RX9 cX9_lookWithMoreOut 9 ({ frames := 2, cells := 0, slots := 0, locals := 49 } : Room)) (M : xM) (x7 : Int32)  (o : xM) (h : b_X9_lookWithMoreOut_132 M x7 = some o) (hr : (x_me x).sig.returnType = none) (ev : x_rv x = none) (eM : x_M x = o) : J x M 132 [(0, .ref (x_ad x 11)), (1, .ref (x_ad x 17)), (7, .int x7)] [] := by
  unfold b_X9_lookWithMoreOut_132 at h
  obtain ⟨r_0, hr_0, h⟩ := bd_E h
  refine loopN_ind (JJ := fun s => J x s.1 132 [(0, .ref (x_ad x 11)), (1, .ref (x_ad x 17)), (7, .int s.2)] []) (KX := fun q => q = r_0) ?_ BG (M, x7) r_0 hr_0 rfl
  intro s o1 hb kk1 kk2
  refine wl_X9_lookWithMoreOut_132 C s.1 s.2 _ hb kk1 ?_
  · intro v e0
    have e1 := kk2 _ e0
    subst e1
    refine r_aload_n C.1 0 dX9_lookWithMoreOut_167 rfl rfl ?_
    refine r_aload_n C.1 1 dX9_lookWithMoreOut_168 rfl rfl ?_
    refine gf_X9_72_17 C dX9_lookWithMoreOut_169 ?_
    refine r_iconst (v := 2) C.1 dX9_lookWithMoreOut_172 rfl ?_
    obtain ⟨q_1, h⟩ := gd_E h
    refine r_iald C.1 (cK C (by decide)) (cS C (sh_18)) 0 (cT0 C) q_1 dX9_lookWithMoreOut_173 ?_
    refine r_aload_n C.1 1 dX9_lookWithMoreOut_174 rfl rfl ?_
    refine gf_X9_72_17 C dX9_lookWithMoreOut_175 ?_
    refine r_iconst (v := 3) C.1 dX9_lookWithMoreOut_178 rfl ?_
    obtain ⟨q_2, h⟩ := gd_E h
    refine r_iald C.1 (cK C (by decide)) (cS C (sh_18)) 0 (cT0 C) q_2 dX9_lookWithMoreOut_179 ?_
    obtain ⟨M_5, hc_4, h⟩ := bd_E h
    refine cl_X9_75 C ⟨Nat.le_of_ble_eq_true rfl, Nat.le_of_ble_eq_true rfl⟩ (m_X9_findIdle _ _ _ v (v 18 (2 : Int32).toNatClampNeg) (v 18 (3 : Int32).toNatClampNeg) hc_4) (Nat.le_of_ble_eq_true rfl) dX9_lookWithMoreOut_180 ?_
    obtain rfl := Option.some.inj h
    exact r_vret C.1 hr ev eM dX9_lookWithMoreOut_183

def bl_X9_lookWithMoreOut_72 (M : xM) (x2 : Int32) (x4 : Int32) (x5 : Int32) (x6 : Int32) (x7 : Int32) : Option ((xM × Int32) ⊕ (xM)) :=
  gd x2 4 (if (M (25 + 5 * x2.toNatClampNeg) 5) ≤ x7 then some (.inr M) else bd (f_X10_firstDay M (x7 + (1 : Int32))) (fun r_3 => gd x2 4 (bd (f_X8_broughtBy M (25 + 5 * x2.toNatClampNeg) x7) (fun r_6 => bd (f_X9_addFrom M (r_3 - x6) r_6) (fun M_10 => lt (x7 + (1 : Int32)) (fun y_11 => some (.inl (M_10, y_11))))))))
set_option maxRecDepth 20000 in
set_option maxHeartbeats 2000000 in
theorem wl_X9_lookWithMoreOut_72 {x : xC} (C : CtC x RX9 cX9_lookWithMoreOut 9 ({ frames := 2, cells := 0, slots := 0, locals := 49 } : Room)) (M : xM) (x2 : Int32) (x4 : Int32) (x5 : Int32) (x6 : Int32) (x7 : Int32)  (o : (xM × Int32) ⊕ (xM)) (h : bl_X9_lookWithMoreOut_72 M x2 x4 x5 x6 x7 = some o) (kh : ∀ s : xM × Int32, o = .inl s → J x s.1 72 [(0, .ref (x_ad x 11)), (1, .ref (x_ad x 17)), (2, .int x2), (4, .int x4), (5, .int x5), (6, .int x6), (7, .int s.2)] []) (ke_0 : ∀ v : xM, o = .inr v → J x v 117 [(0, .ref (x_ad x 11)), (1, .ref (x_ad x 17)), (4, .int x4), (5, .int x5), (6, .int x6)] []) : J x M 72 [(0, .ref (x_ad x 11)), (1, .ref (x_ad x 17)), (2, .int x2), (4, .int x4), (5, .int x5), (6, .int x6), (7, .int x7)] [] := by
  unfold bl_X9_lookWithMoreOut_72 at h
  refine r_iload C.1 6 dX9_lookWithMoreOut_72 rfl ?_
  refine r_aload_n C.1 1 dX9_lookWithMoreOut_74 rfl rfl ?_
  refine gf_X9_61_17 C dX9_lookWithMoreOut_75 ?_
  refine r_iload_n C.1 2 dX9_lookWithMoreOut_78 rfl rfl ?_
  obtain ⟨q_1, h⟩ := gd_E h
  refine r_aldq C.1 (cK C (by decide)) (cS C (sh_20)) 2 (cT2 C) q_1 (y := x_ad x (25 + 5 * x2.toNatClampNeg)) rfl dX9_lookWithMoreOut_79 ?_
  refine gfk_X9_64 C (kW_17 (vp_lt q_1)) dX9_lookWithMoreOut_80 ?_
  refine r_icmp_ge C.1 117 dX9_lookWithMoreOut_83 (by decide) (fun c_2 => ?_) (fun c_2 => ?_)
  · replace h := ite_T c_2 h
    exact r_sub [0, 1, 3, 4, 5] rfl (ke_0 _ (Option.some.inj h).symm)
  · replace h := ite_F c_2 h
    refine r_aload_n C.1 0 dX9_lookWithMoreOut_86 rfl rfl ?_
    refine r_iload C.1 6 dX9_lookWithMoreOut_87 rfl ?_
    refine r_iconst (v := 1) C.1 dX9_lookWithMoreOut_89 rfl ?_
    refine r_iadd C.1 dX9_lookWithMoreOut_90 ?_
    obtain ⟨r_3, hc_4, h⟩ := bd_E h
    refine cl_X9_21 C ⟨Nat.le_of_ble_eq_true rfl, Nat.le_of_ble_eq_true rfl⟩ (m_X10_firstDay _ _ _ M (x7 + (1 : Int32)) hc_4) (Nat.le_of_ble_eq_true rfl) dX9_lookWithMoreOut_91 ?_
    refine r_iload C.1 5 dX9_lookWithMoreOut_94 rfl ?_
    refine r_isub C.1 dX9_lookWithMoreOut_96 ?_
    refine r_aload_n C.1 1 dX9_lookWithMoreOut_97 rfl rfl ?_
    refine gf_X9_61_17 C dX9_lookWithMoreOut_98 ?_
    refine r_iload_n C.1 2 dX9_lookWithMoreOut_101 rfl rfl ?_
    obtain ⟨q_5, h⟩ := gd_E h
    refine r_aldq C.1 (cK C (by decide)) (cS C (sh_20)) 2 (cT2 C) q_5 (y := x_ad x (25 + 5 * x2.toNatClampNeg)) rfl dX9_lookWithMoreOut_102 ?_
    refine r_iload C.1 6 dX9_lookWithMoreOut_103 rfl ?_
    obtain ⟨r_6, hc_7, h⟩ := bd_E h
    refine cl_X9_69 C (kW_17 (vp_lt q_5)) ⟨Nat.le_of_ble_eq_true rfl, Nat.le_of_ble_eq_true rfl⟩ (m_X8_broughtBy _ _ _ M (25 + 5 * x2.toNatClampNeg) x7 (kW_17 (vp_lt q_5)) hc_7) (Nat.le_of_ble_eq_true rfl) dX9_lookWithMoreOut_105 ?_
    obtain ⟨M_10, hc_9, h⟩ := bd_E h
    refine cl_X9_57 C ⟨Nat.le_of_ble_eq_true rfl, Nat.le_of_ble_eq_true rfl⟩ (m_X9_addFrom _ _ _ M (r_3 - x6) r_6 hc_9) (Nat.le_of_ble_eq_true rfl) dX9_lookWithMoreOut_108 ?_
    obtain ⟨y_11, ey_11, h⟩ := lt_E h
    refine r_iinc C.1 6 [(7, .int y_11), (0, .ref (x_ad x 11)), (1, .ref (x_ad x 17)), (2, .int x2), (4, .int x4), (5, .int x5), (6, .int x6)] dX9_lookWithMoreOut_111 rfl ey_11 (by decide) rfl ?_
    refine r_goto C.1 72 dX9_lookWithMoreOut_114 (by decide) ?_
    exact r_sub [1, 2, 3, 4, 5, 6, 0] rfl (kh _ (Option.some.inj h).symm)

def b_X9_lookWithMoreOut_72 (M : xM) (x2 : Int32) (x4 : Int32) (x5 : Int32) (x6 : Int32) (x7 : Int32) : Option (xM) :=
  bd (loopN (fun s : xM × Int32 => bl_X9_lookWithMoreOut_72 s.1 x2 x4 x5 x6 s.2) BG (M, x7)) (fun v => bd (f_X9_addFrom v (x4 - x6) (-x5)) (fun M_3 => b_X9_lookWithMoreOut_132 M_3 (1 : Int32)))
set_option maxRecDepth 20000 in
set_option maxHeartbeats 2000000 in
theorem w_X9_lookWithMoreOut_72 {x : xC} (C : CtC x RX9 cX9_lookWithMoreOut 9 ({ frames := 2, cells := 0, slots := 0, locals := 49 } : Room)) (M : xM) (x2 : Int32) (x4 : Int32) (x5 : Int32) (x6 : Int32) (x7 : Int32)  (o : xM) (h : b_X9_lookWithMoreOut_72 M x2 x4 x5 x6 x7 = some o) (hr : (x_me x).sig.returnType = none) (ev : x_rv x = none) (eM : x_M x = o) : J x M 72 [(0, .ref (x_ad x 11)), (1, .ref (x_ad x 17)), (2, .int x2), (4, .int x4), (5, .int x5), (6, .int x6), (7, .int x7)] [] := by
  unfold b_X9_lookWithMoreOut_72 at h
  obtain ⟨r_0, hr_0, h⟩ := bd_E h
  refine loopN_ind (JJ := fun s => J x s.1 72 [(0, .ref (x_ad x 11)), (1, .ref (x_ad x 17)), (2, .int x2), (4, .int x4), (5, .int x5), (6, .int x6), (7, .int s.2)] []) (KX := fun q => q = r_0) ?_ BG (M, x7) r_0 hr_0 rfl
  intro s o1 hb kk1 kk2
  refine wl_X9_lookWithMoreOut_72 C s.1 x2 x4 x5 x6 s.2 _ hb kk1 ?_
  · intro v e0
    have e1 := kk2 _ e0
    subst e1
    refine r_aload_n C.1 0 dX9_lookWithMoreOut_117 rfl rfl ?_
    refine r_iload C.1 2 dX9_lookWithMoreOut_118 rfl ?_
    refine r_iload C.1 4 dX9_lookWithMoreOut_120 rfl ?_
    refine r_isub C.1 dX9_lookWithMoreOut_122 ?_
    refine r_iload C.1 3 dX9_lookWithMoreOut_123 rfl ?_
    refine r_ineg C.1 dX9_lookWithMoreOut_125 ?_
    obtain ⟨M_3, hc_2, h⟩ := bd_E h
    refine cl_X9_57 C ⟨Nat.le_of_ble_eq_true rfl, Nat.le_of_ble_eq_true rfl⟩ (m_X9_addFrom _ _ _ v (x4 - x6) (-x5) hc_2) (Nat.le_of_ble_eq_true rfl) dX9_lookWithMoreOut_126 ?_
    refine r_iconst (v := 1) C.1 dX9_lookWithMoreOut_129 rfl ?_
    refine r_istore C.1 [(7, .int (1 : Int32)), (0, .ref (x_ad x 11)), (1, .ref (x_ad x 17)), (4, .int x4), (5, .int x5), (6, .int x6)] dX9_lookWithMoreOut_130 (by decide) rfl rfl ?_
    exact r_sub [1, 2, 0] rfl (w_X9_lookWithMoreOut_132 C M_3 (1 : Int32) _ h hr ev eM)

def b_X9_lookWithMoreOut_63 (M : xM) (x2 : Int32) (x4 : Int32) (x5 : Int32) (x6 : Int32) (x7 : Int32) : Option ((xM × Int32) ⊕ (xM)) :=
  lt (x7 + (1 : Int32)) (fun y_1 => some (.inl (M, y_1)))
set_option maxRecDepth 20000 in
set_option maxHeartbeats 2000000 in
theorem w_X9_lookWithMoreOut_63 {x : xC} (C : CtC x RX9 cX9_lookWithMoreOut 9 ({ frames := 2, cells := 0, slots := 0, locals := 49 } : Room)) (M : xM) (x2 : Int32) (x4 : Int32) (x5 : Int32) (x6 : Int32) (x7 : Int32)  (o : (xM × Int32) ⊕ (xM)) (h : b_X9_lookWithMoreOut_63 M x2 x4 x5 x6 x7 = some o) (kh : ∀ s : xM × Int32, o = .inl s → J x s.1 19 [(0, .ref (x_ad x 11)), (1, .ref (x_ad x 17)), (2, .int x2), (4, .int x4), (5, .int x5), (6, .int x6), (7, .int s.2)] []) (ke_0 : ∀ v : xM, o = .inr v → J x v 69 [(0, .ref (x_ad x 11)), (1, .ref (x_ad x 17)), (2, .int x2), (4, .int x4), (5, .int x5), (6, .int x6)] []) : J x M 63 [(0, .ref (x_ad x 11)), (1, .ref (x_ad x 17)), (2, .int x2), (4, .int x4), (5, .int x5), (6, .int x6), (7, .int x7)] [] := by
  unfold b_X9_lookWithMoreOut_63 at h
  obtain ⟨y_1, ey_1, h⟩ := lt_E h
  refine r_iinc C.1 6 [(7, .int y_1), (0, .ref (x_ad x 11)), (1, .ref (x_ad x 17)), (2, .int x2), (4, .int x4), (5, .int x5), (6, .int x6)] dX9_lookWithMoreOut_63 rfl ey_1 (by decide) rfl ?_
  refine r_goto C.1 19 dX9_lookWithMoreOut_66 (by decide) ?_
  exact r_sub [1, 2, 3, 4, 5, 6, 0] rfl (kh _ (Option.some.inj h).symm)

def bl_X9_lookWithMoreOut_19 (M : xM) (x2 : Int32) (x4 : Int32) (x5 : Int32) (x6 : Int32) (x7 : Int32) : Option ((xM × Int32) ⊕ (xM)) :=
  if (M 17 5) ≤ x7 then some (.inr M) else gd x7 40 (if (M (45 + x7.toNatClampNeg) 1) = x2 then bd (f_X2_effectOnMoney M (45 + x7.toNatClampNeg)) (fun r_4 => bd (f_X9_addFrom M ((M (45 + x7.toNatClampNeg) 2) - x6) r_4) (fun M_8 => b_X9_lookWithMoreOut_63 M_8 x2 x4 x5 x6 x7)) else b_X9_lookWithMoreOut_63 M x2 x4 x5 x6 x7)
set_option maxRecDepth 20000 in
set_option maxHeartbeats 2000000 in
theorem wl_X9_lookWithMoreOut_19 {x : xC} (C : CtC x RX9 cX9_lookWithMoreOut 9 ({ frames := 2, cells := 0, slots := 0, locals := 49 } : Room)) (M : xM) (x2 : Int32) (x4 : Int32) (x5 : Int32) (x6 : Int32) (x7 : Int32)  (o : (xM × Int32) ⊕ (xM)) (h : bl_X9_lookWithMoreOut_19 M x2 x4 x5 x6 x7 = some o) (kh : ∀ s : xM × Int32, o = .inl s → J x s.1 19 [(0, .ref (x_ad x 11)), (1, .ref (x_ad x 17)), (2, .int x2), (4, .int x4), (5, .int x5), (6, .int x6), (7, .int s.2)] []) (ke_0 : ∀ v : xM, o = .inr v → J x v 69 [(0, .ref (x_ad x 11)), (1, .ref (x_ad x 17)), (2, .int x2), (4, .int x4), (5, .int x5), (6, .int x6)] []) : J x M 19 [(0, .ref (x_ad x 11)), (1, .ref (x_ad x 17)), (2, .int x2), (4, .int x4), (5, .int x5), (6, .int x6), (7, .int x7)] [] := by
  unfold bl_X9_lookWithMoreOut_19 at h
  refine r_iload C.1 6 dX9_lookWithMoreOut_19 rfl ?_
  refine r_aload_n C.1 1 dX9_lookWithMoreOut_21 rfl rfl ?_
  refine gf_X9_35_17 C dX9_lookWithMoreOut_22 ?_
  refine r_icmp_ge C.1 69 dX9_lookWithMoreOut_25 (by decide) (fun c_1 => ?_) (fun c_1 => ?_)
  · replace h := ite_T c_1 h
    exact r_sub [0, 1, 2, 3, 4, 5] rfl (ke_0 _ (Option.some.inj h).symm)
  · replace h := ite_F c_1 h
    refine r_aload_n C.1 1 dX9_lookWithMoreOut_28 rfl rfl ?_
    refine gf_X9_41_17 C dX9_lookWithMoreOut_29 ?_
    refine r_iload C.1 6 dX9_lookWithMoreOut_32 rfl ?_
    obtain ⟨q_2, h⟩ := gd_E h
    refine r_aldq C.1 (cK C (by decide)) (cS C (sh_21)) 3 (cT3 C) q_2 (y := x_ad x (45 + x7.toNatClampNeg)) rfl dX9_lookWithMoreOut_34 ?_
    refine r_astore C.1 [(8, .ref (x_ad x (45 + x7.toNatClampNeg))), (0, .ref (x_ad x 11)), (1, .ref (x_ad x 17)), (2, .int x2), (4, .int x4), (5, .int x5), (6, .int x6), (7, .int x7)] dX9_lookWithMoreOut_35 (by decide) rfl ?_
    refine r_aload C.1 0 dX9_lookWithMoreOut_37 rfl ?_
    refine gfk_X9_45 C (kE_17 (vp_lt q_2)) dX9_lookWithMoreOut_39 ?_
    refine r_iload_n C.1 3 dX9_lookWithMoreOut_42 rfl rfl ?_
    refine r_icmp_ne C.1 63 dX9_lookWithMoreOut_43 (by decide) (fun c_3 => ?_) (fun c_3 => ?_)
    · replace h := ite_F c_3 h
      exact r_sub [1, 2, 3, 4, 5, 6, 7] rfl (w_X9_lookWithMoreOut_63 C M x2 x4 x5 x6 x7 _ h kh ke_0)
    · replace h := ite_T c_3 h
      refine r_aload_n C.1 1 dX9_lookWithMoreOut_46 rfl rfl ?_
      refine r_aload C.1 0 dX9_lookWithMoreOut_47 rfl ?_
      refine gfk_X9_50 C (kE_17 (vp_lt q_2)) dX9_lookWithMoreOut_49 ?_
      refine r_iload C.1 6 dX9_lookWithMoreOut_52 rfl ?_
      refine r_isub C.1 dX9_lookWithMoreOut_54 ?_
      refine r_aload C.1 0 dX9_lookWithMoreOut_55 rfl ?_
      obtain ⟨r_4, hc_5, h⟩ := bd_E h
      refine cl_X9_53 C (kE_17 (vp_lt q_2)) ⟨Nat.le_of_ble_eq_true rfl, Nat.le_of_ble_eq_true rfl⟩ (m_X2_effectOnMoney _ _ _ M (45 + x7.toNatClampNeg) (kE_17 (vp_lt q_2)) hc_5) (Nat.le_of_ble_eq_true rfl) dX9_lookWithMoreOut_57 ?_
      obtain ⟨M_8, hc_7, h⟩ := bd_E h
      refine cl_X9_57 C ⟨Nat.le_of_ble_eq_true rfl, Nat.le_of_ble_eq_true rfl⟩ (m_X9_addFrom _ _ _ M ((M (45 + x7.toNatClampNeg) 2) - x6) r_4 hc_7) (Nat.le_of_ble_eq_true rfl) dX9_lookWithMoreOut_60 ?_
      exact r_sub [1, 2, 3, 4, 5, 6, 7] rfl (w_X9_lookWithMoreOut_63 C M_8 x2 x4 x5 x6 x7 _ h kh ke_0)

def b_X9_lookWithMoreOut_19 (M : xM) (x2 : Int32) (x4 : Int32) (x5 : Int32) (x6 : Int32) (x7 : Int32) : Option (xM) :=
  bd (loopN (fun s : xM × Int32 => bl_X9_lookWithMoreOut_19 s.1 x2 x4 x5 x6 s.2) BG (M, x7)) (fun v => b_X9_lookWithMoreOut_72 v x2 x4 x5 x6 (0 : Int32))
set_option maxRecDepth 20000 in
set_option maxHeartbeats 2000000 in
theorem w_X9_lookWithMoreOut_19 {x : xC} (C : CtC x RX9 cX9_lookWithMoreOut 9 ({ frames := 2, cells := 0, slots := 0, locals := 49 } : Room)) (M : xM) (x2 : Int32) (x4 : Int32) (x5 : Int32) (x6 : Int32) (x7 : Int32)  (o : xM) (h : b_X9_lookWithMoreOut_19 M x2 x4 x5 x6 x7 = some o) (hr : (x_me x).sig.returnType = none) (ev : x_rv x = none) (eM : x_M x = o) : J x M 19 [(0, .ref (x_ad x 11)), (1, .ref (x_ad x 17)), (2, .int x2), (4, .int x4), (5, .int x5), (6, .int x6), (7, .int x7)] [] := by
  unfold b_X9_lookWithMoreOut_19 at h
  obtain ⟨r_0, hr_0, h⟩ := bd_E h
  refine loopN_ind (JJ := fun s => J x s.1 19 [(0, .ref (x_ad x 11)), (1, .ref (x_ad x 17)), (2, .int x2), (4, .int x4), (5, .int x5), (6, .int x6), (7, .int s.2)] []) (KX := fun q => q = r_0) ?_ BG (M, x7) r_0 hr_0 rfl
  intro s o1 hb kk1 kk2
  refine wl_X9_lookWithMoreOut_19 C s.1 x2 x4 x5 x6 s.2 _ hb kk1 ?_
  · intro v e0
    have e1 := kk2 _ e0
    subst e1
    refine r_iconst (v := 0) C.1 dX9_lookWithMoreOut_69 rfl ?_
    refine r_istore C.1 [(7, .int (0 : Int32)), (0, .ref (x_ad x 11)), (1, .ref (x_ad x 17)), (2, .int x2), (4, .int x4), (5, .int x5), (6, .int x6)] dX9_lookWithMoreOut_70 (by decide) rfl rfl ?_
    exact r_sub [1, 2, 3, 4, 5, 6, 0] rfl (w_X9_lookWithMoreOut_72 C v x2 x4 x5 x6 (0 : Int32) _ h hr ev eM)

def b_X9_lookWithMoreOut_0 (M : xM) (x2 : Int32) (x3 : Int32) (x4 : Int32) (x5 : Int32) : Option (xM) :=
  bd (f_X10_firstDay M (x3 - (1 : Int32))) (fun r_1 => bd (f_J7_fill12 M (0 : Int32)) (fun M_5 => b_X9_lookWithMoreOut_19 M_5 x2 x4 x5 r_1 (0 : Int32)))
set_option maxRecDepth 20000 in
set_option maxHeartbeats 2000000 in
theorem w_X9_lookWithMoreOut_0 {x : xC} (C : CtC x RX9 cX9_lookWithMoreOut 9 ({ frames := 2, cells := 0, slots := 0, locals := 49 } : Room)) (M : xM) (x2 : Int32) (x3 : Int32) (x4 : Int32) (x5 : Int32)  (o : xM) (h : b_X9_lookWithMoreOut_0 M x2 x3 x4 x5 = some o) (hr : (x_me x).sig.returnType = none) (ev : x_rv x = none) (eM : x_M x = o) : J x M 0 [(0, .ref (x_ad x 11)), (1, .ref (x_ad x 17)), (2, .int x2), (3, .int x3), (4, .int x4), (5, .int x5)] [] := by
  unfold b_X9_lookWithMoreOut_0 at h
  refine r_iload_n C.1 3 dX9_lookWithMoreOut_0 rfl rfl ?_
  refine r_iconst (v := 1) C.1 dX9_lookWithMoreOut_1 rfl ?_
  refine r_isub C.1 dX9_lookWithMoreOut_2 ?_
  obtain ⟨r_1, hc_2, h⟩ := bd_E h
  refine cl_X9_21 C ⟨Nat.le_of_ble_eq_true rfl, Nat.le_of_ble_eq_true rfl⟩ (m_X10_firstDay _ _ _ M (x3 - (1 : Int32)) hc_2) (Nat.le_of_ble_eq_true rfl) dX9_lookWithMoreOut_3 ?_
  refine r_istore C.1 [(6, .int r_1), (0, .ref (x_ad x 11)), (1, .ref (x_ad x 17)), (2, .int x2), (3, .int x3), (4, .int x4), (5, .int x5)] dX9_lookWithMoreOut_6 (by decide) rfl rfl ?_
  refine r_aload_n C.1 1 dX9_lookWithMoreOut_8 rfl rfl ?_
  refine gf_X9_9 C dX9_lookWithMoreOut_9 ?_
  refine r_iconst (v := 0) C.1 dX9_lookWithMoreOut_12 rfl ?_
  obtain ⟨M_5, hc_4, h⟩ := bd_E h
  refine cl_X9_29 C ⟨Nat.le_of_ble_eq_true rfl, Nat.le_of_ble_eq_true rfl⟩ (m_J7_fill12 _ _ _ M (0 : Int32) hc_4) (Nat.le_of_ble_eq_true rfl) dX9_lookWithMoreOut_13 ?_
  refine r_iconst (v := 0) C.1 dX9_lookWithMoreOut_16 rfl ?_
  refine r_istore C.1 [(7, .int (0 : Int32)), (6, .int r_1), (0, .ref (x_ad x 11)), (1, .ref (x_ad x 17)), (2, .int x2), (3, .int x3), (4, .int x4), (5, .int x5)] dX9_lookWithMoreOut_17 (by decide) rfl rfl ?_
  exact r_sub [2, 3, 4, 6, 7, 1, 0] rfl (w_X9_lookWithMoreOut_19 C M_5 x2 x4 x5 r_1 (0 : Int32) _ h hr ev eM)
def f_X9_lookWithMoreOut (M : xM) (x2 : Int32) (x3 : Int32) (x4 : Int32) (x5 : Int32) : Option (xM) := b_X9_lookWithMoreOut_0 M x2 x3 x4 x5
set_option maxRecDepth 20000 in
theorem m_X9_lookWithMoreOut (l : Launch) (D : va_G) (ad : Nat → Nat) (M : xM) (x2 : Int32) (x3 : Int32) (x4 : Int32) (x5 : Int32)  {o : xM} (h : f_X9_lookWithMoreOut M x2 x3 x4 x5 = some o) : xMetC l yX9_lookWithMoreOut cX9_lookWithMoreOut 9 none ({ frames := 2, cells := 0, slots := 0, locals := 49 } : Room) [.ref (ad 11), .ref (ad 17), .int x2, .int x3, .int x4, .int x5] D ad M none o := by
  refine xMetC_of (own := RX9) (by decide) rfl (Nat.le_of_ble_eq_true rfl) ?_
  intro x C e1 e2 e3 ev eM hr
  subst e1; subst e2; subst e3
  refine r_sub (L := [(0, .ref (x_ad x 11)), (1, .ref (x_ad x 17)), (2, .int x2), (3, .int x3), (4, .int x4), (5, .int x5)]) (L' := [(0, .ref (x_ad x 11)), (1, .ref (x_ad x 17)), (2, .int x2), (3, .int x3), (4, .int x4), (5, .int x5)]) [0, 1, 2, 3, 4, 5] rfl ?_
  exact w_X9_lookWithMoreOut_0 C M x2 x3 x4 x5 _ h hr ev eM

def b_X9_look_0 (M : xM) (x2 : Int32) (x3 : Int32) : Option (xM) :=
  bd (f_X10_firstDay M x3) (fun r_1 => bd (f_X9_lookWithMoreOut M x2 x3 r_1 (0 : Int32)) (fun M_5 => some M_5))
set_option maxRecDepth 20000 in
set_option maxHeartbeats 2000000 in
theorem w_X9_look_0 {x : xC} (C : CtC x RX9 cX9_look 4 ({ frames := 3, cells := 0, slots := 0, locals := 77 } : Room)) (M : xM) (x2 : Int32) (x3 : Int32)  (o : xM) (h : b_X9_look_0 M x2 x3 = some o) (hr : (x_me x).sig.returnType = none) (ev : x_rv x = none) (eM : x_M x = o) : J x M 0 [(0, .ref (x_ad x 11)), (1, .ref (x_ad x 17)), (2, .int x2), (3, .int x3)] [] := by
  unfold b_X9_look_0 at h
  refine r_aload_n C.1 0 dX9_look_0 rfl rfl ?_
  refine r_aload_n C.1 1 dX9_look_1 rfl rfl ?_
  refine r_iload_n C.1 2 dX9_look_2 rfl rfl ?_
  refine r_iload_n C.1 3 dX9_look_3 rfl rfl ?_
  refine r_iload_n C.1 3 dX9_look_4 rfl rfl ?_
  obtain ⟨r_1, hc_2, h⟩ := bd_E h
  refine cl_X9_21 C ⟨Nat.le_of_ble_eq_true rfl, Nat.le_of_ble_eq_true rfl⟩ (m_X10_firstDay _ _ _ M x3 hc_2) (Nat.le_of_ble_eq_true rfl) dX9_look_5 ?_
  refine r_iconst (v := 0) C.1 dX9_look_8 rfl ?_
  obtain ⟨M_5, hc_4, h⟩ := bd_E h
  refine cl_X9_25 C ⟨Nat.le_of_ble_eq_true rfl, Nat.le_of_ble_eq_true rfl⟩ (m_X9_lookWithMoreOut _ _ _ M x2 x3 r_1 (0 : Int32) hc_4) (Nat.le_of_ble_eq_true rfl) dX9_look_9 ?_
  obtain rfl := Option.some.inj h
  exact r_vret C.1 hr ev eM dX9_look_12
def f_X9_look (M : xM) (x2 : Int32) (x3 : Int32) : Option (xM) := b_X9_look_0 M x2 x3
set_option maxRecDepth 20000 in
theorem m_X9_look (l : Launch) (D : va_G) (ad : Nat → Nat) (M : xM) (x2 : Int32) (x3 : Int32)  {o : xM} (h : f_X9_look M x2 x3 = some o) : xMetC l yX9_look cX9_look 4 none ({ frames := 3, cells := 0, slots := 0, locals := 77 } : Room) [.ref (ad 11), .ref (ad 17), .int x2, .int x3] D ad M none o := by
  refine xMetC_of (own := RX9) (by decide) rfl (Nat.le_of_ble_eq_true rfl) ?_
  intro x C e1 e2 e3 ev eM hr
  subst e1; subst e2; subst e3
  refine r_sub (L := [(0, .ref (x_ad x 11)), (1, .ref (x_ad x 17)), (2, .int x2), (3, .int x3)]) (L' := [(0, .ref (x_ad x 11)), (1, .ref (x_ad x 17)), (2, .int x2), (3, .int x3)]) [0, 1, 2, 3] rfl ?_
  exact w_X9_look_0 C M x2 x3 _ h hr ev eM

def bl_X9_chargeAt_5 (M : xM) (x1 : Int32) (x2 : Int64) (x4 : Int32) : Option ((Int64 × Int32) ⊕ (Int64)) :=
  if (360 : Int32) ≤ x4 then some (.inr x2) else gd x4 360 (lt (x2 + ((M 13 x4.toNatClampNeg).toInt64)) (fun y_3 => lt (x4 + (1 : Int32)) (fun y_4 => some (.inl (y_3, y_4)))))
set_option maxRecDepth 20000 in
set_option maxHeartbeats 2000000 in
theorem wl_X9_chargeAt_5 {x : xC} (C : CtC x RX9 cX9_chargeAt 5 ({ frames := 0, cells := 0, slots := 0, locals := 0 } : Room)) (M : xM) (x1 : Int32) (x2 : Int64) (x4 : Int32)  (o : (Int64 × Int32) ⊕ (Int64)) (h : bl_X9_chargeAt_5 M x1 x2 x4 = some o) (kh : ∀ s : Int64 × Int32, o = .inl s → J x M 5 [(0, .ref (x_ad x 11)), (1, .int x1), (2, .long s.1), (4, .int s.2)] []) (ke_0 : ∀ v : Int64, o = .inr v → J x M 30 [(1, .int x1), (2, .long v)] []) : J x M 5 [(0, .ref (x_ad x 11)), (1, .int x1), (2, .long x2), (4, .int x4)] [] := by
  unfold bl_X9_chargeAt_5 at h
  refine r_iload C.1 3 dX9_chargeAt_5 rfl ?_
  refine r_sipush (v := 360) C.1 dX9_chargeAt_7 (by decide) ?_
  refine r_icmp_ge C.1 30 dX9_chargeAt_10 (by decide) (fun c_1 => ?_) (fun c_1 => ?_)
  · replace h := ite_T c_1 h
    exact r_sub [1, 2] rfl (ke_0 _ (Option.some.inj h).symm)
  · replace h := ite_F c_1 h
    refine r_lload_n C.1 2 dX9_chargeAt_13 rfl rfl ?_
    refine r_aload_n C.1 0 dX9_chargeAt_14 rfl rfl ?_
    refine gf_X9_15 C dX9_chargeAt_15 ?_
    refine r_iload C.1 3 dX9_chargeAt_18 rfl ?_
    obtain ⟨q_2, h⟩ := gd_E h
    refine r_iald C.1 (cK C (by decide)) (cS C (sh_13)) 0 (cT0 C) q_2 dX9_chargeAt_20 ?_
    refine r_i2l C.1 dX9_chargeAt_21 ?_
    refine r_ladd C.1 dX9_chargeAt_22 ?_
    obtain ⟨y_3, ey_3, h⟩ := lt_E h
    refine r_lstore_n C.1 [(2, .long y_3), (0, .ref (x_ad x 11)), (1, .int x1), (4, .int x4)] dX9_chargeAt_23 rfl (by decide) ey_3 rfl ?_
    obtain ⟨y_4, ey_4, h⟩ := lt_E h
    refine r_iinc C.1 3 [(4, .int y_4), (2, .long y_3), (0, .ref (x_ad x 11)), (1, .int x1)] dX9_chargeAt_24 rfl ey_4 (by decide) rfl ?_
    refine r_goto C.1 5 dX9_chargeAt_27 (by decide) ?_
    exact r_sub [2, 3, 1, 0] rfl (kh _ (Option.some.inj h).symm)

def b_X9_chargeAt_5 (M : xM) (x1 : Int32) (x2 : Int64) (x4 : Int32) : Option (Int32) :=
  bd (loopN (fun s : Int64 × Int32 => bl_X9_chargeAt_5 M x1 s.1 s.2) BG (x2, x4)) (fun v => some (((v * x1.toInt64) / (360000 : Int64)).toInt32))
set_option maxRecDepth 20000 in
set_option maxHeartbeats 2000000 in
theorem w_X9_chargeAt_5 {x : xC} (C : CtC x RX9 cX9_chargeAt 5 ({ frames := 0, cells := 0, slots := 0, locals := 0 } : Room)) (M : xM) (x1 : Int32) (x2 : Int64) (x4 : Int32)  (o : Int32) (h : b_X9_chargeAt_5 M x1 x2 x4 = some o) (hr : (x_me x).sig.returnType = some .int) (ev : x_rv x = some (.int o)) (eM : x_M x = M) : J x M 5 [(0, .ref (x_ad x 11)), (1, .int x1), (2, .long x2), (4, .int x4)] [] := by
  unfold b_X9_chargeAt_5 at h
  obtain ⟨r_0, hr_0, h⟩ := bd_E h
  refine loopN_ind (JJ := fun s => J x M 5 [(0, .ref (x_ad x 11)), (1, .int x1), (2, .long s.1), (4, .int s.2)] []) (KX := fun q => q = r_0) ?_ BG (x2, x4) r_0 hr_0 rfl
  intro s o1 hb kk1 kk2
  refine wl_X9_chargeAt_5 C M x1 s.1 s.2 _ hb kk1 ?_
  · intro v e0
    have e1 := kk2 _ e0
    subst e1
    refine r_lload_n C.1 1 dX9_chargeAt_30 rfl rfl ?_
    refine r_iload_n C.1 0 dX9_chargeAt_31 rfl rfl ?_
    refine r_i2l C.1 dX9_chargeAt_32 ?_
    refine r_lmul C.1 dX9_chargeAt_33 ?_
    refine r_ldc2 (v := 360000) C.1 kw_701 dX9_chargeAt_34 ?_
    refine r_ldiv C.1 (by decide) dX9_chargeAt_37 ?_
    refine r_l2i C.1 dX9_chargeAt_38 ?_
    obtain rfl := Option.some.inj h
    exact r_iret C.1 hr ev eM dX9_chargeAt_39

def b_X9_chargeAt_0 (M : xM) (x1 : Int32) : Option (Int32) :=
  b_X9_chargeAt_5 M x1 (0 : Int64) (0 : Int32)
set_option maxRecDepth 20000 in
set_option maxHeartbeats 2000000 in
theorem w_X9_chargeAt_0 {x : xC} (C : CtC x RX9 cX9_chargeAt 5 ({ frames := 0, cells := 0, slots := 0, locals := 0 } : Room)) (M : xM) (x1 : Int32)  (o : Int32) (h : b_X9_chargeAt_0 M x1 = some o) (hr : (x_me x).sig.returnType = some .int) (ev : x_rv x = some (.int o)) (eM : x_M x = M) : J x M 0 [(0, .ref (x_ad x 11)), (1, .int x1)] [] := by
  unfold b_X9_chargeAt_0 at h
  refine r_lconst (v := 0) C.1 dX9_chargeAt_0 rfl ?_
  refine r_lstore_n C.1 [(2, .long (0 : Int64)), (0, .ref (x_ad x 11)), (1, .int x1)] dX9_chargeAt_1 rfl (by decide) rfl rfl ?_
  refine r_iconst (v := 0) C.1 dX9_chargeAt_2 rfl ?_
  refine r_istore C.1 [(4, .int (0 : Int32)), (2, .long (0 : Int64)), (0, .ref (x_ad x 11)), (1, .int x1)] dX9_chargeAt_3 (by decide) rfl rfl ?_
  exact r_sub [2, 3, 1, 0] rfl (w_X9_chargeAt_5 C M x1 (0 : Int64) (0 : Int32) _ h hr ev eM)
def f_X9_chargeAt (M : xM) (x1 : Int32) : Option (Int32) := b_X9_chargeAt_0 M x1
set_option maxRecDepth 20000 in
theorem m_X9_chargeAt (l : Launch) (D : va_G) (ad : Nat → Nat) (M : xM) (x1 : Int32)  {o : Int32} (h : f_X9_chargeAt M x1 = some o) : xMetC l yX9_chargeAt cX9_chargeAt 5 (some .int) ({ frames := 0, cells := 0, slots := 0, locals := 0 } : Room) [.ref (ad 11), .int x1] D ad M (some (.int o)) M := by
  refine xMetC_of (own := RX9) (by decide) rfl (Nat.le_of_ble_eq_true rfl) ?_
  intro x C e1 e2 e3 ev eM hr
  subst e1; subst e2; subst e3
  refine r_sub (L := [(0, .ref (x_ad x 11)), (1, .int x1)]) (L' := [(0, .ref (x_ad x 11)), (1, .int x1)]) [0, 1] rfl ?_
  exact w_X9_chargeAt_0 C M x1 _ h hr ev eM

def b_X9_moneyOfDay_0 (M : xM) (x1 : Int32) : Option (Int32) :=
  gd ((360 : Int32) + x1) 720 (some (M 12 ((360 : Int32) + x1).toNatClampNeg))
set_option maxRecDepth 20000 in
set_option maxHeartbeats 2000000 in
theorem w_X9_moneyOfDay_0 {x : xC} (C : CtC x RX9 cX9_moneyOfDay 2 ({ frames := 0, cells := 0, slots := 0, locals := 0 } : Room)) (M : xM) (x1 : Int32)  (o : Int32) (h : b_X9_moneyOfDay_0 M x1 = some o) (hr : (x_me x).sig.returnType = some .int) (ev : x_rv x = some (.int o)) (eM : x_M x = M) : J x M 0 [(0, .ref (x_ad x 11)), (1, .int x1)] [] := by
  unfold b_X9_moneyOfDay_0 at h
  refine r_aload_n C.1 0 dX9_moneyOfDay_0 rfl rfl ?_
  refine gf_X9_9 C dX9_moneyOfDay_1 ?_
  refine r_sipush (v := 360) C.1 dX9_moneyOfDay_4 (by decide) ?_
  refine r_iload_n C.1 1 dX9_moneyOfDay_7 rfl rfl ?_
  refine r_iadd C.1 dX9_moneyOfDay_8 ?_
  obtain ⟨q_1, h⟩ := gd_E h
  refine r_iald C.1 (cK C (by decide)) (cS C (sh_12)) 0 (cT0 C) q_1 dX9_moneyOfDay_9 ?_
  obtain rfl := Option.some.inj h
  exact r_iret C.1 hr ev eM dX9_moneyOfDay_10
def f_X9_moneyOfDay (M : xM) (x1 : Int32) : Option (Int32) := b_X9_moneyOfDay_0 M x1
set_option maxRecDepth 20000 in
theorem m_X9_moneyOfDay (l : Launch) (D : va_G) (ad : Nat → Nat) (M : xM) (x1 : Int32)  {o : Int32} (h : f_X9_moneyOfDay M x1 = some o) : xMetC l yX9_moneyOfDay cX9_moneyOfDay 2 (some .int) ({ frames := 0, cells := 0, slots := 0, locals := 0 } : Room) [.ref (ad 11), .int x1] D ad M (some (.int o)) M := by
  refine xMetC_of (own := RX9) (by decide) rfl (Nat.le_of_ble_eq_true rfl) ?_
  intro x C e1 e2 e3 ev eM hr
  subst e1; subst e2; subst e3
  refine r_sub (L := [(0, .ref (x_ad x 11)), (1, .int x1)]) (L' := [(0, .ref (x_ad x 11)), (1, .int x1)]) [0, 1] rfl ?_
  exact w_X9_moneyOfDay_0 C M x1 _ h hr ev eM

def b_X9_extremeDay_50 (M : xM) (x2 : Int32) (x3 : Int32) (x4 : Int32) (x5 : Int32) : Option ((Int32 × Int32) ⊕ (Int32)) :=
  lt (x5 + (1 : Int32)) (fun y_1 => some (.inl (x4, y_1)))
set_option maxRecDepth 20000 in
set_option maxHeartbeats 2000000 in
theorem w_X9_extremeDay_50 {x : xC} (C : CtC x RX9 cX9_extremeDay 7 ({ frames := 1, cells := 0, slots := 0, locals := 21 } : Room)) (M : xM) (x2 : Int32) (x3 : Int32) (x4 : Int32) (x5 : Int32)  (o : (Int32 × Int32) ⊕ (Int32)) (h : b_X9_extremeDay_50 M x2 x3 x4 x5 = some o) (kh : ∀ s : Int32 × Int32, o = .inl s → J x M 8 [(0, .ref (x_ad x 11)), (2, .int x2), (3, .int x3), (4, .int s.1), (5, .int s.2)] []) (ke_0 : ∀ v : Int32, o = .inr v → J x M 56 [(4, .int v)] []) : J x M 50 [(0, .ref (x_ad x 11)), (2, .int x2), (3, .int x3), (4, .int x4), (5, .int x5)] [] := by
  unfold b_X9_extremeDay_50 at h
  obtain ⟨y_1, ey_1, h⟩ := lt_E h
  refine r_iinc C.1 4 [(5, .int y_1), (0, .ref (x_ad x 11)), (2, .int x2), (3, .int x3), (4, .int x4)] dX9_extremeDay_50 rfl ey_1 (by decide) rfl ?_
  refine r_goto C.1 8 dX9_extremeDay_53 (by decide) ?_
  exact r_sub [1, 2, 3, 4, 0] rfl (kh _ (Option.some.inj h).symm)

def b_X9_extremeDay_46 (M : xM) (x2 : Int32) (x3 : Int32) (x5 : Int32) : Option ((Int32 × Int32) ⊕ (Int32)) :=
  b_X9_extremeDay_50 M x2 x3 x5 x5
set_option maxRecDepth 20000 in
set_option maxHeartbeats 2000000 in
theorem w_X9_extremeDay_46 {x : xC} (C : CtC x RX9 cX9_extremeDay 7 ({ frames := 1, cells := 0, slots := 0, locals := 21 } : Room)) (M : xM) (x2 : Int32) (x3 : Int32) (x5 : Int32)  (o : (Int32 × Int32) ⊕ (Int32)) (h : b_X9_extremeDay_46 M x2 x3 x5 = some o) (kh : ∀ s : Int32 × Int32, o = .inl s → J x M 8 [(0, .ref (x_ad x 11)), (2, .int x2), (3, .int x3), (4, .int s.1), (5, .int s.2)] []) (ke_0 : ∀ v : Int32, o = .inr v → J x M 56 [(4, .int v)] []) : J x M 46 [(0, .ref (x_ad x 11)), (2, .int x2), (3, .int x3), (5, .int x5)] [] := by
  unfold b_X9_extremeDay_46 at h
  refine r_iload C.1 3 dX9_extremeDay_46 rfl ?_
  refine r_istore C.1 [(4, .int x5), (0, .ref (x_ad x 11)), (2, .int x2), (3, .int x3), (5, .int x5)] dX9_extremeDay_48 (by decide) rfl rfl ?_
  exact r_sub [1, 2, 3, 0, 4] rfl (w_X9_extremeDay_50 C M x2 x3 x5 x5 _ h kh ke_0)

def bl_X9_extremeDay_8 (M : xM) (x2 : Int32) (x3 : Int32) (x4 : Int32) (x5 : Int32) : Option ((Int32 × Int32) ⊕ (Int32)) :=
  if x2 < x5 then some (.inr x4) else bd (f_X9_moneyOfDay M x5) (fun r_2 => bd (f_X9_moneyOfDay M x4) (fun r_4 => lt (r_2 - r_4) (fun y_6 => if x3 = 0 then if 0 ≤ y_6 then b_X9_extremeDay_50 M x2 x3 x4 x5 else b_X9_extremeDay_46 M x2 x3 x5 else if y_6 ≤ 0 then b_X9_extremeDay_50 M x2 x3 x4 x5 else b_X9_extremeDay_46 M x2 x3 x5)))
set_option maxRecDepth 20000 in
set_option maxHeartbeats 2000000 in
theorem wl_X9_extremeDay_8 {x : xC} (C : CtC x RX9 cX9_extremeDay 7 ({ frames := 1, cells := 0, slots := 0, locals := 21 } : Room)) (M : xM) (x2 : Int32) (x3 : Int32) (x4 : Int32) (x5 : Int32)  (o : (Int32 × Int32) ⊕ (Int32)) (h : bl_X9_extremeDay_8 M x2 x3 x4 x5 = some o) (kh : ∀ s : Int32 × Int32, o = .inl s → J x M 8 [(0, .ref (x_ad x 11)), (2, .int x2), (3, .int x3), (4, .int s.1), (5, .int s.2)] []) (ke_0 : ∀ v : Int32, o = .inr v → J x M 56 [(4, .int v)] []) : J x M 8 [(0, .ref (x_ad x 11)), (2, .int x2), (3, .int x3), (4, .int x4), (5, .int x5)] [] := by
  unfold bl_X9_extremeDay_8 at h
  refine r_iload C.1 4 dX9_extremeDay_8 rfl ?_
  refine r_iload_n C.1 1 dX9_extremeDay_10 rfl rfl ?_
  refine r_icmp_gt C.1 56 dX9_extremeDay_11 (by decide) (fun c_1 => ?_) (fun c_1 => ?_)
  · replace h := ite_T c_1 h
    exact r_sub [3] rfl (ke_0 _ (Option.some.inj h).symm)
  · replace h := ite_F c_1 h
    refine r_aload_n C.1 0 dX9_extremeDay_14 rfl rfl ?_
    refine r_iload C.1 4 dX9_extremeDay_15 rfl ?_
    obtain ⟨r_2, hc_3, h⟩ := bd_E h
    refine cl_X9_86 C ⟨Nat.le_of_ble_eq_true rfl, Nat.le_of_ble_eq_true rfl⟩ (m_X9_moneyOfDay _ _ _ M x5 hc_3) (Nat.le_of_ble_eq_true rfl) dX9_extremeDay_17 ?_
    refine r_aload_n C.1 0 dX9_extremeDay_20 rfl rfl ?_
    refine r_iload C.1 3 dX9_extremeDay_21 rfl ?_
    obtain ⟨r_4, hc_5, h⟩ := bd_E h
    refine cl_X9_86 C ⟨Nat.le_of_ble_eq_true rfl, Nat.le_of_ble_eq_true rfl⟩ (m_X9_moneyOfDay _ _ _ M x4 hc_5) (Nat.le_of_ble_eq_true rfl) dX9_extremeDay_23 ?_
    refine r_isub C.1 dX9_extremeDay_26 ?_
    obtain ⟨y_6, ey_6, h⟩ := lt_E h
    refine r_istore C.1 [(6, .int y_6), (0, .ref (x_ad x 11)), (2, .int x2), (3, .int x3), (4, .int x4), (5, .int x5)] dX9_extremeDay_27 (by decide) ey_6 rfl ?_
    refine r_iload_n C.1 3 dX9_extremeDay_29 rfl rfl ?_
    refine r_if_eq C.1 41 dX9_extremeDay_30 (by decide) (fun c_7 => ?_) (fun c_7 => ?_)
    · replace h := ite_T c_7 h
      refine r_iload C.1 0 dX9_extremeDay_41 rfl ?_
      refine r_if_ge C.1 50 dX9_extremeDay_43 (by decide) (fun c_8 => ?_) (fun c_8 => ?_)
      · replace h := ite_T c_8 h
        exact r_sub [1, 2, 3, 4, 5] rfl (w_X9_extremeDay_50 C M x2 x3 x4 x5 _ h kh ke_0)
      · replace h := ite_F c_8 h
        exact r_sub [1, 2, 3, 5] rfl (w_X9_extremeDay_46 C M x2 x3 x5 _ h kh ke_0)
    · replace h := ite_F c_7 h
      refine r_iload C.1 0 dX9_extremeDay_33 rfl ?_
      refine r_if_le C.1 50 dX9_extremeDay_35 (by decide) (fun c_9 => ?_) (fun c_9 => ?_)
      · replace h := ite_T c_9 h
        exact r_sub [1, 2, 3, 4, 5] rfl (w_X9_extremeDay_50 C M x2 x3 x4 x5 _ h kh ke_0)
      · replace h := ite_F c_9 h
        refine r_goto C.1 46 dX9_extremeDay_38 (by decide) ?_
        exact r_sub [1, 2, 3, 5] rfl (w_X9_extremeDay_46 C M x2 x3 x5 _ h kh ke_0)

def b_X9_extremeDay_8 (M : xM) (x2 : Int32) (x3 : Int32) (x4 : Int32) (x5 : Int32) : Option (Int32) :=
  bd (loopN (fun s : Int32 × Int32 => bl_X9_extremeDay_8 M x2 x3 s.1 s.2) BG (x4, x5)) (fun v => some v)
set_option maxRecDepth 20000 in
set_option maxHeartbeats 2000000 in
theorem w_X9_extremeDay_8 {x : xC} (C : CtC x RX9 cX9_extremeDay 7 ({ frames := 1, cells := 0, slots := 0, locals := 21 } : Room)) (M : xM) (x2 : Int32) (x3 : Int32) (x4 : Int32) (x5 : Int32)  (o : Int32) (h : b_X9_extremeDay_8 M x2 x3 x4 x5 = some o) (hr : (x_me x).sig.returnType = some .int) (ev : x_rv x = some (.int o)) (eM : x_M x = M) : J x M 8 [(0, .ref (x_ad x 11)), (2, .int x2), (3, .int x3), (4, .int x4), (5, .int x5)] [] := by
  unfold b_X9_extremeDay_8 at h
  obtain ⟨r_0, hr_0, h⟩ := bd_E h
  refine loopN_ind (JJ := fun s => J x M 8 [(0, .ref (x_ad x 11)), (2, .int x2), (3, .int x3), (4, .int s.1), (5, .int s.2)] []) (KX := fun q => q = r_0) ?_ BG (x4, x5) r_0 hr_0 rfl
  intro s o1 hb kk1 kk2
  refine wl_X9_extremeDay_8 C M x2 x3 s.1 s.2 _ hb kk1 ?_
  · intro v e0
    have e1 := kk2 _ e0
    subst e1
    refine r_iload C.1 0 dX9_extremeDay_56 rfl ?_
    obtain rfl := Option.some.inj h
    exact r_iret C.1 hr ev eM dX9_extremeDay_58

def b_X9_extremeDay_0 (M : xM) (x1 : Int32) (x2 : Int32) (x3 : Int32) : Option (Int32) :=
  lt (x1 + (1 : Int32)) (fun y_1 => b_X9_extremeDay_8 M x2 x3 x1 y_1)
set_option maxRecDepth 20000 in
set_option maxHeartbeats 2000000 in
theorem w_X9_extremeDay_0 {x : xC} (C : CtC x RX9 cX9_extremeDay 7 ({ frames := 1, cells := 0, slots := 0, locals := 21 } : Room)) (M : xM) (x1 : Int32) (x2 : Int32) (x3 : Int32)  (o : Int32) (h : b_X9_extremeDay_0 M x1 x2 x3 = some o) (hr : (x_me x).sig.returnType = some .int) (ev : x_rv x = some (.int o)) (eM : x_M x = M) : J x M 0 [(0, .ref (x_ad x 11)), (1, .int x1), (2, .int x2), (3, .int x3)] [] := by
  unfold b_X9_extremeDay_0 at h
  refine r_iload_n C.1 1 dX9_extremeDay_0 rfl rfl ?_
  refine r_istore C.1 [(4, .int x1), (0, .ref (x_ad x 11)), (1, .int x1), (2, .int x2), (3, .int x3)] dX9_extremeDay_1 (by decide) rfl rfl ?_
  refine r_iload_n C.1 2 dX9_extremeDay_3 rfl rfl ?_
  refine r_iconst (v := 1) C.1 dX9_extremeDay_4 rfl ?_
  refine r_iadd C.1 dX9_extremeDay_5 ?_
  obtain ⟨y_1, ey_1, h⟩ := lt_E h
  refine r_istore C.1 [(5, .int y_1), (4, .int x1), (0, .ref (x_ad x 11)), (1, .int x1), (2, .int x2), (3, .int x3)] dX9_extremeDay_6 (by decide) ey_1 rfl ?_
  exact r_sub [2, 4, 5, 1, 0] rfl (w_X9_extremeDay_8 C M x2 x3 x1 y_1 _ h hr ev eM)
def f_X9_extremeDay (M : xM) (x1 : Int32) (x2 : Int32) (x3 : Int32) : Option (Int32) := b_X9_extremeDay_0 M x1 x2 x3
set_option maxRecDepth 20000 in
theorem m_X9_extremeDay (l : Launch) (D : va_G) (ad : Nat → Nat) (M : xM) (x1 : Int32) (x2 : Int32) (x3 : Int32)  {o : Int32} (h : f_X9_extremeDay M x1 x2 x3 = some o) : xMetC l yX9_extremeDay cX9_extremeDay 7 (some .int) ({ frames := 1, cells := 0, slots := 0, locals := 21 } : Room) [.ref (ad 11), .int x1, .int x2, .int x3] D ad M (some (.int o)) M := by
  refine xMetC_of (own := RX9) (by decide) rfl (Nat.le_of_ble_eq_true rfl) ?_
  intro x C e1 e2 e3 ev eM hr
  subst e1; subst e2; subst e3
  refine r_sub (L := [(0, .ref (x_ad x 11)), (1, .int x1), (2, .int x2), (3, .int x3)]) (L' := [(0, .ref (x_ad x 11)), (1, .int x1), (2, .int x2), (3, .int x3)]) [0, 1, 2, 3] rfl ?_
  exact w_X9_extremeDay_0 C M x1 x2 x3 _ h hr ev eM

def b_X9_daysBelowNought_22 (M : xM) (x1 : Int32) (x2 : Int32) : Option ((Int32 × Int32) ⊕ (Int32)) :=
  lt (x2 + (1 : Int32)) (fun y_1 => some (.inl (x1, y_1)))
set_option maxRecDepth 20000 in
set_option maxHeartbeats 2000000 in
theorem w_X9_daysBelowNought_22 {x : xC} (C : CtC x RX9 cX9_daysBelowNought 3 ({ frames := 1, cells := 0, slots := 0, locals := 21 } : Room)) (M : xM) (x1 : Int32) (x2 : Int32)  (o : (Int32 × Int32) ⊕ (Int32)) (h : b_X9_daysBelowNought_22 M x1 x2 = some o) (kh : ∀ s : Int32 × Int32, o = .inl s → J x M 4 [(0, .ref (x_ad x 11)), (1, .int s.1), (2, .int s.2)] []) (ke_0 : ∀ v : Int32, o = .inr v → J x M 28 [(1, .int v)] []) : J x M 22 [(0, .ref (x_ad x 11)), (1, .int x1), (2, .int x2)] [] := by
  unfold b_X9_daysBelowNought_22 at h
  obtain ⟨y_1, ey_1, h⟩ := lt_E h
  refine r_iinc C.1 2 [(2, .int y_1), (0, .ref (x_ad x 11)), (1, .int x1)] dX9_daysBelowNought_22 rfl ey_1 (by decide) rfl ?_
  refine r_goto C.1 4 dX9_daysBelowNought_25 (by decide) ?_
  exact r_sub [1, 2, 0] rfl (kh _ (Option.some.inj h).symm)

def bl_X9_daysBelowNought_4 (M : xM) (x1 : Int32) (x2 : Int32) : Option ((Int32 × Int32) ⊕ (Int32)) :=
  if (360 : Int32) ≤ x2 then some (.inr x1) else bd (f_X9_moneyOfDay M x2) (fun r_2 => if 0 ≤ r_2 then b_X9_daysBelowNought_22 M x1 x2 else lt (x1 + (1 : Int32)) (fun y_5 => b_X9_daysBelowNought_22 M y_5 x2))
set_option maxRecDepth 20000 in
set_option maxHeartbeats 2000000 in
theorem wl_X9_daysBelowNought_4 {x : xC} (C : CtC x RX9 cX9_daysBelowNought 3 ({ frames := 1, cells := 0, slots := 0, locals := 21 } : Room)) (M : xM) (x1 : Int32) (x2 : Int32)  (o : (Int32 × Int32) ⊕ (Int32)) (h : bl_X9_daysBelowNought_4 M x1 x2 = some o) (kh : ∀ s : Int32 × Int32, o = .inl s → J x M 4 [(0, .ref (x_ad x 11)), (1, .int s.1), (2, .int s.2)] []) (ke_0 : ∀ v : Int32, o = .inr v → J x M 28 [(1, .int v)] []) : J x M 4 [(0, .ref (x_ad x 11)), (1, .int x1), (2, .int x2)] [] := by
  unfold bl_X9_daysBelowNought_4 at h
  refine r_iload_n C.1 2 dX9_daysBelowNought_4 rfl rfl ?_
  refine r_sipush (v := 360) C.1 dX9_daysBelowNought_5 (by decide) ?_
  refine r_icmp_ge C.1 28 dX9_daysBelowNought_8 (by decide) (fun c_1 => ?_) (fun c_1 => ?_)
  · replace h := ite_T c_1 h
    exact r_sub [1] rfl (ke_0 _ (Option.some.inj h).symm)
  · replace h := ite_F c_1 h
    refine r_aload_n C.1 0 dX9_daysBelowNought_11 rfl rfl ?_
    refine r_iload_n C.1 2 dX9_daysBelowNought_12 rfl rfl ?_
    obtain ⟨r_2, hc_3, h⟩ := bd_E h
    refine cl_X9_86 C ⟨Nat.le_of_ble_eq_true rfl, Nat.le_of_ble_eq_true rfl⟩ (m_X9_moneyOfDay _ _ _ M x2 hc_3) (Nat.le_of_ble_eq_true rfl) dX9_daysBelowNought_13 ?_
    refine r_if_ge C.1 22 dX9_daysBelowNought_16 (by decide) (fun c_4 => ?_) (fun c_4 => ?_)
    · replace h := ite_T c_4 h
      exact r_sub [0, 1, 2] rfl (w_X9_daysBelowNought_22 C M x1 x2 _ h kh ke_0)
    · replace h := ite_F c_4 h
      obtain ⟨y_5, ey_5, h⟩ := lt_E h
      refine r_iinc C.1 1 [(1, .int y_5), (0, .ref (x_ad x 11)), (2, .int x2)] dX9_daysBelowNought_19 rfl ey_5 (by decide) rfl ?_
      exact r_sub [1, 0, 2] rfl (w_X9_daysBelowNought_22 C M y_5 x2 _ h kh ke_0)

def b_X9_daysBelowNought_4 (M : xM) (x1 : Int32) (x2 : Int32) : Option (Int32) :=
  bd (loopN (fun s : Int32 × Int32 => bl_X9_daysBelowNought_4 M s.1 s.2) BG (x1, x2)) (fun v => some v)
set_option maxRecDepth 20000 in
set_option maxHeartbeats 2000000 in
theorem w_X9_daysBelowNought_4 {x : xC} (C : CtC x RX9 cX9_daysBelowNought 3 ({ frames := 1, cells := 0, slots := 0, locals := 21 } : Room)) (M : xM) (x1 : Int32) (x2 : Int32)  (o : Int32) (h : b_X9_daysBelowNought_4 M x1 x2 = some o) (hr : (x_me x).sig.returnType = some .int) (ev : x_rv x = some (.int o)) (eM : x_M x = M) : J x M 4 [(0, .ref (x_ad x 11)), (1, .int x1), (2, .int x2)] [] := by
  unfold b_X9_daysBelowNought_4 at h
  obtain ⟨r_0, hr_0, h⟩ := bd_E h
  refine loopN_ind (JJ := fun s => J x M 4 [(0, .ref (x_ad x 11)), (1, .int s.1), (2, .int s.2)] []) (KX := fun q => q = r_0) ?_ BG (x1, x2) r_0 hr_0 rfl
  intro s o1 hb kk1 kk2
  refine wl_X9_daysBelowNought_4 C M s.1 s.2 _ hb kk1 ?_
  · intro v e0
    have e1 := kk2 _ e0
    subst e1
    refine r_iload_n C.1 0 dX9_daysBelowNought_28 rfl rfl ?_
    obtain rfl := Option.some.inj h
    exact r_iret C.1 hr ev eM dX9_daysBelowNought_29

def b_X9_daysBelowNought_0 (M : xM)  : Option (Int32) :=
  b_X9_daysBelowNought_4 M (0 : Int32) (0 : Int32)
set_option maxRecDepth 20000 in
set_option maxHeartbeats 2000000 in
theorem w_X9_daysBelowNought_0 {x : xC} (C : CtC x RX9 cX9_daysBelowNought 3 ({ frames := 1, cells := 0, slots := 0, locals := 21 } : Room)) (M : xM)   (o : Int32) (h : b_X9_daysBelowNought_0 M = some o) (hr : (x_me x).sig.returnType = some .int) (ev : x_rv x = some (.int o)) (eM : x_M x = M) : J x M 0 [(0, .ref (x_ad x 11))] [] := by
  unfold b_X9_daysBelowNought_0 at h
  refine r_iconst (v := 0) C.1 dX9_daysBelowNought_0 rfl ?_
  refine r_istore_n C.1 [(1, .int (0 : Int32)), (0, .ref (x_ad x 11))] dX9_daysBelowNought_1 rfl (by decide) rfl rfl ?_
  refine r_iconst (v := 0) C.1 dX9_daysBelowNought_2 rfl ?_
  refine r_istore_n C.1 [(2, .int (0 : Int32)), (1, .int (0 : Int32)), (0, .ref (x_ad x 11))] dX9_daysBelowNought_3 rfl (by decide) rfl rfl ?_
  exact r_sub [2, 1, 0] rfl (w_X9_daysBelowNought_4 C M (0 : Int32) (0 : Int32) _ h hr ev eM)
def f_X9_daysBelowNought (M : xM)  : Option (Int32) := b_X9_daysBelowNought_0 M 
set_option maxRecDepth 20000 in
theorem m_X9_daysBelowNought (l : Launch) (D : va_G) (ad : Nat → Nat) (M : xM)   {o : Int32} (h : f_X9_daysBelowNought M = some o) : xMetC l yX9_daysBelowNought cX9_daysBelowNought 3 (some .int) ({ frames := 1, cells := 0, slots := 0, locals := 21 } : Room) [.ref (ad 11)] D ad M (some (.int o)) M := by
  refine xMetC_of (own := RX9) (by decide) rfl (Nat.le_of_ble_eq_true rfl) ?_
  intro x C e1 e2 e3 ev eM hr
  subst e1; subst e2; subst e3
  refine r_sub (L := [(0, .ref (x_ad x 11))]) (L' := [(0, .ref (x_ad x 11))]) [0] rfl ?_
  exact w_X9_daysBelowNought_0 C M _ h hr ev eM

def b_X9_daysIdle_23 (M : xM) (x1 : Int32) (x2 : Int32) : Option ((Int32 × Int32) ⊕ (Int32)) :=
  lt (x2 + (1 : Int32)) (fun y_1 => some (.inl (x1, y_1)))
set_option maxRecDepth 20000 in
set_option maxHeartbeats 2000000 in
theorem w_X9_daysIdle_23 {x : xC} (C : CtC x RX9 cX9_daysIdle 3 ({ frames := 0, cells := 0, slots := 0, locals := 0 } : Room)) (M : xM) (x1 : Int32) (x2 : Int32)  (o : (Int32 × Int32) ⊕ (Int32)) (h : b_X9_daysIdle_23 M x1 x2 = some o) (kh : ∀ s : Int32 × Int32, o = .inl s → J x M 4 [(0, .ref (x_ad x 11)), (1, .int s.1), (2, .int s.2)] []) (ke_0 : ∀ v : Int32, o = .inr v → J x M 29 [(1, .int v)] []) : J x M 23 [(0, .ref (x_ad x 11)), (1, .int x1), (2, .int x2)] [] := by
  unfold b_X9_daysIdle_23 at h
  obtain ⟨y_1, ey_1, h⟩ := lt_E h
  refine r_iinc C.1 2 [(2, .int y_1), (0, .ref (x_ad x 11)), (1, .int x1)] dX9_daysIdle_23 rfl ey_1 (by decide) rfl ?_
  refine r_goto C.1 4 dX9_daysIdle_26 (by decide) ?_
  exact r_sub [1, 2, 0] rfl (kh _ (Option.some.inj h).symm)

def bl_X9_daysIdle_4 (M : xM) (x1 : Int32) (x2 : Int32) : Option ((Int32 × Int32) ⊕ (Int32)) :=
  if (360 : Int32) ≤ x2 then some (.inr x1) else gd x2 360 (if (M 13 x2.toNatClampNeg) ≤ 0 then b_X9_daysIdle_23 M x1 x2 else lt (x1 + (1 : Int32)) (fun y_4 => b_X9_daysIdle_23 M y_4 x2))
set_option maxRecDepth 20000 in
set_option maxHeartbeats 2000000 in
theorem wl_X9_daysIdle_4 {x : xC} (C : CtC x RX9 cX9_daysIdle 3 ({ frames := 0, cells := 0, slots := 0, locals := 0 } : Room)) (M : xM) (x1 : Int32) (x2 : Int32)  (o : (Int32 × Int32) ⊕ (Int32)) (h : bl_X9_daysIdle_4 M x1 x2 = some o) (kh : ∀ s : Int32 × Int32, o = .inl s → J x M 4 [(0, .ref (x_ad x 11)), (1, .int s.1), (2, .int s.2)] []) (ke_0 : ∀ v : Int32, o = .inr v → J x M 29 [(1, .int v)] []) : J x M 4 [(0, .ref (x_ad x 11)), (1, .int x1), (2, .int x2)] [] := by
  unfold bl_X9_daysIdle_4 at h
  refine r_iload_n C.1 2 dX9_daysIdle_4 rfl rfl ?_
  refine r_sipush (v := 360) C.1 dX9_daysIdle_5 (by decide) ?_
  refine r_icmp_ge C.1 29 dX9_daysIdle_8 (by decide) (fun c_1 => ?_) (fun c_1 => ?_)
  · replace h := ite_T c_1 h
    exact r_sub [1] rfl (ke_0 _ (Option.some.inj h).symm)
  · replace h := ite_F c_1 h
    refine r_aload_n C.1 0 dX9_daysIdle_11 rfl rfl ?_
    refine gf_X9_15 C dX9_daysIdle_12 ?_
    refine r_iload_n C.1 2 dX9_daysIdle_15 rfl rfl ?_
    obtain ⟨q_2, h⟩ := gd_E h
    refine r_iald C.1 (cK C (by decide)) (cS C (sh_13)) 0 (cT0 C) q_2 dX9_daysIdle_16 ?_
    refine r_if_le C.1 23 dX9_daysIdle_17 (by decide) (fun c_3 => ?_) (fun c_3 => ?_)
    · replace h := ite_T c_3 h
      exact r_sub [0, 1, 2] rfl (w_X9_daysIdle_23 C M x1 x2 _ h kh ke_0)
    · replace h := ite_F c_3 h
      obtain ⟨y_4, ey_4, h⟩ := lt_E h
      refine r_iinc C.1 1 [(1, .int y_4), (0, .ref (x_ad x 11)), (2, .int x2)] dX9_daysIdle_20 rfl ey_4 (by decide) rfl ?_
      exact r_sub [1, 0, 2] rfl (w_X9_daysIdle_23 C M y_4 x2 _ h kh ke_0)

def b_X9_daysIdle_4 (M : xM) (x1 : Int32) (x2 : Int32) : Option (Int32) :=
  bd (loopN (fun s : Int32 × Int32 => bl_X9_daysIdle_4 M s.1 s.2) BG (x1, x2)) (fun v => some v)
set_option maxRecDepth 20000 in
set_option maxHeartbeats 2000000 in
theorem w_X9_daysIdle_4 {x : xC} (C : CtC x RX9 cX9_daysIdle 3 ({ frames := 0, cells := 0, slots := 0, locals := 0 } : Room)) (M : xM) (x1 : Int32) (x2 : Int32)  (o : Int32) (h : b_X9_daysIdle_4 M x1 x2 = some o) (hr : (x_me x).sig.returnType = some .int) (ev : x_rv x = some (.int o)) (eM : x_M x = M) : J x M 4 [(0, .ref (x_ad x 11)), (1, .int x1), (2, .int x2)] [] := by
  unfold b_X9_daysIdle_4 at h
  obtain ⟨r_0, hr_0, h⟩ := bd_E h
  refine loopN_ind (JJ := fun s => J x M 4 [(0, .ref (x_ad x 11)), (1, .int s.1), (2, .int s.2)] []) (KX := fun q => q = r_0) ?_ BG (x1, x2) r_0 hr_0 rfl
  intro s o1 hb kk1 kk2
  refine wl_X9_daysIdle_4 C M s.1 s.2 _ hb kk1 ?_
  · intro v e0
    have e1 := kk2 _ e0
    subst e1
    refine r_iload_n C.1 0 dX9_daysIdle_29 rfl rfl ?_
    obtain rfl := Option.some.inj h
    exact r_iret C.1 hr ev eM dX9_daysIdle_30

def b_X9_daysIdle_0 (M : xM)  : Option (Int32) :=
  b_X9_daysIdle_4 M (0 : Int32) (0 : Int32)
set_option maxRecDepth 20000 in
set_option maxHeartbeats 2000000 in
theorem w_X9_daysIdle_0 {x : xC} (C : CtC x RX9 cX9_daysIdle 3 ({ frames := 0, cells := 0, slots := 0, locals := 0 } : Room)) (M : xM)   (o : Int32) (h : b_X9_daysIdle_0 M = some o) (hr : (x_me x).sig.returnType = some .int) (ev : x_rv x = some (.int o)) (eM : x_M x = M) : J x M 0 [(0, .ref (x_ad x 11))] [] := by
  unfold b_X9_daysIdle_0 at h
  refine r_iconst (v := 0) C.1 dX9_daysIdle_0 rfl ?_
  refine r_istore_n C.1 [(1, .int (0 : Int32)), (0, .ref (x_ad x 11))] dX9_daysIdle_1 rfl (by decide) rfl rfl ?_
  refine r_iconst (v := 0) C.1 dX9_daysIdle_2 rfl ?_
  refine r_istore_n C.1 [(2, .int (0 : Int32)), (1, .int (0 : Int32)), (0, .ref (x_ad x 11))] dX9_daysIdle_3 rfl (by decide) rfl rfl ?_
  exact r_sub [2, 1, 0] rfl (w_X9_daysIdle_4 C M (0 : Int32) (0 : Int32) _ h hr ev eM)
def f_X9_daysIdle (M : xM)  : Option (Int32) := b_X9_daysIdle_0 M 
set_option maxRecDepth 20000 in
theorem m_X9_daysIdle (l : Launch) (D : va_G) (ad : Nat → Nat) (M : xM)   {o : Int32} (h : f_X9_daysIdle M = some o) : xMetC l yX9_daysIdle cX9_daysIdle 3 (some .int) ({ frames := 0, cells := 0, slots := 0, locals := 0 } : Room) [.ref (ad 11)] D ad M (some (.int o)) M := by
  refine xMetC_of (own := RX9) (by decide) rfl (Nat.le_of_ble_eq_true rfl) ?_
  intro x C e1 e2 e3 ev eM hr
  subst e1; subst e2; subst e3
  refine r_sub (L := [(0, .ref (x_ad x 11))]) (L' := [(0, .ref (x_ad x 11))]) [0] rfl ?_
  exact w_X9_daysIdle_0 C M _ h hr ev eM

def b_X10_feed_71 (M : xM) (x6 : Int32) (s0 : Int32) : Option (Int32 × xM) :=
  if s0 = 0 then lt (uM M 1 1 x6) (fun M_2 => some ((-1 : Int32), M_2)) else some (M 1 1, M)
set_option maxRecDepth 20000 in
set_option maxHeartbeats 2000000 in
theorem w_X10_feed_71 {x : xC} (C : CtC x RX10 cX10_feed 8 ({ frames := 1, cells := 0, slots := 0, locals := 23 } : Room)) (M : xM) (x6 : Int32) (s0 : Int32)  (o : Int32 × xM) (h : b_X10_feed_71 M x6 s0 = some o) (hr : (x_me x).sig.returnType = some .int) (ev : x_rv x = some (.int o.1)) (eM : x_M x = o.2) : J x M 71 [(0, .ref (x_ad x 0)), (6, .int x6)] [.int s0] := by
  unfold b_X10_feed_71 at h
  refine r_istore C.1 [(7, .int s0), (0, .ref (x_ad x 0)), (6, .int x6)] dX10_feed_71 (by decide) rfl rfl ?_
  refine r_iload C.1 0 dX10_feed_73 rfl ?_
  refine r_if_ne C.1 89 dX10_feed_75 (by decide) (fun c_1 => ?_) (fun c_1 => ?_)
  · replace h := ite_F c_1 h
    refine r_aload_n C.1 1 dX10_feed_89 rfl rfl ?_
    refine gf_X10_10 C dX10_feed_90 ?_
    refine gf_X10_65 C dX10_feed_93 ?_
    obtain rfl := Option.some.inj h
    exact r_iret C.1 hr ev eM dX10_feed_96
  · replace h := ite_T c_1 h
    refine r_aload_n C.1 1 dX10_feed_78 rfl rfl ?_
    refine gf_X10_10 C dX10_feed_79 ?_
    refine r_iload C.1 2 dX10_feed_82 rfl ?_
    obtain ⟨M_2, eM_2, h⟩ := lt_E h
    refine pf_X10_65 C eM_2 dX10_feed_84 ?_
    refine r_iconst (v := -1) C.1 dX10_feed_87 rfl ?_
    obtain rfl := Option.some.inj h
    exact r_iret C.1 hr ev eM dX10_feed_88

def b_X10_feed_70 (M : xM) (x6 : Int32) : Option (Int32 × xM) :=
  b_X10_feed_71 M x6 (0 : Int32)
set_option maxRecDepth 20000 in
set_option maxHeartbeats 2000000 in
theorem w_X10_feed_70 {x : xC} (C : CtC x RX10 cX10_feed 8 ({ frames := 1, cells := 0, slots := 0, locals := 23 } : Room)) (M : xM) (x6 : Int32)  (o : Int32 × xM) (h : b_X10_feed_70 M x6 = some o) (hr : (x_me x).sig.returnType = some .int) (ev : x_rv x = some (.int o.1)) (eM : x_M x = o.2) : J x M 70 [(0, .ref (x_ad x 0)), (6, .int x6)] [] := by
  unfold b_X10_feed_70 at h
  refine r_iconst (v := 0) C.1 dX10_feed_70 rfl ?_
  exact r_sub [0, 1] rfl (w_X10_feed_71 C M x6 (0 : Int32) _ h hr ev eM)

def b_X10_feed_0 (M : xM) (x1 : Int32) (x2 : Int32) (x3 : Int32) (x4 : Int32) (x5 : Int32) : Option (Int32 × xM) :=
  lt (M 1 1) (fun y_1 => bd2 (f_X7_take M x1) (fun r_2 M_4 => if r_2 = 0 then b_X10_feed_70 M_4 y_1 else bd2 (f_X7_take M_4 x2) (fun r_6 M_8 => if r_6 = 0 then b_X10_feed_70 M_8 y_1 else bd2 (f_X7_take M_8 x3) (fun r_10 M_12 => if r_10 = 0 then b_X10_feed_70 M_12 y_1 else bd2 (f_X7_take M_12 x4) (fun r_14 M_16 => if r_14 = 0 then b_X10_feed_70 M_16 y_1 else bd2 (f_X7_take M_16 x5) (fun r_18 M_20 => if r_18 = 0 then b_X10_feed_70 M_20 y_1 else b_X10_feed_71 M_20 y_1 (1 : Int32)))))))
set_option maxRecDepth 20000 in
set_option maxHeartbeats 2000000 in
theorem w_X10_feed_0 {x : xC} (C : CtC x RX10 cX10_feed 8 ({ frames := 1, cells := 0, slots := 0, locals := 23 } : Room)) (M : xM) (x1 : Int32) (x2 : Int32) (x3 : Int32) (x4 : Int32) (x5 : Int32)  (o : Int32 × xM) (h : b_X10_feed_0 M x1 x2 x3 x4 x5 = some o) (hr : (x_me x).sig.returnType = some .int) (ev : x_rv x = some (.int o.1)) (eM : x_M x = o.2) : J x M 0 [(0, .ref (x_ad x 0)), (1, .int x1), (2, .int x2), (3, .int x3), (4, .int x4), (5, .int x5)] [] := by
  unfold b_X10_feed_0 at h
  refine r_aload_n C.1 0 dX10_feed_0 rfl rfl ?_
  refine gf_X10_10 C dX10_feed_1 ?_
  refine gf_X10_65 C dX10_feed_4 ?_
  obtain ⟨y_1, ey_1, h⟩ := lt_E h
  refine r_istore C.1 [(6, .int y_1), (0, .ref (x_ad x 0)), (1, .int x1), (2, .int x2), (3, .int x3), (4, .int x4), (5, .int x5)] dX10_feed_7 (by decide) ey_1 rfl ?_
  refine r_aload_n C.1 1 dX10_feed_9 rfl rfl ?_
  refine gf_X10_10 C dX10_feed_10 ?_
  refine r_iload_n C.1 2 dX10_feed_13 rfl rfl ?_
  obtain ⟨r_2, M_4, hc_3, h⟩ := bd2_E h
  refine cl_X10_69 C ⟨Nat.le_of_ble_eq_true rfl, Nat.le_of_ble_eq_true rfl⟩ (m_X7_take _ _ _ M x1 hc_3) (Nat.le_of_ble_eq_true rfl) dX10_feed_14 ?_
  refine r_if_eq C.1 70 dX10_feed_17 (by decide) (fun c_5 => ?_) (fun c_5 => ?_)
  · replace h := ite_T c_5 h
    exact r_sub [1, 0] rfl (w_X10_feed_70 C M_4 y_1 _ h hr ev eM)
  · replace h := ite_F c_5 h
    refine r_aload_n C.1 1 dX10_feed_20 rfl rfl ?_
    refine gf_X10_10 C dX10_feed_21 ?_
    refine r_iload_n C.1 3 dX10_feed_24 rfl rfl ?_
    obtain ⟨r_6, M_8, hc_7, h⟩ := bd2_E h
    refine cl_X10_69 C ⟨Nat.le_of_ble_eq_true rfl, Nat.le_of_ble_eq_true rfl⟩ (m_X7_take _ _ _ M_4 x2 hc_7) (Nat.le_of_ble_eq_true rfl) dX10_feed_25 ?_
    refine r_if_eq C.1 70 dX10_feed_28 (by decide) (fun c_9 => ?_) (fun c_9 => ?_)
    · replace h := ite_T c_9 h
      exact r_sub [1, 0] rfl (w_X10_feed_70 C M_8 y_1 _ h hr ev eM)
    · replace h := ite_F c_9 h
      refine r_aload_n C.1 1 dX10_feed_31 rfl rfl ?_
      refine gf_X10_10 C dX10_feed_32 ?_
      refine r_iload_n C.1 4 dX10_feed_35 rfl rfl ?_
      obtain ⟨r_10, M_12, hc_11, h⟩ := bd2_E h
      refine cl_X10_69 C ⟨Nat.le_of_ble_eq_true rfl, Nat.le_of_ble_eq_true rfl⟩ (m_X7_take _ _ _ M_8 x3 hc_11) (Nat.le_of_ble_eq_true rfl) dX10_feed_36 ?_
      refine r_if_eq C.1 70 dX10_feed_39 (by decide) (fun c_13 => ?_) (fun c_13 => ?_)
      · replace h := ite_T c_13 h
        exact r_sub [1, 0] rfl (w_X10_feed_70 C M_12 y_1 _ h hr ev eM)
      · replace h := ite_F c_13 h
        refine r_aload_n C.1 1 dX10_feed_42 rfl rfl ?_
        refine gf_X10_10 C dX10_feed_43 ?_
        refine r_iload C.1 5 dX10_feed_46 rfl ?_
        obtain ⟨r_14, M_16, hc_15, h⟩ := bd2_E h
        refine cl_X10_69 C ⟨Nat.le_of_ble_eq_true rfl, Nat.le_of_ble_eq_true rfl⟩ (m_X7_take _ _ _ M_12 x4 hc_15) (Nat.le_of_ble_eq_true rfl) dX10_feed_48 ?_
        refine r_if_eq C.1 70 dX10_feed_51 (by decide) (fun c_17 => ?_) (fun c_17 => ?_)
        · replace h := ite_T c_17 h
          exact r_sub [1, 0] rfl (w_X10_feed_70 C M_16 y_1 _ h hr ev eM)
        · replace h := ite_F c_17 h
          refine r_aload_n C.1 1 dX10_feed_54 rfl rfl ?_
          refine gf_X10_10 C dX10_feed_55 ?_
          refine r_iload C.1 6 dX10_feed_58 rfl ?_
          obtain ⟨r_18, M_20, hc_19, h⟩ := bd2_E h
          refine cl_X10_69 C ⟨Nat.le_of_ble_eq_true rfl, Nat.le_of_ble_eq_true rfl⟩ (m_X7_take _ _ _ M_16 x5 hc_19) (Nat.le_of_ble_eq_true rfl) dX10_feed_60 ?_
          refine r_if_eq C.1 70 dX10_feed_63 (by decide) (fun c_21 => ?_) (fun c_21 => ?_)
          · replace h := ite_T c_21 h
            exact r_sub [1, 0] rfl (w_X10_feed_70 C M_20 y_1 _ h hr ev eM)
          · replace h := ite_F c_21 h
            refine r_iconst (v := 1) C.1 dX10_feed_66 rfl ?_
            refine r_goto C.1 71 dX10_feed_67 (by decide) ?_
            exact r_sub [1, 0] rfl (w_X10_feed_71 C M_20 y_1 (1 : Int32) _ h hr ev eM)
def f_X10_feed (M : xM) (x1 : Int32) (x2 : Int32) (x3 : Int32) (x4 : Int32) (x5 : Int32) : Option (Int32 × xM) := b_X10_feed_0 M x1 x2 x3 x4 x5
set_option maxRecDepth 20000 in
theorem m_X10_feed (l : Launch) (D : va_G) (ad : Nat → Nat) (M : xM) (x1 : Int32) (x2 : Int32) (x3 : Int32) (x4 : Int32) (x5 : Int32)  {r : Int32} {M1 : xM} (h : f_X10_feed M x1 x2 x3 x4 x5 = some (r, M1)) : xMetC l yX10_feed cX10_feed 8 (some .int) ({ frames := 1, cells := 0, slots := 0, locals := 23 } : Room) [.ref (ad 0), .int x1, .int x2, .int x3, .int x4, .int x5] D ad M (some (.int r)) M1 := by
  refine xMetC_of (own := RX10) (by decide) rfl (Nat.le_of_ble_eq_true rfl) ?_
  intro x C e1 e2 e3 ev eM hr
  subst e1; subst e2; subst e3
  refine r_sub (L := [(0, .ref (x_ad x 0)), (1, .int x1), (2, .int x2), (3, .int x3), (4, .int x4), (5, .int x5)]) (L' := [(0, .ref (x_ad x 0)), (1, .int x1), (2, .int x2), (3, .int x3), (4, .int x4), (5, .int x5)]) [0, 1, 2, 3, 4, 5] rfl ?_
  exact w_X10_feed_0 C M x1 x2 x3 x4 x5 _ h hr ev eM

def b_X10_end_15 (M : xM)  : Option (Int32 × xM) :=
  some ((0 : Int32), M)
set_option maxRecDepth 20000 in
set_option maxHeartbeats 2000000 in
theorem w_X10_end_15 {x : xC} (C : CtC x RX10 cX10_end 2 ({ frames := 0, cells := 0, slots := 0, locals := 0 } : Room)) (M : xM)   (o : Int32 × xM) (h : b_X10_end_15 M = some o) (hr : (x_me x).sig.returnType = some .boolean) (ev : x_rv x = some (.int o.1)) (eM : x_M x = o.2) : J x M 15 [] [] := by
  unfold b_X10_end_15 at h
  refine r_iconst (v := 0) C.1 dX10_end_15 rfl ?_
  obtain rfl := Option.some.inj h
  exact r_zret C.1 hr rfl ev eM dX10_end_16

def b_X10_end_0 (M : xM) (x1 : Int32) : Option (Int32 × xM) :=
  if x1 < 0 then b_X10_end_15 M else if x1 ≤ (M 1 1) then lt (uM M 1 1 x1) (fun M_3 => some ((1 : Int32), M_3)) else b_X10_end_15 M
set_option maxRecDepth 20000 in
set_option maxHeartbeats 2000000 in
theorem w_X10_end_0 {x : xC} (C : CtC x RX10 cX10_end 2 ({ frames := 0, cells := 0, slots := 0, locals := 0 } : Room)) (M : xM) (x1 : Int32)  (o : Int32 × xM) (h : b_X10_end_0 M x1 = some o) (hr : (x_me x).sig.returnType = some .boolean) (ev : x_rv x = some (.int o.1)) (eM : x_M x = o.2) : J x M 0 [(0, .ref (x_ad x 0)), (1, .int x1)] [] := by
  unfold b_X10_end_0 at h
  refine r_iload_n C.1 1 dX10_end_0 rfl rfl ?_
  refine r_if_lt C.1 15 dX10_end_1 (by decide) (fun c_1 => ?_) (fun c_1 => ?_)
  · replace h := ite_T c_1 h
    exact r_sub [] rfl (w_X10_end_15 C M _ h hr ev eM)
  · replace h := ite_F c_1 h
    refine r_iload_n C.1 1 dX10_end_4 rfl rfl ?_
    refine r_aload_n C.1 0 dX10_end_5 rfl rfl ?_
    refine gf_X10_10 C dX10_end_6 ?_
    refine gf_X10_65 C dX10_end_9 ?_
    refine r_icmp_le C.1 17 dX10_end_12 (by decide) (fun c_2 => ?_) (fun c_2 => ?_)
    · replace h := ite_T c_2 h
      refine r_aload_n C.1 0 dX10_end_17 rfl rfl ?_
      refine gf_X10_10 C dX10_end_18 ?_
      refine r_iload_n C.1 1 dX10_end_21 rfl rfl ?_
      obtain ⟨M_3, eM_3, h⟩ := lt_E h
      refine pf_X10_65 C eM_3 dX10_end_22 ?_
      refine r_iconst (v := 1) C.1 dX10_end_25 rfl ?_
      obtain rfl := Option.some.inj h
      exact r_zret C.1 hr rfl ev eM dX10_end_26
    · replace h := ite_F c_2 h
      exact r_sub [] rfl (w_X10_end_15 C M _ h hr ev eM)
def f_X10_end (M : xM) (x1 : Int32) : Option (Int32 × xM) := b_X10_end_0 M x1
set_option maxRecDepth 20000 in
theorem m_X10_end (l : Launch) (D : va_G) (ad : Nat → Nat) (M : xM) (x1 : Int32)  {r : Int32} {M1 : xM} (h : f_X10_end M x1 = some (r, M1)) : xMetC l yX10_end cX10_end 2 (some .boolean) ({ frames := 0, cells := 0, slots := 0, locals := 0 } : Room) [.ref (ad 0), .int x1] D ad M (some (.int r)) M1 := by
  refine xMetC_of (own := RX10) (by decide) rfl (Nat.le_of_ble_eq_true rfl) ?_
  intro x C e1 e2 e3 ev eM hr
  subst e1; subst e2; subst e3
  refine r_sub (L := [(0, .ref (x_ad x 0)), (1, .int x1)]) (L' := [(0, .ref (x_ad x 0)), (1, .int x1)]) [0, 1] rfl ?_
  exact w_X10_end_0 C M x1 _ h hr ev eM

def b_X10_fault_0 (M : xM)  : Option (Int32 × xM) :=
  bd2 (f_X6_firstFault M) (fun r_1 M_3 => some (r_1, M_3))
set_option maxRecDepth 20000 in
set_option maxHeartbeats 2000000 in
theorem w_X10_fault_0 {x : xC} (C : CtC x RX10 cX10_fault 1 ({ frames := 8, cells := 0, slots := 0, locals := 183 } : Room)) (M : xM)   (o : Int32 × xM) (h : b_X10_fault_0 M = some o) (hr : (x_me x).sig.returnType = some .int) (ev : x_rv x = some (.int o.1)) (eM : x_M x = o.2) : J x M 0 [(0, .ref (x_ad x 0))] [] := by
  unfold b_X10_fault_0 at h
  refine r_aload_n C.1 0 dX10_fault_0 rfl rfl ?_
  refine gf_X10_19 C dX10_fault_1 ?_
  refine r_aload_n C.1 0 dX10_fault_4 rfl rfl ?_
  refine gf_X10_10 C dX10_fault_5 ?_
  obtain ⟨r_1, M_3, hc_2, h⟩ := bd2_E h
  refine cl_X10_73 C ⟨Nat.le_of_ble_eq_true rfl, Nat.le_of_ble_eq_true rfl⟩ (m_X6_firstFault _ _ _ M hc_2) (Nat.le_of_ble_eq_true rfl) dX10_fault_8 ?_
  obtain rfl := Option.some.inj h
  exact r_iret C.1 hr ev eM dX10_fault_11
def f_X10_fault (M : xM)  : Option (Int32 × xM) := b_X10_fault_0 M 
set_option maxRecDepth 20000 in
theorem m_X10_fault (l : Launch) (D : va_G) (ad : Nat → Nat) (M : xM)   {r : Int32} {M1 : xM} (h : f_X10_fault M = some (r, M1)) : xMetC l yX10_fault cX10_fault 1 (some .int) ({ frames := 8, cells := 0, slots := 0, locals := 183 } : Room) [.ref (ad 0)] D ad M (some (.int r)) M1 := by
  refine xMetC_of (own := RX10) (by decide) rfl (Nat.le_of_ble_eq_true rfl) ?_
  intro x C e1 e2 e3 ev eM hr
  subst e1; subst e2; subst e3
  refine r_sub (L := [(0, .ref (x_ad x 0))]) (L' := [(0, .ref (x_ad x 0))]) [0] rfl ?_
  exact w_X10_fault_0 C M _ h hr ev eM

def b_X10_rules_0 (M : xM)  : Option (Int32 × xM) :=
  bd2 (f_X6_firstFault M) (fun r_1 M_3 => if r_1 = (-1 : Int32) then bd (f_X1_beginAnew M_3) (fun M_7 => bd (f_X0_forgetAll M_7) (fun M_10 => lt (uM M_10 0 4 (0 : Int32)) (fun M_11 => lt (uM M_11 1 1 (0 : Int32)) (fun M_12 => some (M_12 3 2, M_12))))) else some ((-1 : Int32), M_3))
set_option maxRecDepth 20000 in
set_option maxHeartbeats 2000000 in
theorem w_X10_rules_0 {x : xC} (C : CtC x RX10 cX10_rules 1 ({ frames := 8, cells := 0, slots := 0, locals := 183 } : Room)) (M : xM)   (o : Int32 × xM) (h : b_X10_rules_0 M = some o) (hr : (x_me x).sig.returnType = some .int) (ev : x_rv x = some (.int o.1)) (eM : x_M x = o.2) : J x M 0 [(0, .ref (x_ad x 0))] [] := by
  unfold b_X10_rules_0 at h
  refine r_aload_n C.1 0 dX10_rules_0 rfl rfl ?_
  refine gf_X10_19 C dX10_rules_1 ?_
  refine r_aload_n C.1 0 dX10_rules_4 rfl rfl ?_
  refine gf_X10_10 C dX10_rules_5 ?_
  obtain ⟨r_1, M_3, hc_2, h⟩ := bd2_E h
  refine cl_X10_73 C ⟨Nat.le_of_ble_eq_true rfl, Nat.le_of_ble_eq_true rfl⟩ (m_X6_firstFault _ _ _ M hc_2) (Nat.le_of_ble_eq_true rfl) dX10_rules_8 ?_
  refine r_iconst (v := -1) C.1 dX10_rules_11 rfl ?_
  refine r_icmp_eq C.1 17 dX10_rules_12 (by decide) (fun c_4 => ?_) (fun c_4 => ?_)
  · replace h := ite_T c_4 h
    refine r_aload_n C.1 0 dX10_rules_17 rfl rfl ?_
    refine gf_X10_26 C dX10_rules_18 ?_
    refine r_aload_n C.1 0 dX10_rules_21 rfl rfl ?_
    refine gf_X10_19 C dX10_rules_22 ?_
    refine gf_X10_77 C dX10_rules_25 ?_
    obtain ⟨M_7, hc_6, h⟩ := bd_E h
    refine cl_X10_80 C ⟨Nat.le_of_ble_eq_true rfl, Nat.le_of_ble_eq_true rfl⟩ (m_X1_beginAnew _ _ _ M_3 hc_6) (Nat.le_of_ble_eq_true rfl) dX10_rules_28 ?_
    refine r_aload_n C.1 0 dX10_rules_31 rfl rfl ?_
    refine gf_X10_40 C dX10_rules_32 ?_
    obtain ⟨M_10, hc_9, h⟩ := bd_E h
    refine cl_X10_84 C ⟨Nat.le_of_ble_eq_true rfl, Nat.le_of_ble_eq_true rfl⟩ (m_X0_forgetAll _ _ _ M_7 hc_9) (Nat.le_of_ble_eq_true rfl) dX10_rules_35 ?_
    refine r_aload_n C.1 0 dX10_rules_38 rfl rfl ?_
    refine r_iconst (v := 0) C.1 dX10_rules_39 rfl ?_
    obtain ⟨M_11, eM_11, h⟩ := lt_E h
    refine pf_X10_33 C (by decide) eM_11 dX10_rules_40 ?_
    refine r_aload_n C.1 0 dX10_rules_43 rfl rfl ?_
    refine gf_X10_10 C dX10_rules_44 ?_
    refine r_iconst (v := 0) C.1 dX10_rules_47 rfl ?_
    obtain ⟨M_12, eM_12, h⟩ := lt_E h
    refine pf_X10_65 C eM_12 dX10_rules_48 ?_
    refine r_aload_n C.1 0 dX10_rules_51 rfl rfl ?_
    refine gf_X10_19 C dX10_rules_52 ?_
    refine gf_X10_87 C dX10_rules_55 ?_
    obtain rfl := Option.some.inj h
    exact r_iret C.1 hr ev eM dX10_rules_58
  · replace h := ite_F c_4 h
    refine r_iconst (v := -1) C.1 dX10_rules_15 rfl ?_
    obtain rfl := Option.some.inj h
    exact r_iret C.1 hr ev eM dX10_rules_16
def f_X10_rules (M : xM)  : Option (Int32 × xM) := b_X10_rules_0 M 
set_option maxRecDepth 20000 in
theorem m_X10_rules (l : Launch) (D : va_G) (ad : Nat → Nat) (M : xM)   {r : Int32} {M1 : xM} (h : f_X10_rules M = some (r, M1)) : xMetC l yX10_rules cX10_rules 1 (some .int) ({ frames := 8, cells := 0, slots := 0, locals := 183 } : Room) [.ref (ad 0)] D ad M (some (.int r)) M1 := by
  refine xMetC_of (own := RX10) (by decide) rfl (Nat.le_of_ble_eq_true rfl) ?_
  intro x C e1 e2 e3 ev eM hr
  subst e1; subst e2; subst e3
  refine r_sub (L := [(0, .ref (x_ad x 0))]) (L' := [(0, .ref (x_ad x 0))]) [0] rfl ?_
  exact w_X10_rules_0 C M _ h hr ev eM

def b_X10_rule_25 (M : xM) (s0 : Int32) : Option (Int32) :=
  some s0
set_option maxRecDepth 20000 in
set_option maxHeartbeats 2000000 in
theorem w_X10_rule_25 {x : xC} (C : CtC x RX10 cX10_rule 2 ({ frames := 0, cells := 0, slots := 0, locals := 0 } : Room)) (M : xM) (s0 : Int32)  (o : Int32) (h : b_X10_rule_25 M s0 = some o) (hr : (x_me x).sig.returnType = some .int) (ev : x_rv x = some (.int o)) (eM : x_M x = M) : J x M 25 [] [.int s0] := by
  unfold b_X10_rule_25 at h
  obtain rfl := Option.some.inj h
  exact r_iret C.1 hr ev eM dX10_rule_25

def b_X10_rule_12 (M : xM)  : Option (Int32) :=
  b_X10_rule_25 M (-1 : Int32)
set_option maxRecDepth 20000 in
set_option maxHeartbeats 2000000 in
theorem w_X10_rule_12 {x : xC} (C : CtC x RX10 cX10_rule 2 ({ frames := 0, cells := 0, slots := 0, locals := 0 } : Room)) (M : xM)   (o : Int32) (h : b_X10_rule_12 M = some o) (hr : (x_me x).sig.returnType = some .int) (ev : x_rv x = some (.int o)) (eM : x_M x = M) : J x M 12 [] [] := by
  unfold b_X10_rule_12 at h
  refine r_iconst (v := -1) C.1 dX10_rule_12 rfl ?_
  refine r_goto C.1 25 dX10_rule_13 (by decide) ?_
  exact r_sub [] rfl (w_X10_rule_25 C M (-1 : Int32) _ h hr ev eM)

def b_X10_rule_0 (M : xM) (x1 : Int32) : Option (Int32) :=
  if x1 < 0 then b_X10_rule_12 M else if x1 < (7 : Int32) then gd x1 7 (b_X10_rule_25 M (M 18 x1.toNatClampNeg)) else b_X10_rule_12 M
set_option maxRecDepth 20000 in
set_option maxHeartbeats 2000000 in
theorem w_X10_rule_0 {x : xC} (C : CtC x RX10 cX10_rule 2 ({ frames := 0, cells := 0, slots := 0, locals := 0 } : Room)) (M : xM) (x1 : Int32)  (o : Int32) (h : b_X10_rule_0 M x1 = some o) (hr : (x_me x).sig.returnType = some .int) (ev : x_rv x = some (.int o)) (eM : x_M x = M) : J x M 0 [(0, .ref (x_ad x 0)), (1, .int x1)] [] := by
  unfold b_X10_rule_0 at h
  refine r_iload_n C.1 1 dX10_rule_0 rfl rfl ?_
  refine r_if_lt C.1 12 dX10_rule_1 (by decide) (fun c_1 => ?_) (fun c_1 => ?_)
  · replace h := ite_T c_1 h
    exact r_sub [] rfl (w_X10_rule_12 C M _ h hr ev eM)
  · replace h := ite_F c_1 h
    refine r_iload_n C.1 1 dX10_rule_4 rfl rfl ?_
    refine r_gets C.1 (C.2.2.2.2.2.2.2.2.1.1) kw_469 rfl dX10_rule_5 ?_
    refine r_tlen C.1 (C.2.2.2.2.2.2.2.2.1.2) (v := 7) rfl dX10_rule_8 ?_
    refine r_icmp_lt C.1 16 dX10_rule_9 (by decide) (fun c_2 => ?_) (fun c_2 => ?_)
    · replace h := ite_T c_2 h
      refine r_aload_n C.1 0 dX10_rule_16 rfl rfl ?_
      refine gf_X10_26 C dX10_rule_17 ?_
      refine gf_X10_94_17 C dX10_rule_20 ?_
      refine r_iload_n C.1 1 dX10_rule_23 rfl rfl ?_
      obtain ⟨q_3, h⟩ := gd_E h
      refine r_iald C.1 (cK C (by decide)) (cS C (sh_18)) 0 (cT0 C) q_3 dX10_rule_24 ?_
      exact r_sub [] rfl (w_X10_rule_25 C M (M 18 x1.toNatClampNeg) _ h hr ev eM)
    · replace h := ite_F c_2 h
      exact r_sub [] rfl (w_X10_rule_12 C M _ h hr ev eM)
def f_X10_rule (M : xM) (x1 : Int32) : Option (Int32) := b_X10_rule_0 M x1
set_option maxRecDepth 20000 in
theorem m_X10_rule (l : Launch) (D : va_G) (ad : Nat → Nat) (M : xM) (x1 : Int32)  {o : Int32} (h : f_X10_rule M x1 = some o) : xMetC l yX10_rule cX10_rule 2 (some .int) ({ frames := 0, cells := 0, slots := 0, locals := 0 } : Room) [.ref (ad 0), .int x1] D ad M (some (.int o)) M := by
  refine xMetC_of (own := RX10) (by decide) rfl (Nat.le_of_ble_eq_true rfl) ?_
  intro x C e1 e2 e3 ev eM hr
  subst e1; subst e2; subst e3
  refine r_sub (L := [(0, .ref (x_ad x 0)), (1, .int x1)]) (L' := [(0, .ref (x_ad x 0)), (1, .int x1)]) [0, 1] rfl ?_
  exact w_X10_rule_0 C M x1 _ h hr ev eM

def b_X10_isBond_16 (M : xM) (s0 : Int32) : Option (Int32) :=
  gz s0 (some s0)
set_option maxRecDepth 20000 in
set_option maxHeartbeats 2000000 in
theorem w_X10_isBond_16 {x : xC} (C : CtC x RX10 cX10_isBond 1 ({ frames := 0, cells := 0, slots := 0, locals := 0 } : Room)) (M : xM) (s0 : Int32)  (o : Int32) (h : b_X10_isBond_16 M s0 = some o) (hr : (x_me x).sig.returnType = some .boolean) (ev : x_rv x = some (.int o)) (eM : x_M x = M) : J x M 16 [] [.int s0] := by
  unfold b_X10_isBond_16 at h
  obtain ⟨z_1, h⟩ := gz_E h
  obtain rfl := Option.some.inj h
  exact r_zret C.1 hr (nz_n z_1) ev eM dX10_isBond_16

def b_X10_isBond_15 (M : xM)  : Option (Int32) :=
  b_X10_isBond_16 M (0 : Int32)
set_option maxRecDepth 20000 in
set_option maxHeartbeats 2000000 in
theorem w_X10_isBond_15 {x : xC} (C : CtC x RX10 cX10_isBond 1 ({ frames := 0, cells := 0, slots := 0, locals := 0 } : Room)) (M : xM)   (o : Int32) (h : b_X10_isBond_15 M = some o) (hr : (x_me x).sig.returnType = some .boolean) (ev : x_rv x = some (.int o)) (eM : x_M x = M) : J x M 15 [] [] := by
  unfold b_X10_isBond_15 at h
  refine r_iconst (v := 0) C.1 dX10_isBond_15 rfl ?_
  exact r_sub [] rfl (w_X10_isBond_16 C M (0 : Int32) _ h hr ev eM)

def b_X10_isBond_0 (M : xM) (x0 : Int32) : Option (Int32) :=
  if x0 < 0 then b_X10_isBond_15 M else if (999999 : Int32) < x0 then b_X10_isBond_15 M else b_X10_isBond_16 M (1 : Int32)
set_option maxRecDepth 20000 in
set_option maxHeartbeats 2000000 in
theorem w_X10_isBond_0 {x : xC} (C : CtC x RX10 cX10_isBond 1 ({ frames := 0, cells := 0, slots := 0, locals := 0 } : Room)) (M : xM) (x0 : Int32)  (o : Int32) (h : b_X10_isBond_0 M x0 = some o) (hr : (x_me x).sig.returnType = some .boolean) (ev : x_rv x = some (.int o)) (eM : x_M x = M) : J x M 0 [(0, .int x0)] [] := by
  unfold b_X10_isBond_0 at h
  refine r_iload_n C.1 0 dX10_isBond_0 rfl rfl ?_
  refine r_if_lt C.1 15 dX10_isBond_1 (by decide) (fun c_1 => ?_) (fun c_1 => ?_)
  · replace h := ite_T c_1 h
    exact r_sub [] rfl (w_X10_isBond_15 C M _ h hr ev eM)
  · replace h := ite_F c_1 h
    refine r_iload_n C.1 0 dX10_isBond_4 rfl rfl ?_
    refine r_ldcw (v := 999999) C.1 kw_477 dX10_isBond_5 ?_
    refine r_icmp_gt C.1 15 dX10_isBond_8 (by decide) (fun c_2 => ?_) (fun c_2 => ?_)
    · replace h := ite_T c_2 h
      exact r_sub [] rfl (w_X10_isBond_15 C M _ h hr ev eM)
    · replace h := ite_F c_2 h
      refine r_iconst (v := 1) C.1 dX10_isBond_11 rfl ?_
      refine r_goto C.1 16 dX10_isBond_12 (by decide) ?_
      exact r_sub [] rfl (w_X10_isBond_16 C M (1 : Int32) _ h hr ev eM)
def f_X10_isBond (M : xM) (x0 : Int32) : Option (Int32) := b_X10_isBond_0 M x0
set_option maxRecDepth 20000 in
theorem m_X10_isBond (l : Launch) (D : va_G) (ad : Nat → Nat) (M : xM) (x0 : Int32)  {o : Int32} (h : f_X10_isBond M x0 = some o) : xMetC l yX10_isBond cX10_isBond 1 (some .boolean) ({ frames := 0, cells := 0, slots := 0, locals := 0 } : Room) [.int x0] D ad M (some (.int o)) M := by
  refine xMetC_of (own := RX10) (by decide) rfl (Nat.le_of_ble_eq_true rfl) ?_
  intro x C e1 e2 e3 ev eM hr
  subst e1; subst e2; subst e3
  refine r_sub (L := [(0, .int x0)]) (L' := [(0, .int x0)]) [0] rfl ?_
  exact w_X10_isBond_0 C M x0 _ h hr ev eM

def b_X10_refuse_0 (M : xM) (x1 : Int32) : Option (Int32 × xM) :=
  gd x1 5 (gd x1 5 (lt (uM M 10 x1.toNatClampNeg ((M 10 x1.toNatClampNeg) + (1 : Int32))) (fun M_3 => some ((-1 : Int32), M_3))))
set_option maxRecDepth 20000 in
set_option maxHeartbeats 2000000 in
theorem w_X10_refuse_0 {x : xC} (C : CtC x RX10 cX10_refuse 2 ({ frames := 0, cells := 0, slots := 0, locals := 0 } : Room)) (M : xM) (x1 : Int32)  (o : Int32 × xM) (h : b_X10_refuse_0 M x1 = some o) (hr : (x_me x).sig.returnType = some .int) (ev : x_rv x = some (.int o.1)) (eM : x_M x = o.2) : J x M 0 [(0, .ref (x_ad x 0)), (1, .int x1)] [] := by
  unfold b_X10_refuse_0 at h
  refine r_aload_n C.1 0 dX10_refuse_0 rfl rfl ?_
  refine gf_X10_44 C dX10_refuse_1 ?_
  refine r_iload_n C.1 1 dX10_refuse_4 rfl rfl ?_
  refine r_dup2 C.1 rfl rfl dX10_refuse_5 ?_
  obtain ⟨q_1, h⟩ := gd_E h
  refine r_iald C.1 (cK C (by decide)) (cS C (sh_10)) 0 (cT0 C) q_1 dX10_refuse_6 ?_
  refine r_iconst (v := 1) C.1 dX10_refuse_7 rfl ?_
  refine r_iadd C.1 dX10_refuse_8 ?_
  obtain ⟨q_2, h⟩ := gd_E h
  obtain ⟨M_3, eM_3, h⟩ := lt_E h
  refine r_iast C.1 (cK C (by decide)) (cS C (sh_10)) 0 (cT0 C) q_2 eM_3 dX10_refuse_9 ?_
  refine r_iconst (v := -1) C.1 dX10_refuse_10 rfl ?_
  obtain rfl := Option.some.inj h
  exact r_iret C.1 hr ev eM dX10_refuse_11
def f_X10_refuse (M : xM) (x1 : Int32) : Option (Int32 × xM) := b_X10_refuse_0 M x1
set_option maxRecDepth 20000 in
theorem m_X10_refuse (l : Launch) (D : va_G) (ad : Nat → Nat) (M : xM) (x1 : Int32)  {r : Int32} {M1 : xM} (h : f_X10_refuse M x1 = some (r, M1)) : xMetC l yX10_refuse cX10_refuse 2 (some .int) ({ frames := 0, cells := 0, slots := 0, locals := 0 } : Room) [.ref (ad 0), .int x1] D ad M (some (.int r)) M1 := by
  refine xMetC_of (own := RX10) (by decide) rfl (Nat.le_of_ble_eq_true rfl) ?_
  intro x C e1 e2 e3 ev eM hr
  subst e1; subst e2; subst e3
  refine r_sub (L := [(0, .ref (x_ad x 0)), (1, .int x1)]) (L' := [(0, .ref (x_ad x 0)), (1, .int x1)]) [0, 1] rfl ?_
  exact w_X10_refuse_0 C M x1 _ h hr ev eM

def b_X10_guardian_0 (M : xM) (x1 : Int32) : Option (Int32 × xM) :=
  bd (f_X10_isBond M x1) (fun r_1 => if r_1 = 0 then bd2 (f_X10_refuse M (1 : Int32)) (fun r_14 M_16 => some (r_14, M_16)) else if (M 17 1) < (3 : Int32) then gd (M 17 1) 3 (lt (uM M 19 (M 17 1).toNatClampNeg x1) (fun M_6 => lt (uM M_6 17 1 ((M_6 17 1) + (1 : Int32))) (fun M_7 => bd (f_X0_note M_7 (0 : Int32) (0 : Int32) (0 : Int32)) (fun M_10 => some ((M_10 17 1) - (1 : Int32), M_10))))) else bd2 (f_X10_refuse M (4 : Int32)) (fun r_11 M_13 => some (r_11, M_13)))
set_option maxRecDepth 20000 in
set_option maxHeartbeats 2000000 in
theorem w_X10_guardian_0 {x : xC} (C : CtC x RX10 cX10_guardian 2 ({ frames := 2, cells := 0, slots := 0, locals := 44 } : Room)) (M : xM) (x1 : Int32)  (o : Int32 × xM) (h : b_X10_guardian_0 M x1 = some o) (hr : (x_me x).sig.returnType = some .int) (ev : x_rv x = some (.int o.1)) (eM : x_M x = o.2) : J x M 0 [(0, .ref (x_ad x 0)), (1, .int x1)] [] := by
  unfold b_X10_guardian_0 at h
  refine r_iload_n C.1 1 dX10_guardian_0 rfl rfl ?_
  obtain ⟨r_1, hc_2, h⟩ := bd_E h
  refine cl_X10_97 C ⟨Nat.le_of_ble_eq_true rfl, Nat.le_of_ble_eq_true rfl⟩ (m_X10_isBond _ _ _ M x1 hc_2) (Nat.le_of_ble_eq_true rfl) dX10_guardian_1 ?_
  refine r_if_ne C.1 13 dX10_guardian_4 (by decide) (fun c_3 => ?_) (fun c_3 => ?_)
  · replace h := ite_F c_3 h
    refine r_aload_n C.1 0 dX10_guardian_13 rfl rfl ?_
    refine gf_X10_26 C dX10_guardian_14 ?_
    refine gf_X10_104_17 C dX10_guardian_17 ?_
    refine r_iconst (v := 3) C.1 dX10_guardian_20 rfl ?_
    refine r_icmp_lt C.1 30 dX10_guardian_21 (by decide) (fun c_4 => ?_) (fun c_4 => ?_)
    · replace h := ite_T c_4 h
      refine r_aload_n C.1 0 dX10_guardian_30 rfl rfl ?_
      refine gf_X10_26 C dX10_guardian_31 ?_
      refine gf_X10_107_17 C dX10_guardian_34 ?_
      refine r_aload_n C.1 0 dX10_guardian_37 rfl rfl ?_
      refine gf_X10_26 C dX10_guardian_38 ?_
      refine gf_X10_104_17 C dX10_guardian_41 ?_
      refine r_iload_n C.1 1 dX10_guardian_44 rfl rfl ?_
      obtain ⟨q_5, h⟩ := gd_E h
      obtain ⟨M_6, eM_6, h⟩ := lt_E h
      refine r_iast C.1 (cK C (by decide)) (cS C (sh_19)) 0 (cT0 C) q_5 eM_6 dX10_guardian_45 ?_
      refine r_aload_n C.1 0 dX10_guardian_46 rfl rfl ?_
      refine gf_X10_26 C dX10_guardian_47 ?_
      refine r_dup C.1 rfl dX10_guardian_50 ?_
      refine gf_X10_104_17 C dX10_guardian_51 ?_
      refine r_iconst (v := 1) C.1 dX10_guardian_54 rfl ?_
      refine r_iadd C.1 dX10_guardian_55 ?_
      obtain ⟨M_7, eM_7, h⟩ := lt_E h
      refine pf_X10_104_17 C eM_7 dX10_guardian_56 ?_
      refine r_aload_n C.1 0 dX10_guardian_59 rfl rfl ?_
      refine gf_X10_40 C dX10_guardian_60 ?_
      refine r_iconst (v := 0) C.1 dX10_guardian_63 rfl ?_
      refine r_iconst (v := 0) C.1 dX10_guardian_64 rfl ?_
      refine r_iconst (v := 0) C.1 dX10_guardian_65 rfl ?_
      obtain ⟨M_10, hc_9, h⟩ := bd_E h
      refine cl_X10_110 C ⟨Nat.le_of_ble_eq_true rfl, Nat.le_of_ble_eq_true rfl⟩ (m_X0_note _ _ _ M_7 (0 : Int32) (0 : Int32) (0 : Int32) hc_9) (Nat.le_of_ble_eq_true rfl) dX10_guardian_66 ?_
      refine r_aload_n C.1 0 dX10_guardian_69 rfl rfl ?_
      refine gf_X10_26 C dX10_guardian_70 ?_
      refine gf_X10_104_17 C dX10_guardian_73 ?_
      refine r_iconst (v := 1) C.1 dX10_guardian_76 rfl ?_
      refine r_isub C.1 dX10_guardian_77 ?_
      obtain rfl := Option.some.inj h
      exact r_iret C.1 hr ev eM dX10_guardian_78
    · replace h := ite_F c_4 h
      refine r_aload_n C.1 0 dX10_guardian_24 rfl rfl ?_
      refine r_iconst (v := 4) C.1 dX10_guardian_25 rfl ?_
      obtain ⟨r_11, M_13, hc_12, h⟩ := bd2_E h
      refine cl_X10_100 C ⟨Nat.le_of_ble_eq_true rfl, Nat.le_of_ble_eq_true rfl⟩ (m_X10_refuse _ _ _ M (4 : Int32) hc_12) (Nat.le_of_ble_eq_true rfl) dX10_guardian_26 ?_
      obtain rfl := Option.some.inj h
      exact r_iret C.1 hr ev eM dX10_guardian_29
  · replace h := ite_T c_3 h
    refine r_aload_n C.1 0 dX10_guardian_7 rfl rfl ?_
    refine r_iconst (v := 1) C.1 dX10_guardian_8 rfl ?_
    obtain ⟨r_14, M_16, hc_15, h⟩ := bd2_E h
    refine cl_X10_100 C ⟨Nat.le_of_ble_eq_true rfl, Nat.le_of_ble_eq_true rfl⟩ (m_X10_refuse _ _ _ M (1 : Int32) hc_15) (Nat.le_of_ble_eq_true rfl) dX10_guardian_9 ?_
    obtain rfl := Option.some.inj h
    exact r_iret C.1 hr ev eM dX10_guardian_12
def f_X10_guardian (M : xM) (x1 : Int32) : Option (Int32 × xM) := b_X10_guardian_0 M x1
set_option maxRecDepth 20000 in
theorem m_X10_guardian (l : Launch) (D : va_G) (ad : Nat → Nat) (M : xM) (x1 : Int32)  {r : Int32} {M1 : xM} (h : f_X10_guardian M x1 = some (r, M1)) : xMetC l yX10_guardian cX10_guardian 2 (some .int) ({ frames := 2, cells := 0, slots := 0, locals := 44 } : Room) [.ref (ad 0), .int x1] D ad M (some (.int r)) M1 := by
  refine xMetC_of (own := RX10) (by decide) rfl (Nat.le_of_ble_eq_true rfl) ?_
  intro x C e1 e2 e3 ev eM hr
  subst e1; subst e2; subst e3
  refine r_sub (L := [(0, .ref (x_ad x 0)), (1, .int x1)]) (L' := [(0, .ref (x_ad x 0)), (1, .int x1)]) [0, 1] rfl ?_
  exact w_X10_guardian_0 C M x1 _ h hr ev eM

def b_X10_bond_0 (M : xM) (x1 : Int32) (x2 : Int32) : Option (Int32 × xM) :=
  bd (f_X1_hasGuardian M x1) (fun r_1 => if r_1 = 0 then bd2 (f_X10_refuse M (0 : Int32)) (fun r_21 M_23 => some (r_21, M_23)) else bd (f_X10_isBond M x2) (fun r_4 => if r_4 = 0 then bd2 (f_X10_refuse M (1 : Int32)) (fun r_18 M_20 => some (r_18, M_20)) else gd x1 3 (lt (M 19 x1.toNatClampNeg) (fun y_8 => if y_8 = x2 then bd2 (f_X10_refuse M (3 : Int32)) (fun r_15 M_17 => some (r_15, M_17)) else gd x1 3 (lt (uM M 19 x1.toNatClampNeg x2) (fun M_11 => bd (f_X0_note M_11 (1 : Int32) x1 y_8) (fun M_14 => some (y_8, M_14))))))))
set_option maxRecDepth 20000 in
set_option maxHeartbeats 2000000 in
theorem w_X10_bond_0 {x : xC} (C : CtC x RX10 cX10_bond 4 ({ frames := 2, cells := 0, slots := 0, locals := 44 } : Room)) (M : xM) (x1 : Int32) (x2 : Int32)  (o : Int32 × xM) (h : b_X10_bond_0 M x1 x2 = some o) (hr : (x_me x).sig.returnType = some .int) (ev : x_rv x = some (.int o.1)) (eM : x_M x = o.2) : J x M 0 [(0, .ref (x_ad x 0)), (1, .int x1), (2, .int x2)] [] := by
  unfold b_X10_bond_0 at h
  refine r_aload_n C.1 0 dX10_bond_0 rfl rfl ?_
  refine gf_X10_26 C dX10_bond_1 ?_
  refine r_iload_n C.1 1 dX10_bond_4 rfl rfl ?_
  obtain ⟨r_1, hc_2, h⟩ := bd_E h
  refine cl_X10_114 C ⟨Nat.le_of_ble_eq_true rfl, Nat.le_of_ble_eq_true rfl⟩ (m_X1_hasGuardian _ _ _ M x1 hc_2) (Nat.le_of_ble_eq_true rfl) dX10_bond_5 ?_
  refine r_if_ne C.1 17 dX10_bond_8 (by decide) (fun c_3 => ?_) (fun c_3 => ?_)
  · replace h := ite_F c_3 h
    refine r_iload_n C.1 2 dX10_bond_17 rfl rfl ?_
    obtain ⟨r_4, hc_5, h⟩ := bd_E h
    refine cl_X10_97 C ⟨Nat.le_of_ble_eq_true rfl, Nat.le_of_ble_eq_true rfl⟩ (m_X10_isBond _ _ _ M x2 hc_5) (Nat.le_of_ble_eq_true rfl) dX10_bond_18 ?_
    refine r_if_ne C.1 30 dX10_bond_21 (by decide) (fun c_6 => ?_) (fun c_6 => ?_)
    · replace h := ite_F c_6 h
      refine r_aload_n C.1 0 dX10_bond_30 rfl rfl ?_
      refine gf_X10_26 C dX10_bond_31 ?_
      refine gf_X10_107_17 C dX10_bond_34 ?_
      refine r_iload_n C.1 1 dX10_bond_37 rfl rfl ?_
      obtain ⟨q_7, h⟩ := gd_E h
      refine r_iald C.1 (cK C (by decide)) (cS C (sh_19)) 0 (cT0 C) q_7 dX10_bond_38 ?_
      obtain ⟨y_8, ey_8, h⟩ := lt_E h
      refine r_istore_n C.1 [(3, .int y_8), (0, .ref (x_ad x 0)), (1, .int x1), (2, .int x2)] dX10_bond_39 rfl (by decide) ey_8 rfl ?_
      refine r_iload_n C.1 0 dX10_bond_40 rfl rfl ?_
      refine r_iload_n C.1 3 dX10_bond_41 rfl rfl ?_
      refine r_icmp_ne C.1 51 dX10_bond_42 (by decide) (fun c_9 => ?_) (fun c_9 => ?_)
      · replace h := ite_F c_9 h
        refine r_aload_n C.1 1 dX10_bond_51 rfl rfl ?_
        refine gf_X10_26 C dX10_bond_52 ?_
        refine gf_X10_107_17 C dX10_bond_55 ?_
        refine r_iload_n C.1 2 dX10_bond_58 rfl rfl ?_
        refine r_iload_n C.1 3 dX10_bond_59 rfl rfl ?_
        obtain ⟨q_10, h⟩ := gd_E h
        obtain ⟨M_11, eM_11, h⟩ := lt_E h
        refine r_iast C.1 (cK C (by decide)) (cS C (sh_19)) 0 (cT0 C) q_10 eM_11 dX10_bond_60 ?_
        refine r_aload_n C.1 1 dX10_bond_61 rfl rfl ?_
        refine gf_X10_40 C dX10_bond_62 ?_
        refine r_iconst (v := 1) C.1 dX10_bond_65 rfl ?_
        refine r_iload_n C.1 2 dX10_bond_66 rfl rfl ?_
        refine r_iload_n C.1 0 dX10_bond_67 rfl rfl ?_
        obtain ⟨M_14, hc_13, h⟩ := bd_E h
        refine cl_X10_110 C ⟨Nat.le_of_ble_eq_true rfl, Nat.le_of_ble_eq_true rfl⟩ (m_X0_note _ _ _ M_11 (1 : Int32) x1 y_8 hc_13) (Nat.le_of_ble_eq_true rfl) dX10_bond_68 ?_
        refine r_iload_n C.1 0 dX10_bond_71 rfl rfl ?_
        obtain rfl := Option.some.inj h
        exact r_iret C.1 hr ev eM dX10_bond_72
      · replace h := ite_T c_9 h
        refine r_aload_n C.1 1 dX10_bond_45 rfl rfl ?_
        refine r_iconst (v := 3) C.1 dX10_bond_46 rfl ?_
        obtain ⟨r_15, M_17, hc_16, h⟩ := bd2_E h
        refine cl_X10_100 C ⟨Nat.le_of_ble_eq_true rfl, Nat.le_of_ble_eq_true rfl⟩ (m_X10_refuse _ _ _ M (3 : Int32) hc_16) (Nat.le_of_ble_eq_true rfl) dX10_bond_47 ?_
        obtain rfl := Option.some.inj h
        exact r_iret C.1 hr ev eM dX10_bond_50
    · replace h := ite_T c_6 h
      refine r_aload_n C.1 0 dX10_bond_24 rfl rfl ?_
      refine r_iconst (v := 1) C.1 dX10_bond_25 rfl ?_
      obtain ⟨r_18, M_20, hc_19, h⟩ := bd2_E h
      refine cl_X10_100 C ⟨Nat.le_of_ble_eq_true rfl, Nat.le_of_ble_eq_true rfl⟩ (m_X10_refuse _ _ _ M (1 : Int32) hc_19) (Nat.le_of_ble_eq_true rfl) dX10_bond_26 ?_
      obtain rfl := Option.some.inj h
      exact r_iret C.1 hr ev eM dX10_bond_29
  · replace h := ite_T c_3 h
    refine r_aload_n C.1 0 dX10_bond_11 rfl rfl ?_
    refine r_iconst (v := 0) C.1 dX10_bond_12 rfl ?_
    obtain ⟨r_21, M_23, hc_22, h⟩ := bd2_E h
    refine cl_X10_100 C ⟨Nat.le_of_ble_eq_true rfl, Nat.le_of_ble_eq_true rfl⟩ (m_X10_refuse _ _ _ M (0 : Int32) hc_22) (Nat.le_of_ble_eq_true rfl) dX10_bond_13 ?_
    obtain rfl := Option.some.inj h
    exact r_iret C.1 hr ev eM dX10_bond_16
def f_X10_bond (M : xM) (x1 : Int32) (x2 : Int32) : Option (Int32 × xM) := b_X10_bond_0 M x1 x2
set_option maxRecDepth 20000 in
theorem m_X10_bond (l : Launch) (D : va_G) (ad : Nat → Nat) (M : xM) (x1 : Int32) (x2 : Int32)  {r : Int32} {M1 : xM} (h : f_X10_bond M x1 x2 = some (r, M1)) : xMetC l yX10_bond cX10_bond 4 (some .int) ({ frames := 2, cells := 0, slots := 0, locals := 44 } : Room) [.ref (ad 0), .int x1, .int x2] D ad M (some (.int r)) M1 := by
  refine xMetC_of (own := RX10) (by decide) rfl (Nat.le_of_ble_eq_true rfl) ?_
  intro x C e1 e2 e3 ev eM hr
  subst e1; subst e2; subst e3
  refine r_sub (L := [(0, .ref (x_ad x 0)), (1, .int x1), (2, .int x2)]) (L' := [(0, .ref (x_ad x 0)), (1, .int x1), (2, .int x2)]) [0, 1, 2] rfl ?_
  exact w_X10_bond_0 C M x1 x2 _ h hr ev eM

def b_X10_ward_31 (M : xM)  : Option (Int32 × xM) :=
  bd2 (f_X10_refuse M (1 : Int32)) (fun r_1 M_3 => some (r_1, M_3))
set_option maxRecDepth 20000 in
set_option maxHeartbeats 2000000 in
theorem w_X10_ward_31 {x : xC} (C : CtC x RX10 cX10_ward 3 ({ frames := 2, cells := 0, slots := 0, locals := 44 } : Room)) (M : xM)   (o : Int32 × xM) (h : b_X10_ward_31 M = some o) (hr : (x_me x).sig.returnType = some .int) (ev : x_rv x = some (.int o.1)) (eM : x_M x = o.2) : J x M 31 [(0, .ref (x_ad x 0))] [] := by
  unfold b_X10_ward_31 at h
  refine r_aload_n C.1 0 dX10_ward_31 rfl rfl ?_
  refine r_iconst (v := 1) C.1 dX10_ward_32 rfl ?_
  obtain ⟨r_1, M_3, hc_2, h⟩ := bd2_E h
  refine cl_X10_100 C ⟨Nat.le_of_ble_eq_true rfl, Nat.le_of_ble_eq_true rfl⟩ (m_X10_refuse _ _ _ M (1 : Int32) hc_2) (Nat.le_of_ble_eq_true rfl) dX10_ward_33 ?_
  obtain rfl := Option.some.inj h
  exact r_iret C.1 hr ev eM dX10_ward_36

def b_X10_ward_0 (M : xM) (x1 : Int32) (x2 : Int32) : Option (Int32 × xM) :=
  bd (f_X1_hasGuardian M x2) (fun r_1 => if r_1 = 0 then bd2 (f_X10_refuse M (0 : Int32)) (fun r_18 M_20 => some (r_18, M_20)) else if x1 < (-9000 : Int32) then b_X10_ward_31 M else if x1 < (3600 : Int32) then if (M 17 3) < (4 : Int32) then gd (M 17 3) 4 (bd (f_X8_begin M (25 + 5 * (M 17 3).toNatClampNeg) x1 x2) (fun M_10 => lt (uM M_10 17 3 ((M_10 17 3) + (1 : Int32))) (fun M_11 => bd (f_X0_note M_11 (2 : Int32) (0 : Int32) (0 : Int32)) (fun M_14 => some ((M_14 17 3) - (1 : Int32), M_14))))) else bd2 (f_X10_refuse M (4 : Int32)) (fun r_15 M_17 => some (r_15, M_17)) else b_X10_ward_31 M)
set_option maxRecDepth 20000 in
set_option maxHeartbeats 2000000 in
theorem w_X10_ward_0 {x : xC} (C : CtC x RX10 cX10_ward 3 ({ frames := 2, cells := 0, slots := 0, locals := 44 } : Room)) (M : xM) (x1 : Int32) (x2 : Int32)  (o : Int32 × xM) (h : b_X10_ward_0 M x1 x2 = some o) (hr : (x_me x).sig.returnType = some .int) (ev : x_rv x = some (.int o.1)) (eM : x_M x = o.2) : J x M 0 [(0, .ref (x_ad x 0)), (1, .int x1), (2, .int x2)] [] := by
  unfold b_X10_ward_0 at h
  refine r_aload_n C.1 0 dX10_ward_0 rfl rfl ?_
  refine gf_X10_26 C dX10_ward_1 ?_
  refine r_iload_n C.1 2 dX10_ward_4 rfl rfl ?_
  obtain ⟨r_1, hc_2, h⟩ := bd_E h
  refine cl_X10_114 C ⟨Nat.le_of_ble_eq_true rfl, Nat.le_of_ble_eq_true rfl⟩ (m_X1_hasGuardian _ _ _ M x2 hc_2) (Nat.le_of_ble_eq_true rfl) dX10_ward_5 ?_
  refine r_if_ne C.1 17 dX10_ward_8 (by decide) (fun c_3 => ?_) (fun c_3 => ?_)
  · replace h := ite_F c_3 h
    refine r_iload_n C.1 1 dX10_ward_17 rfl rfl ?_
    refine r_sipush (v := -9000) C.1 dX10_ward_18 (by decide) ?_
    refine r_icmp_lt C.1 31 dX10_ward_21 (by decide) (fun c_4 => ?_) (fun c_4 => ?_)
    · replace h := ite_T c_4 h
      exact r_sub [0] rfl (w_X10_ward_31 C M _ h hr ev eM)
    · replace h := ite_F c_4 h
      refine r_iload_n C.1 1 dX10_ward_24 rfl rfl ?_
      refine r_sipush (v := 3600) C.1 dX10_ward_25 (by decide) ?_
      refine r_icmp_lt C.1 37 dX10_ward_28 (by decide) (fun c_5 => ?_) (fun c_5 => ?_)
      · replace h := ite_T c_5 h
        refine r_aload_n C.1 0 dX10_ward_37 rfl rfl ?_
        refine gf_X10_26 C dX10_ward_38 ?_
        refine gf_X10_117_17 C dX10_ward_41 ?_
        refine r_iconst (v := 4) C.1 dX10_ward_44 rfl ?_
        refine r_icmp_lt C.1 54 dX10_ward_45 (by decide) (fun c_6 => ?_) (fun c_6 => ?_)
        · replace h := ite_T c_6 h
          refine r_aload_n C.1 0 dX10_ward_54 rfl rfl ?_
          refine gf_X10_26 C dX10_ward_55 ?_
          refine gf_X10_120_17 C dX10_ward_58 ?_
          refine r_aload_n C.1 0 dX10_ward_61 rfl rfl ?_
          refine gf_X10_26 C dX10_ward_62 ?_
          refine gf_X10_117_17 C dX10_ward_65 ?_
          obtain ⟨q_7, h⟩ := gd_E h
          refine r_aldq C.1 (cK C (by decide)) (cS C (sh_20)) 2 (cT2 C) q_7 (y := x_ad x (25 + 5 * (M 17 3).toNatClampNeg)) rfl dX10_ward_68 ?_
          refine r_iload_n C.1 1 dX10_ward_69 rfl rfl ?_
          refine r_iload_n C.1 2 dX10_ward_70 rfl rfl ?_
          obtain ⟨M_10, hc_9, h⟩ := bd_E h
          refine cl_X10_124 C (kW_17 (vp_lt q_7)) ⟨Nat.le_of_ble_eq_true rfl, Nat.le_of_ble_eq_true rfl⟩ (m_X8_begin _ _ _ M (25 + 5 * (M 17 3).toNatClampNeg) x1 x2 (kW_17 (vp_lt q_7)) hc_9) (Nat.le_of_ble_eq_true rfl) dX10_ward_71 ?_
          refine r_aload_n C.1 0 dX10_ward_74 rfl rfl ?_
          refine gf_X10_26 C dX10_ward_75 ?_
          refine r_dup C.1 rfl dX10_ward_78 ?_
          refine gf_X10_117_17 C dX10_ward_79 ?_
          refine r_iconst (v := 1) C.1 dX10_ward_82 rfl ?_
          refine r_iadd C.1 dX10_ward_83 ?_
          obtain ⟨M_11, eM_11, h⟩ := lt_E h
          refine pf_X10_117_17 C eM_11 dX10_ward_84 ?_
          refine r_aload_n C.1 0 dX10_ward_87 rfl rfl ?_
          refine gf_X10_40 C dX10_ward_88 ?_
          refine r_iconst (v := 2) C.1 dX10_ward_91 rfl ?_
          refine r_iconst (v := 0) C.1 dX10_ward_92 rfl ?_
          refine r_iconst (v := 0) C.1 dX10_ward_93 rfl ?_
          obtain ⟨M_14, hc_13, h⟩ := bd_E h
          refine cl_X10_110 C ⟨Nat.le_of_ble_eq_true rfl, Nat.le_of_ble_eq_true rfl⟩ (m_X0_note _ _ _ M_11 (2 : Int32) (0 : Int32) (0 : Int32) hc_13) (Nat.le_of_ble_eq_true rfl) dX10_ward_94 ?_
          refine r_aload_n C.1 0 dX10_ward_97 rfl rfl ?_
          refine gf_X10_26 C dX10_ward_98 ?_
          refine gf_X10_117_17 C dX10_ward_101 ?_
          refine r_iconst (v := 1) C.1 dX10_ward_104 rfl ?_
          refine r_isub C.1 dX10_ward_105 ?_
          obtain rfl := Option.some.inj h
          exact r_iret C.1 hr ev eM dX10_ward_106
        · replace h := ite_F c_6 h
          refine r_aload_n C.1 0 dX10_ward_48 rfl rfl ?_
          refine r_iconst (v := 4) C.1 dX10_ward_49 rfl ?_
          obtain ⟨r_15, M_17, hc_16, h⟩ := bd2_E h
          refine cl_X10_100 C ⟨Nat.le_of_ble_eq_true rfl, Nat.le_of_ble_eq_true rfl⟩ (m_X10_refuse _ _ _ M (4 : Int32) hc_16) (Nat.le_of_ble_eq_true rfl) dX10_ward_50 ?_
          obtain rfl := Option.some.inj h
          exact r_iret C.1 hr ev eM dX10_ward_53
      · replace h := ite_F c_5 h
        exact r_sub [0] rfl (w_X10_ward_31 C M _ h hr ev eM)
  · replace h := ite_T c_3 h
    refine r_aload_n C.1 0 dX10_ward_11 rfl rfl ?_
    refine r_iconst (v := 0) C.1 dX10_ward_12 rfl ?_
    obtain ⟨r_18, M_20, hc_19, h⟩ := bd2_E h
    refine cl_X10_100 C ⟨Nat.le_of_ble_eq_true rfl, Nat.le_of_ble_eq_true rfl⟩ (m_X10_refuse _ _ _ M (0 : Int32) hc_19) (Nat.le_of_ble_eq_true rfl) dX10_ward_13 ?_
    obtain rfl := Option.some.inj h
    exact r_iret C.1 hr ev eM dX10_ward_16
def f_X10_ward (M : xM) (x1 : Int32) (x2 : Int32) : Option (Int32 × xM) := b_X10_ward_0 M x1 x2
set_option maxRecDepth 20000 in
theorem m_X10_ward (l : Launch) (D : va_G) (ad : Nat → Nat) (M : xM) (x1 : Int32) (x2 : Int32)  {r : Int32} {M1 : xM} (h : f_X10_ward M x1 x2 = some (r, M1)) : xMetC l yX10_ward cX10_ward 3 (some .int) ({ frames := 2, cells := 0, slots := 0, locals := 44 } : Room) [.ref (ad 0), .int x1, .int x2] D ad M (some (.int r)) M1 := by
  refine xMetC_of (own := RX10) (by decide) rfl (Nat.le_of_ble_eq_true rfl) ?_
  intro x C e1 e2 e3 ev eM hr
  subst e1; subst e2; subst e3
  refine r_sub (L := [(0, .ref (x_ad x 0)), (1, .int x1), (2, .int x2)]) (L' := [(0, .ref (x_ad x 0)), (1, .int x1), (2, .int x2)]) [0, 1, 2] rfl ?_
  exact w_X10_ward_0 C M x1 x2 _ h hr ev eM

def b_X10_isDay_16 (M : xM) (s0 : Int32) : Option (Int32) :=
  gz s0 (some s0)
set_option maxRecDepth 20000 in
set_option maxHeartbeats 2000000 in
theorem w_X10_isDay_16 {x : xC} (C : CtC x RX10 cX10_isDay 1 ({ frames := 0, cells := 0, slots := 0, locals := 0 } : Room)) (M : xM) (s0 : Int32)  (o : Int32) (h : b_X10_isDay_16 M s0 = some o) (hr : (x_me x).sig.returnType = some .boolean) (ev : x_rv x = some (.int o)) (eM : x_M x = M) : J x M 16 [] [.int s0] := by
  unfold b_X10_isDay_16 at h
  obtain ⟨z_1, h⟩ := gz_E h
  obtain rfl := Option.some.inj h
  exact r_zret C.1 hr (nz_n z_1) ev eM dX10_isDay_16

def b_X10_isDay_15 (M : xM)  : Option (Int32) :=
  b_X10_isDay_16 M (0 : Int32)
set_option maxRecDepth 20000 in
set_option maxHeartbeats 2000000 in
theorem w_X10_isDay_15 {x : xC} (C : CtC x RX10 cX10_isDay 1 ({ frames := 0, cells := 0, slots := 0, locals := 0 } : Room)) (M : xM)   (o : Int32) (h : b_X10_isDay_15 M = some o) (hr : (x_me x).sig.returnType = some .boolean) (ev : x_rv x = some (.int o)) (eM : x_M x = M) : J x M 15 [] [] := by
  unfold b_X10_isDay_15 at h
  refine r_iconst (v := 0) C.1 dX10_isDay_15 rfl ?_
  exact r_sub [] rfl (w_X10_isDay_16 C M (0 : Int32) _ h hr ev eM)

def b_X10_isDay_0 (M : xM) (x0 : Int32) : Option (Int32) :=
  if x0 < 0 then b_X10_isDay_15 M else if (3600 : Int32) ≤ x0 then b_X10_isDay_15 M else b_X10_isDay_16 M (1 : Int32)
set_option maxRecDepth 20000 in
set_option maxHeartbeats 2000000 in
theorem w_X10_isDay_0 {x : xC} (C : CtC x RX10 cX10_isDay 1 ({ frames := 0, cells := 0, slots := 0, locals := 0 } : Room)) (M : xM) (x0 : Int32)  (o : Int32) (h : b_X10_isDay_0 M x0 = some o) (hr : (x_me x).sig.returnType = some .boolean) (ev : x_rv x = some (.int o)) (eM : x_M x = M) : J x M 0 [(0, .int x0)] [] := by
  unfold b_X10_isDay_0 at h
  refine r_iload_n C.1 0 dX10_isDay_0 rfl rfl ?_
  refine r_if_lt C.1 15 dX10_isDay_1 (by decide) (fun c_1 => ?_) (fun c_1 => ?_)
  · replace h := ite_T c_1 h
    exact r_sub [] rfl (w_X10_isDay_15 C M _ h hr ev eM)
  · replace h := ite_F c_1 h
    refine r_iload_n C.1 0 dX10_isDay_4 rfl rfl ?_
    refine r_sipush (v := 3600) C.1 dX10_isDay_5 (by decide) ?_
    refine r_icmp_ge C.1 15 dX10_isDay_8 (by decide) (fun c_2 => ?_) (fun c_2 => ?_)
    · replace h := ite_T c_2 h
      exact r_sub [] rfl (w_X10_isDay_15 C M _ h hr ev eM)
    · replace h := ite_F c_2 h
      refine r_iconst (v := 1) C.1 dX10_isDay_11 rfl ?_
      refine r_goto C.1 16 dX10_isDay_12 (by decide) ?_
      exact r_sub [] rfl (w_X10_isDay_16 C M (1 : Int32) _ h hr ev eM)
def f_X10_isDay (M : xM) (x0 : Int32) : Option (Int32) := b_X10_isDay_0 M x0
set_option maxRecDepth 20000 in
theorem m_X10_isDay (l : Launch) (D : va_G) (ad : Nat → Nat) (M : xM) (x0 : Int32)  {o : Int32} (h : f_X10_isDay M x0 = some o) : xMetC l yX10_isDay cX10_isDay 1 (some .boolean) ({ frames := 0, cells := 0, slots := 0, locals := 0 } : Room) [.int x0] D ad M (some (.int o)) M := by
  refine xMetC_of (own := RX10) (by decide) rfl (Nat.le_of_ble_eq_true rfl) ?_
  intro x C e1 e2 e3 ev eM hr
  subst e1; subst e2; subst e3
  refine r_sub (L := [(0, .int x0)]) (L' := [(0, .int x0)]) [0] rfl ?_
  exact w_X10_isDay_0 C M x0 _ h hr ev eM

def b_X10_change_22 (M : xM)  : Option (Int32 × xM) :=
  bd2 (f_X10_refuse M (0 : Int32)) (fun r_1 M_3 => some (r_1, M_3))
set_option maxRecDepth 20000 in
set_option maxHeartbeats 2000000 in
theorem w_X10_change_22 {x : xC} (C : CtC x RX10 cX10_change 5 ({ frames := 2, cells := 0, slots := 0, locals := 44 } : Room)) (M : xM)   (o : Int32 × xM) (h : b_X10_change_22 M = some o) (hr : (x_me x).sig.returnType = some .int) (ev : x_rv x = some (.int o.1)) (eM : x_M x = o.2) : J x M 22 [(0, .ref (x_ad x 0))] [] := by
  unfold b_X10_change_22 at h
  refine r_aload_n C.1 0 dX10_change_22 rfl rfl ?_
  refine r_iconst (v := 0) C.1 dX10_change_23 rfl ?_
  obtain ⟨r_1, M_3, hc_2, h⟩ := bd2_E h
  refine cl_X10_100 C ⟨Nat.le_of_ble_eq_true rfl, Nat.le_of_ble_eq_true rfl⟩ (m_X10_refuse _ _ _ M (0 : Int32) hc_2) (Nat.le_of_ble_eq_true rfl) dX10_change_24 ?_
  obtain rfl := Option.some.inj h
  exact r_iret C.1 hr ev eM dX10_change_27

def b_X10_change_86 (M : xM)  : Option (Int32 × xM) :=
  bd2 (f_X10_refuse M (3 : Int32)) (fun r_1 M_3 => some (r_1, M_3))
set_option maxRecDepth 20000 in
set_option maxHeartbeats 2000000 in
theorem w_X10_change_86 {x : xC} (C : CtC x RX10 cX10_change 5 ({ frames := 2, cells := 0, slots := 0, locals := 44 } : Room)) (M : xM)   (o : Int32 × xM) (h : b_X10_change_86 M = some o) (hr : (x_me x).sig.returnType = some .int) (ev : x_rv x = some (.int o.1)) (eM : x_M x = o.2) : J x M 86 [(0, .ref (x_ad x 0))] [] := by
  unfold b_X10_change_86 at h
  refine r_aload_n C.1 0 dX10_change_86 rfl rfl ?_
  refine r_iconst (v := 3) C.1 dX10_change_87 rfl ?_
  obtain ⟨r_1, M_3, hc_2, h⟩ := bd2_E h
  refine cl_X10_100 C ⟨Nat.le_of_ble_eq_true rfl, Nat.le_of_ble_eq_true rfl⟩ (m_X10_refuse _ _ _ M (3 : Int32) hc_2) (Nat.le_of_ble_eq_true rfl) dX10_change_88 ?_
  obtain rfl := Option.some.inj h
  exact r_iret C.1 hr ev eM dX10_change_91

def b_X10_change_0 (M : xM) (x1 : Int32) (x2 : Int32) (x3 : Int32) : Option (Int32 × xM) :=
  bd (f_X1_hasWard M x1) (fun r_1 => if r_1 = 0 then b_X10_change_22 M else bd (f_X1_hasGuardian M x3) (fun r_4 => if r_4 = 0 then b_X10_change_22 M else bd (f_X10_isDay M x2) (fun r_7 => if r_7 = 0 then bd2 (f_X10_refuse M (1 : Int32)) (fun r_33 M_35 => some (r_33, M_35)) else gd x1 4 (bd (f_X8_isShutOn M (25 + 5 * x1.toNatClampNeg) x2) (fun r_11 => if r_11 = 0 then bd (f_X8_guardianOn M (25 + 5 * x1.toNatClampNeg) x2) (fun r_14 => if r_14 = x3 then b_X10_change_86 M else bd (f_X8_changesAfter M (25 + 5 * x1.toNatClampNeg) x2) (fun r_17 => if r_17 = 0 then if (M (25 + 5 * x1.toNatClampNeg) 2) < (6 : Int32) then bd (f_X8_goTo M (25 + 5 * x1.toNatClampNeg) x2 x3) (fun M_23 => bd (f_X0_note M_23 (3 : Int32) x1 (0 : Int32)) (fun M_26 => some (M_26 (25 + 5 * x1.toNatClampNeg) 2, M_26))) else bd2 (f_X10_refuse M (4 : Int32)) (fun r_27 M_29 => some (r_27, M_29)) else b_X10_change_86 M)) else bd2 (f_X10_refuse M (2 : Int32)) (fun r_30 M_32 => some (r_30, M_32)))))))
set_option maxRecDepth 20000 in
set_option maxHeartbeats 2000000 in
theorem w_X10_change_0 {x : xC} (C : CtC x RX10 cX10_change 5 ({ frames := 2, cells := 0, slots := 0, locals := 44 } : Room)) (M : xM) (x1 : Int32) (x2 : Int32) (x3 : Int32)  (o : Int32 × xM) (h : b_X10_change_0 M x1 x2 x3 = some o) (hr : (x_me x).sig.returnType = some .int) (ev : x_rv x = some (.int o.1)) (eM : x_M x = o.2) : J x M 0 [(0, .ref (x_ad x 0)), (1, .int x1), (2, .int x2), (3, .int x3)] [] := by
  unfold b_X10_change_0 at h
  refine r_aload_n C.1 0 dX10_change_0 rfl rfl ?_
  refine gf_X10_26 C dX10_change_1 ?_
  refine r_iload_n C.1 1 dX10_change_4 rfl rfl ?_
  obtain ⟨r_1, hc_2, h⟩ := bd_E h
  refine cl_X10_130 C ⟨Nat.le_of_ble_eq_true rfl, Nat.le_of_ble_eq_true rfl⟩ (m_X1_hasWard _ _ _ M x1 hc_2) (Nat.le_of_ble_eq_true rfl) dX10_change_5 ?_
  refine r_if_eq C.1 22 dX10_change_8 (by decide) (fun c_3 => ?_) (fun c_3 => ?_)
  · replace h := ite_T c_3 h
    exact r_sub [0] rfl (w_X10_change_22 C M _ h hr ev eM)
  · replace h := ite_F c_3 h
    refine r_aload_n C.1 0 dX10_change_11 rfl rfl ?_
    refine gf_X10_26 C dX10_change_12 ?_
    refine r_iload_n C.1 3 dX10_change_15 rfl rfl ?_
    obtain ⟨r_4, hc_5, h⟩ := bd_E h
    refine cl_X10_114 C ⟨Nat.le_of_ble_eq_true rfl, Nat.le_of_ble_eq_true rfl⟩ (m_X1_hasGuardian _ _ _ M x3 hc_5) (Nat.le_of_ble_eq_true rfl) dX10_change_16 ?_
    refine r_if_ne C.1 28 dX10_change_19 (by decide) (fun c_6 => ?_) (fun c_6 => ?_)
    · replace h := ite_F c_6 h
      refine r_iload_n C.1 2 dX10_change_28 rfl rfl ?_
      obtain ⟨r_7, hc_8, h⟩ := bd_E h
      refine cl_X10_133 C ⟨Nat.le_of_ble_eq_true rfl, Nat.le_of_ble_eq_true rfl⟩ (m_X10_isDay _ _ _ M x2 hc_8) (Nat.le_of_ble_eq_true rfl) dX10_change_29 ?_
      refine r_if_ne C.1 41 dX10_change_32 (by decide) (fun c_9 => ?_) (fun c_9 => ?_)
      · replace h := ite_F c_9 h
        refine r_aload_n C.1 0 dX10_change_41 rfl rfl ?_
        refine gf_X10_26 C dX10_change_42 ?_
        refine gf_X10_120_17 C dX10_change_45 ?_
        refine r_iload_n C.1 1 dX10_change_48 rfl rfl ?_
        obtain ⟨q_10, h⟩ := gd_E h
        refine r_aldq C.1 (cK C (by decide)) (cS C (sh_20)) 2 (cT2 C) q_10 (y := x_ad x (25 + 5 * x1.toNatClampNeg)) rfl dX10_change_49 ?_
        refine r_astore C.1 [(4, .ref (x_ad x (25 + 5 * x1.toNatClampNeg))), (0, .ref (x_ad x 0)), (1, .int x1), (2, .int x2), (3, .int x3)] dX10_change_50 (by decide) rfl ?_
        refine r_aload C.1 0 dX10_change_52 rfl ?_
        refine r_iload_n C.1 3 dX10_change_54 rfl rfl ?_
        obtain ⟨r_11, hc_12, h⟩ := bd_E h
        refine cl_X10_136 C (kW_17 (vp_lt q_10)) ⟨Nat.le_of_ble_eq_true rfl, Nat.le_of_ble_eq_true rfl⟩ (m_X8_isShutOn _ _ _ M (25 + 5 * x1.toNatClampNeg) x2 (kW_17 (vp_lt q_10)) hc_12) (Nat.le_of_ble_eq_true rfl) dX10_change_55 ?_
        refine r_if_eq C.1 67 dX10_change_58 (by decide) (fun c_13 => ?_) (fun c_13 => ?_)
        · replace h := ite_T c_13 h
          refine r_aload C.1 0 dX10_change_67 rfl ?_
          refine r_iload_n C.1 3 dX10_change_69 rfl rfl ?_
          obtain ⟨r_14, hc_15, h⟩ := bd_E h
          refine cl_X10_139 C (kW_17 (vp_lt q_10)) ⟨Nat.le_of_ble_eq_true rfl, Nat.le_of_ble_eq_true rfl⟩ (m_X8_guardianOn _ _ _ M (25 + 5 * x1.toNatClampNeg) x2 (kW_17 (vp_lt q_10)) hc_15) (Nat.le_of_ble_eq_true rfl) dX10_change_70 ?_
          refine r_iload_n C.1 4 dX10_change_73 rfl rfl ?_
          refine r_icmp_eq C.1 86 dX10_change_74 (by decide) (fun c_16 => ?_) (fun c_16 => ?_)
          · replace h := ite_T c_16 h
            exact r_sub [1] rfl (w_X10_change_86 C M _ h hr ev eM)
          · replace h := ite_F c_16 h
            refine r_aload C.1 0 dX10_change_77 rfl ?_
            refine r_iload_n C.1 3 dX10_change_79 rfl rfl ?_
            obtain ⟨r_17, hc_18, h⟩ := bd_E h
            refine cl_X10_142 C (kW_17 (vp_lt q_10)) ⟨Nat.le_of_ble_eq_true rfl, Nat.le_of_ble_eq_true rfl⟩ (m_X8_changesAfter _ _ _ M (25 + 5 * x1.toNatClampNeg) x2 (kW_17 (vp_lt q_10)) hc_18) (Nat.le_of_ble_eq_true rfl) dX10_change_80 ?_
            refine r_if_eq C.1 92 dX10_change_83 (by decide) (fun c_19 => ?_) (fun c_19 => ?_)
            · replace h := ite_T c_19 h
              refine r_aload C.1 0 dX10_change_92 rfl ?_
              refine gfk_X10_145 C (kW_17 (vp_lt q_10)) dX10_change_94 ?_
              refine r_bipush (v := 6) C.1 dX10_change_97 (by decide) ?_
              refine r_icmp_lt C.1 108 dX10_change_99 (by decide) (fun c_20 => ?_) (fun c_20 => ?_)
              · replace h := ite_T c_20 h
                refine r_aload C.1 0 dX10_change_108 rfl ?_
                refine r_iload_n C.1 3 dX10_change_110 rfl rfl ?_
                refine r_iload_n C.1 4 dX10_change_111 rfl rfl ?_
                obtain ⟨M_23, hc_22, h⟩ := bd_E h
                refine cl_X10_148 C (kW_17 (vp_lt q_10)) ⟨Nat.le_of_ble_eq_true rfl, Nat.le_of_ble_eq_true rfl⟩ (m_X8_goTo _ _ _ M (25 + 5 * x1.toNatClampNeg) x2 x3 (kW_17 (vp_lt q_10)) hc_22) (Nat.le_of_ble_eq_true rfl) dX10_change_112 ?_
                refine r_aload_n C.1 1 dX10_change_115 rfl rfl ?_
                refine gf_X10_40 C dX10_change_116 ?_
                refine r_iconst (v := 3) C.1 dX10_change_119 rfl ?_
                refine r_iload_n C.1 2 dX10_change_120 rfl rfl ?_
                refine r_iconst (v := 0) C.1 dX10_change_121 rfl ?_
                obtain ⟨M_26, hc_25, h⟩ := bd_E h
                refine cl_X10_110 C ⟨Nat.le_of_ble_eq_true rfl, Nat.le_of_ble_eq_true rfl⟩ (m_X0_note _ _ _ M_23 (3 : Int32) x1 (0 : Int32) hc_25) (Nat.le_of_ble_eq_true rfl) dX10_change_122 ?_
                refine r_aload C.1 0 dX10_change_125 rfl ?_
                refine gfk_X10_145 C (kW_17 (vp_lt q_10)) dX10_change_127 ?_
                obtain rfl := Option.some.inj h
                exact r_iret C.1 hr ev eM dX10_change_130
              · replace h := ite_F c_20 h
                refine r_aload_n C.1 1 dX10_change_102 rfl rfl ?_
                refine r_iconst (v := 4) C.1 dX10_change_103 rfl ?_
                obtain ⟨r_27, M_29, hc_28, h⟩ := bd2_E h
                refine cl_X10_100 C ⟨Nat.le_of_ble_eq_true rfl, Nat.le_of_ble_eq_true rfl⟩ (m_X10_refuse _ _ _ M (4 : Int32) hc_28) (Nat.le_of_ble_eq_true rfl) dX10_change_104 ?_
                obtain rfl := Option.some.inj h
                exact r_iret C.1 hr ev eM dX10_change_107
            · replace h := ite_F c_19 h
              exact r_sub [1] rfl (w_X10_change_86 C M _ h hr ev eM)
        · replace h := ite_F c_13 h
          refine r_aload_n C.1 1 dX10_change_61 rfl rfl ?_
          refine r_iconst (v := 2) C.1 dX10_change_62 rfl ?_
          obtain ⟨r_30, M_32, hc_31, h⟩ := bd2_E h
          refine cl_X10_100 C ⟨Nat.le_of_ble_eq_true rfl, Nat.le_of_ble_eq_true rfl⟩ (m_X10_refuse _ _ _ M (2 : Int32) hc_31) (Nat.le_of_ble_eq_true rfl) dX10_change_63 ?_
          obtain rfl := Option.some.inj h
          exact r_iret C.1 hr ev eM dX10_change_66
      · replace h := ite_T c_9 h
        refine r_aload_n C.1 0 dX10_change_35 rfl rfl ?_
        refine r_iconst (v := 1) C.1 dX10_change_36 rfl ?_
        obtain ⟨r_33, M_35, hc_34, h⟩ := bd2_E h
        refine cl_X10_100 C ⟨Nat.le_of_ble_eq_true rfl, Nat.le_of_ble_eq_true rfl⟩ (m_X10_refuse _ _ _ M (1 : Int32) hc_34) (Nat.le_of_ble_eq_true rfl) dX10_change_37 ?_
        obtain rfl := Option.some.inj h
        exact r_iret C.1 hr ev eM dX10_change_40
    · replace h := ite_T c_6 h
      exact r_sub [0] rfl (w_X10_change_22 C M _ h hr ev eM)
def f_X10_change (M : xM) (x1 : Int32) (x2 : Int32) (x3 : Int32) : Option (Int32 × xM) := b_X10_change_0 M x1 x2 x3
set_option maxRecDepth 20000 in
theorem m_X10_change (l : Launch) (D : va_G) (ad : Nat → Nat) (M : xM) (x1 : Int32) (x2 : Int32) (x3 : Int32)  {r : Int32} {M1 : xM} (h : f_X10_change M x1 x2 x3 = some (r, M1)) : xMetC l yX10_change cX10_change 5 (some .int) ({ frames := 2, cells := 0, slots := 0, locals := 44 } : Room) [.ref (ad 0), .int x1, .int x2, .int x3] D ad M (some (.int r)) M1 := by
  refine xMetC_of (own := RX10) (by decide) rfl (Nat.le_of_ble_eq_true rfl) ?_
  intro x C e1 e2 e3 ev eM hr
  subst e1; subst e2; subst e3
  refine r_sub (L := [(0, .ref (x_ad x 0)), (1, .int x1), (2, .int x2), (3, .int x3)]) (L' := [(0, .ref (x_ad x 0)), (1, .int x1), (2, .int x2), (3, .int x3)]) [0, 1, 2, 3] rfl ?_
  exact w_X10_change_0 C M x1 x2 x3 _ h hr ev eM

def b_X10_isAmount_17 (M : xM) (s0 : Int32) : Option (Int32) :=
  gz s0 (some s0)
set_option maxRecDepth 20000 in
set_option maxHeartbeats 2000000 in
theorem w_X10_isAmount_17 {x : xC} (C : CtC x RX10 cX10_isAmount 1 ({ frames := 0, cells := 0, slots := 0, locals := 0 } : Room)) (M : xM) (s0 : Int32)  (o : Int32) (h : b_X10_isAmount_17 M s0 = some o) (hr : (x_me x).sig.returnType = some .boolean) (ev : x_rv x = some (.int o)) (eM : x_M x = M) : J x M 17 [] [.int s0] := by
  unfold b_X10_isAmount_17 at h
  obtain ⟨z_1, h⟩ := gz_E h
  obtain rfl := Option.some.inj h
  exact r_zret C.1 hr (nz_n z_1) ev eM dX10_isAmount_17

def b_X10_isAmount_16 (M : xM)  : Option (Int32) :=
  b_X10_isAmount_17 M (0 : Int32)
set_option maxRecDepth 20000 in
set_option maxHeartbeats 2000000 in
theorem w_X10_isAmount_16 {x : xC} (C : CtC x RX10 cX10_isAmount 1 ({ frames := 0, cells := 0, slots := 0, locals := 0 } : Room)) (M : xM)   (o : Int32) (h : b_X10_isAmount_16 M = some o) (hr : (x_me x).sig.returnType = some .boolean) (ev : x_rv x = some (.int o)) (eM : x_M x = M) : J x M 16 [] [] := by
  unfold b_X10_isAmount_16 at h
  refine r_iconst (v := 0) C.1 dX10_isAmount_16 rfl ?_
  exact r_sub [] rfl (w_X10_isAmount_17 C M (0 : Int32) _ h hr ev eM)

def b_X10_isAmount_0 (M : xM) (x0 : Int32) : Option (Int32) :=
  if x0 < (1 : Int32) then b_X10_isAmount_16 M else if (99999 : Int32) < x0 then b_X10_isAmount_16 M else b_X10_isAmount_17 M (1 : Int32)
set_option maxRecDepth 20000 in
set_option maxHeartbeats 2000000 in
theorem w_X10_isAmount_0 {x : xC} (C : CtC x RX10 cX10_isAmount 1 ({ frames := 0, cells := 0, slots := 0, locals := 0 } : Room)) (M : xM) (x0 : Int32)  (o : Int32) (h : b_X10_isAmount_0 M x0 = some o) (hr : (x_me x).sig.returnType = some .boolean) (ev : x_rv x = some (.int o)) (eM : x_M x = M) : J x M 0 [(0, .int x0)] [] := by
  unfold b_X10_isAmount_0 at h
  refine r_iload_n C.1 0 dX10_isAmount_0 rfl rfl ?_
  refine r_iconst (v := 1) C.1 dX10_isAmount_1 rfl ?_
  refine r_icmp_lt C.1 16 dX10_isAmount_2 (by decide) (fun c_1 => ?_) (fun c_1 => ?_)
  · replace h := ite_T c_1 h
    exact r_sub [] rfl (w_X10_isAmount_16 C M _ h hr ev eM)
  · replace h := ite_F c_1 h
    refine r_iload_n C.1 0 dX10_isAmount_5 rfl rfl ?_
    refine r_ldcw (v := 99999) C.1 kw_543 dX10_isAmount_6 ?_
    refine r_icmp_gt C.1 16 dX10_isAmount_9 (by decide) (fun c_2 => ?_) (fun c_2 => ?_)
    · replace h := ite_T c_2 h
      exact r_sub [] rfl (w_X10_isAmount_16 C M _ h hr ev eM)
    · replace h := ite_F c_2 h
      refine r_iconst (v := 1) C.1 dX10_isAmount_12 rfl ?_
      refine r_goto C.1 17 dX10_isAmount_13 (by decide) ?_
      exact r_sub [] rfl (w_X10_isAmount_17 C M (1 : Int32) _ h hr ev eM)
def f_X10_isAmount (M : xM) (x0 : Int32) : Option (Int32) := b_X10_isAmount_0 M x0
set_option maxRecDepth 20000 in
theorem m_X10_isAmount (l : Launch) (D : va_G) (ad : Nat → Nat) (M : xM) (x0 : Int32)  {o : Int32} (h : f_X10_isAmount M x0 = some o) : xMetC l yX10_isAmount cX10_isAmount 1 (some .boolean) ({ frames := 0, cells := 0, slots := 0, locals := 0 } : Room) [.int x0] D ad M (some (.int o)) M := by
  refine xMetC_of (own := RX10) (by decide) rfl (Nat.le_of_ble_eq_true rfl) ?_
  intro x C e1 e2 e3 ev eM hr
  subst e1; subst e2; subst e3
  refine r_sub (L := [(0, .int x0)]) (L' := [(0, .int x0)]) [0] rfl ?_
  exact w_X10_isAmount_0 C M x0 _ h hr ev eM

def b_X10_entryRefusal_40 (M : xM) (s0 : Int32) : Option (Int32) :=
  some s0
set_option maxRecDepth 20000 in
set_option maxHeartbeats 2000000 in
theorem w_X10_entryRefusal_40 {x : xC} (C : CtC x RX10 cX10_entryRefusal 4 ({ frames := 2, cells := 0, slots := 0, locals := 41 } : Room)) (M : xM) (s0 : Int32)  (o : Int32) (h : b_X10_entryRefusal_40 M s0 = some o) (hr : (x_me x).sig.returnType = some .int) (ev : x_rv x = some (.int o)) (eM : x_M x = M) : J x M 40 [] [.int s0] := by
  unfold b_X10_entryRefusal_40 at h
  obtain rfl := Option.some.inj h
  exact r_iret C.1 hr ev eM dX10_entryRefusal_40

def b_X10_entryRefusal_0 (M : xM) (x1 : Int32) (x2 : Int32) (x3 : Int32) : Option (Int32) :=
  bd (f_X1_hasWard M x1) (fun r_1 => if r_1 = 0 then some (0 : Int32) else if x3 = 0 then some (1 : Int32) else gd x1 4 (bd (f_X8_isShutOn M (25 + 5 * x1.toNatClampNeg) x2) (fun r_6 => if r_6 = 0 then b_X10_entryRefusal_40 M (-1 : Int32) else b_X10_entryRefusal_40 M (2 : Int32))))
set_option maxRecDepth 20000 in
set_option maxHeartbeats 2000000 in
theorem w_X10_entryRefusal_0 {x : xC} (C : CtC x RX10 cX10_entryRefusal 4 ({ frames := 2, cells := 0, slots := 0, locals := 41 } : Room)) (M : xM) (x1 : Int32) (x2 : Int32) (x3 : Int32)  (o : Int32) (h : b_X10_entryRefusal_0 M x1 x2 x3 = some o) (hr : (x_me x).sig.returnType = some .int) (ev : x_rv x = some (.int o)) (eM : x_M x = M) : J x M 0 [(0, .ref (x_ad x 0)), (1, .int x1), (2, .int x2), (3, .int x3)] [] := by
  unfold b_X10_entryRefusal_0 at h
  refine r_aload_n C.1 0 dX10_entryRefusal_0 rfl rfl ?_
  refine gf_X10_26 C dX10_entryRefusal_1 ?_
  refine r_iload_n C.1 1 dX10_entryRefusal_4 rfl rfl ?_
  obtain ⟨r_1, hc_2, h⟩ := bd_E h
  refine cl_X10_130 C ⟨Nat.le_of_ble_eq_true rfl, Nat.le_of_ble_eq_true rfl⟩ (m_X1_hasWard _ _ _ M x1 hc_2) (Nat.le_of_ble_eq_true rfl) dX10_entryRefusal_5 ?_
  refine r_if_ne C.1 13 dX10_entryRefusal_8 (by decide) (fun c_3 => ?_) (fun c_3 => ?_)
  · replace h := ite_F c_3 h
    refine r_iload_n C.1 3 dX10_entryRefusal_13 rfl rfl ?_
    refine r_if_ne C.1 19 dX10_entryRefusal_14 (by decide) (fun c_4 => ?_) (fun c_4 => ?_)
    · replace h := ite_F c_4 h
      refine r_aload_n C.1 0 dX10_entryRefusal_19 rfl rfl ?_
      refine gf_X10_26 C dX10_entryRefusal_20 ?_
      refine gf_X10_120_17 C dX10_entryRefusal_23 ?_
      refine r_iload_n C.1 1 dX10_entryRefusal_26 rfl rfl ?_
      obtain ⟨q_5, h⟩ := gd_E h
      refine r_aldq C.1 (cK C (by decide)) (cS C (sh_20)) 2 (cT2 C) q_5 (y := x_ad x (25 + 5 * x1.toNatClampNeg)) rfl dX10_entryRefusal_27 ?_
      refine r_iload_n C.1 2 dX10_entryRefusal_28 rfl rfl ?_
      obtain ⟨r_6, hc_7, h⟩ := bd_E h
      refine cl_X10_136 C (kW_17 (vp_lt q_5)) ⟨Nat.le_of_ble_eq_true rfl, Nat.le_of_ble_eq_true rfl⟩ (m_X8_isShutOn _ _ _ M (25 + 5 * x1.toNatClampNeg) x2 (kW_17 (vp_lt q_5)) hc_7) (Nat.le_of_ble_eq_true rfl) dX10_entryRefusal_29 ?_
      refine r_if_eq C.1 39 dX10_entryRefusal_32 (by decide) (fun c_8 => ?_) (fun c_8 => ?_)
      · replace h := ite_T c_8 h
        refine r_iconst (v := -1) C.1 dX10_entryRefusal_39 rfl ?_
        exact r_sub [] rfl (w_X10_entryRefusal_40 C M (-1 : Int32) _ h hr ev eM)
      · replace h := ite_F c_8 h
        refine r_iconst (v := 2) C.1 dX10_entryRefusal_35 rfl ?_
        refine r_goto C.1 40 dX10_entryRefusal_36 (by decide) ?_
        exact r_sub [] rfl (w_X10_entryRefusal_40 C M (2 : Int32) _ h hr ev eM)
    · replace h := ite_T c_4 h
      refine r_iconst (v := 1) C.1 dX10_entryRefusal_17 rfl ?_
      obtain rfl := Option.some.inj h
      exact r_iret C.1 hr ev eM dX10_entryRefusal_18
  · replace h := ite_T c_3 h
    refine r_iconst (v := 0) C.1 dX10_entryRefusal_11 rfl ?_
    obtain rfl := Option.some.inj h
    exact r_iret C.1 hr ev eM dX10_entryRefusal_12
def f_X10_entryRefusal (M : xM) (x1 : Int32) (x2 : Int32) (x3 : Int32) : Option (Int32) := b_X10_entryRefusal_0 M x1 x2 x3
set_option maxRecDepth 20000 in
theorem m_X10_entryRefusal (l : Launch) (D : va_G) (ad : Nat → Nat) (M : xM) (x1 : Int32) (x2 : Int32) (x3 : Int32)  {o : Int32} (h : f_X10_entryRefusal M x1 x2 x3 = some o) : xMetC l yX10_entryRefusal cX10_entryRefusal 4 (some .int) ({ frames := 2, cells := 0, slots := 0, locals := 41 } : Room) [.ref (ad 0), .int x1, .int x2, .int x3] D ad M (some (.int o)) M := by
  refine xMetC_of (own := RX10) (by decide) rfl (Nat.le_of_ble_eq_true rfl) ?_
  intro x C e1 e2 e3 ev eM hr
  subst e1; subst e2; subst e3
  refine r_sub (L := [(0, .ref (x_ad x 0)), (1, .int x1), (2, .int x2), (3, .int x3)]) (L' := [(0, .ref (x_ad x 0)), (1, .int x1), (2, .int x2), (3, .int x3)]) [0, 1, 2, 3] rfl ?_
  exact w_X10_entryRefusal_0 C M x1 x2 x3 _ h hr ev eM

def b_X10_enter_41 (M : xM) (x1 : Int32) (x2 : Int32) (x3 : Int32) (x4 : Int32) (x5 : Int32) (x6 : Int32) (s0 : Int32) : Option (Int32 × xM) :=
  gd (M 17 5) 40 (bd (f_X2_tell M (45 + (M 17 5).toNatClampNeg) x1 x2 x3 x4 x5 x6 s0) (fun M_4 => lt (uM M_4 17 5 ((M_4 17 5) + (1 : Int32))) (fun M_5 => bd (f_X1_reckon M_5) (fun M_8 => bd (f_X0_note M_8 (4 : Int32) (0 : Int32) (0 : Int32)) (fun M_11 => some ((M_11 17 5) - (1 : Int32), M_11))))))
set_option maxRecDepth 20000 in
set_option maxHeartbeats 2000000 in
theorem w_X10_enter_41 {x : xC} (C : CtC x RX10 cX10_enter 8 ({ frames := 4, cells := 0, slots := 0, locals := 90 } : Room)) (M : xM) (x1 : Int32) (x2 : Int32) (x3 : Int32) (x4 : Int32) (x5 : Int32) (x6 : Int32) (s0 : Int32)  (o : Int32 × xM) (h : b_X10_enter_41 M x1 x2 x3 x4 x5 x6 s0 = some o) (hr : (x_me x).sig.returnType = some .int) (ev : x_rv x = some (.int o.1)) (eM : x_M x = o.2) : J x M 41 [(0, .ref (x_ad x 0)), (1, .int x1), (2, .int x2), (3, .int x3), (4, .int x4), (5, .int x5), (6, .int x6)] [.int s0] := by
  unfold b_X10_enter_41 at h
  refine r_istore C.1 [(7, .int s0), (0, .ref (x_ad x 0)), (1, .int x1), (2, .int x2), (3, .int x3), (4, .int x4), (5, .int x5), (6, .int x6)] dX10_enter_41 (by decide) rfl rfl ?_
  refine r_aload_n C.1 1 dX10_enter_43 rfl rfl ?_
  refine gf_X10_26 C dX10_enter_44 ?_
  refine gf_X10_188_17 C dX10_enter_47 ?_
  refine r_aload_n C.1 1 dX10_enter_50 rfl rfl ?_
  refine gf_X10_26 C dX10_enter_51 ?_
  refine gf_X10_246_17 C dX10_enter_54 ?_
  obtain ⟨q_1, h⟩ := gd_E h
  refine r_aldq C.1 (cK C (by decide)) (cS C (sh_21)) 3 (cT3 C) q_1 (y := x_ad x (45 + (M 17 5).toNatClampNeg)) rfl dX10_enter_57 ?_
  refine r_iload_n C.1 2 dX10_enter_58 rfl rfl ?_
  refine r_iload_n C.1 3 dX10_enter_59 rfl rfl ?_
  refine r_iload_n C.1 4 dX10_enter_60 rfl rfl ?_
  refine r_iload C.1 5 dX10_enter_61 rfl ?_
  refine r_iload C.1 6 dX10_enter_63 rfl ?_
  refine r_iload C.1 7 dX10_enter_65 rfl ?_
  refine r_iload C.1 0 dX10_enter_67 rfl ?_
  obtain ⟨M_4, hc_3, h⟩ := bd_E h
  refine cl_X10_399 C (kE_17 (vp_lt q_1)) ⟨Nat.le_of_ble_eq_true rfl, Nat.le_of_ble_eq_true rfl⟩ (m_X2_tell _ _ _ M (45 + (M 17 5).toNatClampNeg) x1 x2 x3 x4 x5 x6 s0 (kE_17 (vp_lt q_1)) hc_3) (Nat.le_of_ble_eq_true rfl) dX10_enter_69 ?_
  refine r_aload_n C.1 1 dX10_enter_72 rfl rfl ?_
  refine gf_X10_26 C dX10_enter_73 ?_
  refine r_dup C.1 rfl dX10_enter_76 ?_
  refine gf_X10_246_17 C dX10_enter_77 ?_
  refine r_iconst (v := 1) C.1 dX10_enter_80 rfl ?_
  refine r_iadd C.1 dX10_enter_81 ?_
  obtain ⟨M_5, eM_5, h⟩ := lt_E h
  refine pf_X10_246_17 C eM_5 dX10_enter_82 ?_
  refine r_aload_n C.1 1 dX10_enter_85 rfl rfl ?_
  refine gf_X10_26 C dX10_enter_86 ?_
  obtain ⟨M_8, hc_7, h⟩ := bd_E h
  refine cl_X10_182 C ⟨Nat.le_of_ble_eq_true rfl, Nat.le_of_ble_eq_true rfl⟩ (m_X1_reckon _ _ _ M_5 hc_7) (Nat.le_of_ble_eq_true rfl) dX10_enter_89 ?_
  refine r_aload_n C.1 1 dX10_enter_92 rfl rfl ?_
  refine gf_X10_40 C dX10_enter_93 ?_
  refine r_iconst (v := 4) C.1 dX10_enter_96 rfl ?_
  refine r_iconst (v := 0) C.1 dX10_enter_97 rfl ?_
  refine r_iconst (v := 0) C.1 dX10_enter_98 rfl ?_
  obtain ⟨M_11, hc_10, h⟩ := bd_E h
  refine cl_X10_110 C ⟨Nat.le_of_ble_eq_true rfl, Nat.le_of_ble_eq_true rfl⟩ (m_X0_note _ _ _ M_8 (4 : Int32) (0 : Int32) (0 : Int32) hc_10) (Nat.le_of_ble_eq_true rfl) dX10_enter_99 ?_
  refine r_aload_n C.1 1 dX10_enter_102 rfl rfl ?_
  refine gf_X10_26 C dX10_enter_103 ?_
  refine gf_X10_246_17 C dX10_enter_106 ?_
  refine r_iconst (v := 1) C.1 dX10_enter_109 rfl ?_
  refine r_isub C.1 dX10_enter_110 ?_
  obtain rfl := Option.some.inj h
  exact r_iret C.1 hr ev eM dX10_enter_111

def b_X10_enter_40 (M : xM) (x1 : Int32) (x2 : Int32) (x3 : Int32) (x4 : Int32) (x5 : Int32) (x6 : Int32) : Option (Int32 × xM) :=
  b_X10_enter_41 M x1 x2 x3 x4 x5 x6 (0 : Int32)
set_option maxRecDepth 20000 in
set_option maxHeartbeats 2000000 in
theorem w_X10_enter_40 {x : xC} (C : CtC x RX10 cX10_enter 8 ({ frames := 4, cells := 0, slots := 0, locals := 90 } : Room)) (M : xM) (x1 : Int32) (x2 : Int32) (x3 : Int32) (x4 : Int32) (x5 : Int32) (x6 : Int32)  (o : Int32 × xM) (h : b_X10_enter_40 M x1 x2 x3 x4 x5 x6 = some o) (hr : (x_me x).sig.returnType = some .int) (ev : x_rv x = some (.int o.1)) (eM : x_M x = o.2) : J x M 40 [(0, .ref (x_ad x 0)), (1, .int x1), (2, .int x2), (3, .int x3), (4, .int x4), (5, .int x5), (6, .int x6)] [] := by
  unfold b_X10_enter_40 at h
  refine r_iconst (v := 0) C.1 dX10_enter_40 rfl ?_
  exact r_sub [0, 1, 2, 3, 4, 5, 6] rfl (w_X10_enter_41 C M x1 x2 x3 x4 x5 x6 (0 : Int32) _ h hr ev eM)

def b_X10_enter_0 (M : xM) (x1 : Int32) (x2 : Int32) (x3 : Int32) (x4 : Int32) (x5 : Int32) (x6 : Int32) : Option (Int32 × xM) :=
  if (M 17 5) < (40 : Int32) then if x6 ≤ 0 then b_X10_enter_40 M x1 x2 x3 x4 x5 x6 else bd (f_X1_holderOf M x6) (fun r_3 => if r_3 = (-1 : Int32) then b_X10_enter_41 M x1 x2 x3 x4 x5 x6 (1 : Int32) else b_X10_enter_40 M x1 x2 x3 x4 x5 x6) else bd2 (f_X10_refuse M (4 : Int32)) (fun r_6 M_8 => some (r_6, M_8))
set_option maxRecDepth 20000 in
set_option maxHeartbeats 2000000 in
theorem w_X10_enter_0 {x : xC} (C : CtC x RX10 cX10_enter 8 ({ frames := 4, cells := 0, slots := 0, locals := 90 } : Room)) (M : xM) (x1 : Int32) (x2 : Int32) (x3 : Int32) (x4 : Int32) (x5 : Int32) (x6 : Int32)  (o : Int32 × xM) (h : b_X10_enter_0 M x1 x2 x3 x4 x5 x6 = some o) (hr : (x_me x).sig.returnType = some .int) (ev : x_rv x = some (.int o.1)) (eM : x_M x = o.2) : J x M 0 [(0, .ref (x_ad x 0)), (1, .int x1), (2, .int x2), (3, .int x3), (4, .int x4), (5, .int x5), (6, .int x6)] [] := by
  unfold b_X10_enter_0 at h
  refine r_aload_n C.1 0 dX10_enter_0 rfl rfl ?_
  refine gf_X10_26 C dX10_enter_1 ?_
  refine gf_X10_246_17 C dX10_enter_4 ?_
  refine r_bipush (v := 40) C.1 dX10_enter_7 (by decide) ?_
  refine r_icmp_lt C.1 18 dX10_enter_9 (by decide) (fun c_1 => ?_) (fun c_1 => ?_)
  · replace h := ite_T c_1 h
    refine r_iload C.1 6 dX10_enter_18 rfl ?_
    refine r_if_le C.1 40 dX10_enter_20 (by decide) (fun c_2 => ?_) (fun c_2 => ?_)
    · replace h := ite_T c_2 h
      exact r_sub [0, 1, 2, 3, 4, 5, 6] rfl (w_X10_enter_40 C M x1 x2 x3 x4 x5 x6 _ h hr ev eM)
    · replace h := ite_F c_2 h
      refine r_aload_n C.1 0 dX10_enter_23 rfl rfl ?_
      refine gf_X10_26 C dX10_enter_24 ?_
      refine r_iload C.1 6 dX10_enter_27 rfl ?_
      obtain ⟨r_3, hc_4, h⟩ := bd_E h
      refine cl_X10_340 C ⟨Nat.le_of_ble_eq_true rfl, Nat.le_of_ble_eq_true rfl⟩ (m_X1_holderOf _ _ _ M x6 hc_4) (Nat.le_of_ble_eq_true rfl) dX10_enter_29 ?_
      refine r_iconst (v := -1) C.1 dX10_enter_32 rfl ?_
      refine r_icmp_ne C.1 40 dX10_enter_33 (by decide) (fun c_5 => ?_) (fun c_5 => ?_)
      · replace h := ite_F c_5 h
        exact r_sub [0, 1, 2, 3, 4, 5, 6] rfl (w_X10_enter_40 C M x1 x2 x3 x4 x5 x6 _ h hr ev eM)
      · replace h := ite_T c_5 h
        refine r_iconst (v := 1) C.1 dX10_enter_36 rfl ?_
        refine r_goto C.1 41 dX10_enter_37 (by decide) ?_
        exact r_sub [0, 1, 2, 3, 4, 5, 6] rfl (w_X10_enter_41 C M x1 x2 x3 x4 x5 x6 (1 : Int32) _ h hr ev eM)
  · replace h := ite_F c_1 h
    refine r_aload_n C.1 0 dX10_enter_12 rfl rfl ?_
    refine r_iconst (v := 4) C.1 dX10_enter_13 rfl ?_
    obtain ⟨r_6, M_8, hc_7, h⟩ := bd2_E h
    refine cl_X10_100 C ⟨Nat.le_of_ble_eq_true rfl, Nat.le_of_ble_eq_true rfl⟩ (m_X10_refuse _ _ _ M (4 : Int32) hc_7) (Nat.le_of_ble_eq_true rfl) dX10_enter_14 ?_
    obtain rfl := Option.some.inj h
    exact r_iret C.1 hr ev eM dX10_enter_17
def f_X10_enter (M : xM) (x1 : Int32) (x2 : Int32) (x3 : Int32) (x4 : Int32) (x5 : Int32) (x6 : Int32) : Option (Int32 × xM) := b_X10_enter_0 M x1 x2 x3 x4 x5 x6
set_option maxRecDepth 20000 in
theorem m_X10_enter (l : Launch) (D : va_G) (ad : Nat → Nat) (M : xM) (x1 : Int32) (x2 : Int32) (x3 : Int32) (x4 : Int32) (x5 : Int32) (x6 : Int32)  {r : Int32} {M1 : xM} (h : f_X10_enter M x1 x2 x3 x4 x5 x6 = some (r, M1)) : xMetC l yX10_enter cX10_enter 8 (some .int) ({ frames := 4, cells := 0, slots := 0, locals := 90 } : Room) [.ref (ad 0), .int x1, .int x2, .int x3, .int x4, .int x5, .int x6] D ad M (some (.int r)) M1 := by
  refine xMetC_of (own := RX10) (by decide) rfl (Nat.le_of_ble_eq_true rfl) ?_
  intro x C e1 e2 e3 ev eM hr
  subst e1; subst e2; subst e3
  refine r_sub (L := [(0, .ref (x_ad x 0)), (1, .int x1), (2, .int x2), (3, .int x3), (4, .int x4), (5, .int x5), (6, .int x6)]) (L' := [(0, .ref (x_ad x 0)), (1, .int x1), (2, .int x2), (3, .int x3), (4, .int x4), (5, .int x5), (6, .int x6)]) [0, 1, 2, 3, 4, 5, 6] rfl ?_
  exact w_X10_enter_0 C M x1 x2 x3 x4 x5 x6 _ h hr ev eM

def b_X10_receive_30 (M : xM) (x1 : Int32) (x2 : Int32) (x3 : Int32) (x4 : Int32) (s0 : Int32) : Option (Int32 × xM) :=
  bd (f_X10_entryRefusal M x1 x2 s0) (fun r_1 => if r_1 = (-1 : Int32) then bd2 (f_X10_enter M (0 : Int32) x1 x2 x3 x4 (-1 : Int32)) (fun r_4 M_6 => some (r_4, M_6)) else bd2 (f_X10_refuse M r_1) (fun r_7 M_9 => some (r_7, M_9)))
set_option maxRecDepth 20000 in
set_option maxHeartbeats 2000000 in
theorem w_X10_receive_30 {x : xC} (C : CtC x RX10 cX10_receive 7 ({ frames := 5, cells := 0, slots := 0, locals := 117 } : Room)) (M : xM) (x1 : Int32) (x2 : Int32) (x3 : Int32) (x4 : Int32) (s0 : Int32)  (o : Int32 × xM) (h : b_X10_receive_30 M x1 x2 x3 x4 s0 = some o) (hr : (x_me x).sig.returnType = some .int) (ev : x_rv x = some (.int o.1)) (eM : x_M x = o.2) : J x M 30 [(0, .ref (x_ad x 0)), (1, .int x1), (2, .int x2), (3, .int x3), (4, .int x4)] [.int s0] := by
  unfold b_X10_receive_30 at h
  refine r_istore C.1 [(5, .int s0), (0, .ref (x_ad x 0)), (1, .int x1), (2, .int x2), (3, .int x3), (4, .int x4)] dX10_receive_30 (by decide) rfl rfl ?_
  refine r_aload_n C.1 1 dX10_receive_32 rfl rfl ?_
  refine r_iload_n C.1 2 dX10_receive_33 rfl rfl ?_
  refine r_iload_n C.1 3 dX10_receive_34 rfl rfl ?_
  refine r_iload C.1 0 dX10_receive_35 rfl ?_
  obtain ⟨r_1, hc_2, h⟩ := bd_E h
  refine cl_X10_154 C ⟨Nat.le_of_ble_eq_true rfl, Nat.le_of_ble_eq_true rfl⟩ (m_X10_entryRefusal _ _ _ M x1 x2 s0 hc_2) (Nat.le_of_ble_eq_true rfl) dX10_receive_37 ?_
  refine r_istore C.1 [(6, .int r_1), (5, .int s0), (0, .ref (x_ad x 0)), (1, .int x1), (2, .int x2), (3, .int x3), (4, .int x4)] dX10_receive_40 (by decide) rfl rfl ?_
  refine r_iload C.1 0 dX10_receive_42 rfl ?_
  refine r_iconst (v := -1) C.1 dX10_receive_44 rfl ?_
  refine r_icmp_eq C.1 55 dX10_receive_45 (by decide) (fun c_3 => ?_) (fun c_3 => ?_)
  · replace h := ite_T c_3 h
    refine r_aload_n C.1 2 dX10_receive_55 rfl rfl ?_
    refine r_iconst (v := 0) C.1 dX10_receive_56 rfl ?_
    refine r_iload_n C.1 3 dX10_receive_57 rfl rfl ?_
    refine r_iload_n C.1 4 dX10_receive_58 rfl rfl ?_
    refine r_iload_n C.1 5 dX10_receive_59 rfl rfl ?_
    refine r_iload C.1 6 dX10_receive_60 rfl ?_
    refine r_iconst (v := -1) C.1 dX10_receive_62 rfl ?_
    obtain ⟨r_4, M_6, hc_5, h⟩ := bd2_E h
    refine cl_X10_158 C ⟨Nat.le_of_ble_eq_true rfl, Nat.le_of_ble_eq_true rfl⟩ (m_X10_enter _ _ _ M (0 : Int32) x1 x2 x3 x4 (-1 : Int32) hc_5) (Nat.le_of_ble_eq_true rfl) dX10_receive_63 ?_
    obtain rfl := Option.some.inj h
    exact r_iret C.1 hr ev eM dX10_receive_66
  · replace h := ite_F c_3 h
    refine r_aload_n C.1 2 dX10_receive_48 rfl rfl ?_
    refine r_iload C.1 0 dX10_receive_49 rfl ?_
    obtain ⟨r_7, M_9, hc_8, h⟩ := bd2_E h
    refine cl_X10_100 C ⟨Nat.le_of_ble_eq_true rfl, Nat.le_of_ble_eq_true rfl⟩ (m_X10_refuse _ _ _ M r_1 hc_8) (Nat.le_of_ble_eq_true rfl) dX10_receive_51 ?_
    obtain rfl := Option.some.inj h
    exact r_iret C.1 hr ev eM dX10_receive_54

def b_X10_receive_29 (M : xM) (x1 : Int32) (x2 : Int32) (x3 : Int32) (x4 : Int32) : Option (Int32 × xM) :=
  b_X10_receive_30 M x1 x2 x3 x4 (0 : Int32)
set_option maxRecDepth 20000 in
set_option maxHeartbeats 2000000 in
theorem w_X10_receive_29 {x : xC} (C : CtC x RX10 cX10_receive 7 ({ frames := 5, cells := 0, slots := 0, locals := 117 } : Room)) (M : xM) (x1 : Int32) (x2 : Int32) (x3 : Int32) (x4 : Int32)  (o : Int32 × xM) (h : b_X10_receive_29 M x1 x2 x3 x4 = some o) (hr : (x_me x).sig.returnType = some .int) (ev : x_rv x = some (.int o.1)) (eM : x_M x = o.2) : J x M 29 [(0, .ref (x_ad x 0)), (1, .int x1), (2, .int x2), (3, .int x3), (4, .int x4)] [] := by
  unfold b_X10_receive_29 at h
  refine r_iconst (v := 0) C.1 dX10_receive_29 rfl ?_
  exact r_sub [0, 1, 2, 3, 4] rfl (w_X10_receive_30 C M x1 x2 x3 x4 (0 : Int32) _ h hr ev eM)

def b_X10_receive_0 (M : xM) (x1 : Int32) (x2 : Int32) (x3 : Int32) (x4 : Int32) : Option (Int32 × xM) :=
  bd (f_X10_isDay M x2) (fun r_1 => if r_1 = 0 then b_X10_receive_29 M x1 x2 x3 x4 else bd (f_X10_isAmount M x3) (fun r_4 => if r_4 = 0 then b_X10_receive_29 M x1 x2 x3 x4 else if x4 < 0 then b_X10_receive_29 M x1 x2 x3 x4 else if (4 : Int32) ≤ x4 then b_X10_receive_29 M x1 x2 x3 x4 else b_X10_receive_30 M x1 x2 x3 x4 (1 : Int32)))
set_option maxRecDepth 20000 in
set_option maxHeartbeats 2000000 in
theorem w_X10_receive_0 {x : xC} (C : CtC x RX10 cX10_receive 7 ({ frames := 5, cells := 0, slots := 0, locals := 117 } : Room)) (M : xM) (x1 : Int32) (x2 : Int32) (x3 : Int32) (x4 : Int32)  (o : Int32 × xM) (h : b_X10_receive_0 M x1 x2 x3 x4 = some o) (hr : (x_me x).sig.returnType = some .int) (ev : x_rv x = some (.int o.1)) (eM : x_M x = o.2) : J x M 0 [(0, .ref (x_ad x 0)), (1, .int x1), (2, .int x2), (3, .int x3), (4, .int x4)] [] := by
  unfold b_X10_receive_0 at h
  refine r_iload_n C.1 2 dX10_receive_0 rfl rfl ?_
  obtain ⟨r_1, hc_2, h⟩ := bd_E h
  refine cl_X10_133 C ⟨Nat.le_of_ble_eq_true rfl, Nat.le_of_ble_eq_true rfl⟩ (m_X10_isDay _ _ _ M x2 hc_2) (Nat.le_of_ble_eq_true rfl) dX10_receive_1 ?_
  refine r_if_eq C.1 29 dX10_receive_4 (by decide) (fun c_3 => ?_) (fun c_3 => ?_)
  · replace h := ite_T c_3 h
    exact r_sub [0, 1, 2, 3, 4] rfl (w_X10_receive_29 C M x1 x2 x3 x4 _ h hr ev eM)
  · replace h := ite_F c_3 h
    refine r_iload_n C.1 3 dX10_receive_7 rfl rfl ?_
    obtain ⟨r_4, hc_5, h⟩ := bd_E h
    refine cl_X10_151 C ⟨Nat.le_of_ble_eq_true rfl, Nat.le_of_ble_eq_true rfl⟩ (m_X10_isAmount _ _ _ M x3 hc_5) (Nat.le_of_ble_eq_true rfl) dX10_receive_8 ?_
    refine r_if_eq C.1 29 dX10_receive_11 (by decide) (fun c_6 => ?_) (fun c_6 => ?_)
    · replace h := ite_T c_6 h
      exact r_sub [0, 1, 2, 3, 4] rfl (w_X10_receive_29 C M x1 x2 x3 x4 _ h hr ev eM)
    · replace h := ite_F c_6 h
      refine r_iload C.1 4 dX10_receive_14 rfl ?_
      refine r_if_lt C.1 29 dX10_receive_16 (by decide) (fun c_7 => ?_) (fun c_7 => ?_)
      · replace h := ite_T c_7 h
        exact r_sub [0, 1, 2, 3, 4] rfl (w_X10_receive_29 C M x1 x2 x3 x4 _ h hr ev eM)
      · replace h := ite_F c_7 h
        refine r_iload C.1 4 dX10_receive_19 rfl ?_
        refine r_iconst (v := 4) C.1 dX10_receive_21 rfl ?_
        refine r_icmp_ge C.1 29 dX10_receive_22 (by decide) (fun c_8 => ?_) (fun c_8 => ?_)
        · replace h := ite_T c_8 h
          exact r_sub [0, 1, 2, 3, 4] rfl (w_X10_receive_29 C M x1 x2 x3 x4 _ h hr ev eM)
        · replace h := ite_F c_8 h
          refine r_iconst (v := 1) C.1 dX10_receive_25 rfl ?_
          refine r_goto C.1 30 dX10_receive_26 (by decide) ?_
          exact r_sub [0, 1, 2, 3, 4] rfl (w_X10_receive_30 C M x1 x2 x3 x4 (1 : Int32) _ h hr ev eM)
def f_X10_receive (M : xM) (x1 : Int32) (x2 : Int32) (x3 : Int32) (x4 : Int32) : Option (Int32 × xM) := b_X10_receive_0 M x1 x2 x3 x4
set_option maxRecDepth 20000 in
theorem m_X10_receive (l : Launch) (D : va_G) (ad : Nat → Nat) (M : xM) (x1 : Int32) (x2 : Int32) (x3 : Int32) (x4 : Int32)  {r : Int32} {M1 : xM} (h : f_X10_receive M x1 x2 x3 x4 = some (r, M1)) : xMetC l yX10_receive cX10_receive 7 (some .int) ({ frames := 5, cells := 0, slots := 0, locals := 117 } : Room) [.ref (ad 0), .int x1, .int x2, .int x3, .int x4] D ad M (some (.int r)) M1 := by
  refine xMetC_of (own := RX10) (by decide) rfl (Nat.le_of_ble_eq_true rfl) ?_
  intro x C e1 e2 e3 ev eM hr
  subst e1; subst e2; subst e3
  refine r_sub (L := [(0, .ref (x_ad x 0)), (1, .int x1), (2, .int x2), (3, .int x3), (4, .int x4)]) (L' := [(0, .ref (x_ad x 0)), (1, .int x1), (2, .int x2), (3, .int x3), (4, .int x4)]) [0, 1, 2, 3, 4] rfl ?_
  exact w_X10_receive_0 C M x1 x2 x3 x4 _ h hr ev eM

def b_X10_pay_43 (M : xM) (x1 : Int32) (x2 : Int32) (x3 : Int32) (x4 : Int32) (x5 : Int32) (s0 : Int32) : Option (Int32 × xM) :=
  bd (f_X10_entryRefusal M x1 x2 s0) (fun r_1 => if r_1 = (-1 : Int32) then bd2 (f_X10_enter M (1 : Int32) x1 x2 x3 x4 x5) (fun r_4 M_6 => some (r_4, M_6)) else bd2 (f_X10_refuse M r_1) (fun r_7 M_9 => some (r_7, M_9)))
set_option maxRecDepth 20000 in
set_option maxHeartbeats 2000000 in
theorem w_X10_pay_43 {x : xC} (C : CtC x RX10 cX10_pay 8 ({ frames := 5, cells := 0, slots := 0, locals := 117 } : Room)) (M : xM) (x1 : Int32) (x2 : Int32) (x3 : Int32) (x4 : Int32) (x5 : Int32) (s0 : Int32)  (o : Int32 × xM) (h : b_X10_pay_43 M x1 x2 x3 x4 x5 s0 = some o) (hr : (x_me x).sig.returnType = some .int) (ev : x_rv x = some (.int o.1)) (eM : x_M x = o.2) : J x M 43 [(0, .ref (x_ad x 0)), (1, .int x1), (2, .int x2), (3, .int x3), (4, .int x4), (5, .int x5)] [.int s0] := by
  unfold b_X10_pay_43 at h
  refine r_istore C.1 [(6, .int s0), (0, .ref (x_ad x 0)), (1, .int x1), (2, .int x2), (3, .int x3), (4, .int x4), (5, .int x5)] dX10_pay_43 (by decide) rfl rfl ?_
  refine r_aload_n C.1 1 dX10_pay_45 rfl rfl ?_
  refine r_iload_n C.1 2 dX10_pay_46 rfl rfl ?_
  refine r_iload_n C.1 3 dX10_pay_47 rfl rfl ?_
  refine r_iload C.1 0 dX10_pay_48 rfl ?_
  obtain ⟨r_1, hc_2, h⟩ := bd_E h
  refine cl_X10_154 C ⟨Nat.le_of_ble_eq_true rfl, Nat.le_of_ble_eq_true rfl⟩ (m_X10_entryRefusal _ _ _ M x1 x2 s0 hc_2) (Nat.le_of_ble_eq_true rfl) dX10_pay_50 ?_
  refine r_istore C.1 [(7, .int r_1), (6, .int s0), (0, .ref (x_ad x 0)), (1, .int x1), (2, .int x2), (3, .int x3), (4, .int x4), (5, .int x5)] dX10_pay_53 (by decide) rfl rfl ?_
  refine r_iload C.1 0 dX10_pay_55 rfl ?_
  refine r_iconst (v := -1) C.1 dX10_pay_57 rfl ?_
  refine r_icmp_eq C.1 68 dX10_pay_58 (by decide) (fun c_3 => ?_) (fun c_3 => ?_)
  · replace h := ite_T c_3 h
    refine r_aload_n C.1 2 dX10_pay_68 rfl rfl ?_
    refine r_iconst (v := 1) C.1 dX10_pay_69 rfl ?_
    refine r_iload_n C.1 3 dX10_pay_70 rfl rfl ?_
    refine r_iload_n C.1 4 dX10_pay_71 rfl rfl ?_
    refine r_iload_n C.1 5 dX10_pay_72 rfl rfl ?_
    refine r_iload C.1 6 dX10_pay_73 rfl ?_
    refine r_iload C.1 7 dX10_pay_75 rfl ?_
    obtain ⟨r_4, M_6, hc_5, h⟩ := bd2_E h
    refine cl_X10_158 C ⟨Nat.le_of_ble_eq_true rfl, Nat.le_of_ble_eq_true rfl⟩ (m_X10_enter _ _ _ M (1 : Int32) x1 x2 x3 x4 x5 hc_5) (Nat.le_of_ble_eq_true rfl) dX10_pay_77 ?_
    obtain rfl := Option.some.inj h
    exact r_iret C.1 hr ev eM dX10_pay_80
  · replace h := ite_F c_3 h
    refine r_aload_n C.1 2 dX10_pay_61 rfl rfl ?_
    refine r_iload C.1 0 dX10_pay_62 rfl ?_
    obtain ⟨r_7, M_9, hc_8, h⟩ := bd2_E h
    refine cl_X10_100 C ⟨Nat.le_of_ble_eq_true rfl, Nat.le_of_ble_eq_true rfl⟩ (m_X10_refuse _ _ _ M r_1 hc_8) (Nat.le_of_ble_eq_true rfl) dX10_pay_64 ?_
    obtain rfl := Option.some.inj h
    exact r_iret C.1 hr ev eM dX10_pay_67

def b_X10_pay_42 (M : xM) (x1 : Int32) (x2 : Int32) (x3 : Int32) (x4 : Int32) (x5 : Int32) : Option (Int32 × xM) :=
  b_X10_pay_43 M x1 x2 x3 x4 x5 (0 : Int32)
set_option maxRecDepth 20000 in
set_option maxHeartbeats 2000000 in
theorem w_X10_pay_42 {x : xC} (C : CtC x RX10 cX10_pay 8 ({ frames := 5, cells := 0, slots := 0, locals := 117 } : Room)) (M : xM) (x1 : Int32) (x2 : Int32) (x3 : Int32) (x4 : Int32) (x5 : Int32)  (o : Int32 × xM) (h : b_X10_pay_42 M x1 x2 x3 x4 x5 = some o) (hr : (x_me x).sig.returnType = some .int) (ev : x_rv x = some (.int o.1)) (eM : x_M x = o.2) : J x M 42 [(0, .ref (x_ad x 0)), (1, .int x1), (2, .int x2), (3, .int x3), (4, .int x4), (5, .int x5)] [] := by
  unfold b_X10_pay_42 at h
  refine r_iconst (v := 0) C.1 dX10_pay_42 rfl ?_
  exact r_sub [0, 1, 2, 3, 4, 5] rfl (w_X10_pay_43 C M x1 x2 x3 x4 x5 (0 : Int32) _ h hr ev eM)

def b_X10_pay_0 (M : xM) (x1 : Int32) (x2 : Int32) (x3 : Int32) (x4 : Int32) (x5 : Int32) : Option (Int32 × xM) :=
  bd (f_X10_isDay M x2) (fun r_1 => if r_1 = 0 then b_X10_pay_42 M x1 x2 x3 x4 x5 else bd (f_X10_isAmount M x3) (fun r_4 => if r_4 = 0 then b_X10_pay_42 M x1 x2 x3 x4 x5 else if x4 < 0 then b_X10_pay_42 M x1 x2 x3 x4 x5 else if (4 : Int32) ≤ x4 then b_X10_pay_42 M x1 x2 x3 x4 x5 else if x5 < 0 then b_X10_pay_42 M x1 x2 x3 x4 x5 else if (999 : Int32) < x5 then b_X10_pay_42 M x1 x2 x3 x4 x5 else b_X10_pay_43 M x1 x2 x3 x4 x5 (1 : Int32)))
set_option maxRecDepth 20000 in
set_option maxHeartbeats 2000000 in
theorem w_X10_pay_0 {x : xC} (C : CtC x RX10 cX10_pay 8 ({ frames := 5, cells := 0, slots := 0, locals := 117 } : Room)) (M : xM) (x1 : Int32) (x2 : Int32) (x3 : Int32) (x4 : Int32) (x5 : Int32)  (o : Int32 × xM) (h : b_X10_pay_0 M x1 x2 x3 x4 x5 = some o) (hr : (x_me x).sig.returnType = some .int) (ev : x_rv x = some (.int o.1)) (eM : x_M x = o.2) : J x M 0 [(0, .ref (x_ad x 0)), (1, .int x1), (2, .int x2), (3, .int x3), (4, .int x4), (5, .int x5)] [] := by
  unfold b_X10_pay_0 at h
  refine r_iload_n C.1 2 dX10_pay_0 rfl rfl ?_
  obtain ⟨r_1, hc_2, h⟩ := bd_E h
  refine cl_X10_133 C ⟨Nat.le_of_ble_eq_true rfl, Nat.le_of_ble_eq_true rfl⟩ (m_X10_isDay _ _ _ M x2 hc_2) (Nat.le_of_ble_eq_true rfl) dX10_pay_1 ?_
  refine r_if_eq C.1 42 dX10_pay_4 (by decide) (fun c_3 => ?_) (fun c_3 => ?_)
  · replace h := ite_T c_3 h
    exact r_sub [0, 1, 2, 3, 4, 5] rfl (w_X10_pay_42 C M x1 x2 x3 x4 x5 _ h hr ev eM)
  · replace h := ite_F c_3 h
    refine r_iload_n C.1 3 dX10_pay_7 rfl rfl ?_
    obtain ⟨r_4, hc_5, h⟩ := bd_E h
    refine cl_X10_151 C ⟨Nat.le_of_ble_eq_true rfl, Nat.le_of_ble_eq_true rfl⟩ (m_X10_isAmount _ _ _ M x3 hc_5) (Nat.le_of_ble_eq_true rfl) dX10_pay_8 ?_
    refine r_if_eq C.1 42 dX10_pay_11 (by decide) (fun c_6 => ?_) (fun c_6 => ?_)
    · replace h := ite_T c_6 h
      exact r_sub [0, 1, 2, 3, 4, 5] rfl (w_X10_pay_42 C M x1 x2 x3 x4 x5 _ h hr ev eM)
    · replace h := ite_F c_6 h
      refine r_iload C.1 4 dX10_pay_14 rfl ?_
      refine r_if_lt C.1 42 dX10_pay_16 (by decide) (fun c_7 => ?_) (fun c_7 => ?_)
      · replace h := ite_T c_7 h
        exact r_sub [0, 1, 2, 3, 4, 5] rfl (w_X10_pay_42 C M x1 x2 x3 x4 x5 _ h hr ev eM)
      · replace h := ite_F c_7 h
        refine r_iload C.1 4 dX10_pay_19 rfl ?_
        refine r_iconst (v := 4) C.1 dX10_pay_21 rfl ?_
        refine r_icmp_ge C.1 42 dX10_pay_22 (by decide) (fun c_8 => ?_) (fun c_8 => ?_)
        · replace h := ite_T c_8 h
          exact r_sub [0, 1, 2, 3, 4, 5] rfl (w_X10_pay_42 C M x1 x2 x3 x4 x5 _ h hr ev eM)
        · replace h := ite_F c_8 h
          refine r_iload C.1 5 dX10_pay_25 rfl ?_
          refine r_if_lt C.1 42 dX10_pay_27 (by decide) (fun c_9 => ?_) (fun c_9 => ?_)
          · replace h := ite_T c_9 h
            exact r_sub [0, 1, 2, 3, 4, 5] rfl (w_X10_pay_42 C M x1 x2 x3 x4 x5 _ h hr ev eM)
          · replace h := ite_F c_9 h
            refine r_iload C.1 5 dX10_pay_30 rfl ?_
            refine r_sipush (v := 999) C.1 dX10_pay_32 (by decide) ?_
            refine r_icmp_gt C.1 42 dX10_pay_35 (by decide) (fun c_10 => ?_) (fun c_10 => ?_)
            · replace h := ite_T c_10 h
              exact r_sub [0, 1, 2, 3, 4, 5] rfl (w_X10_pay_42 C M x1 x2 x3 x4 x5 _ h hr ev eM)
            · replace h := ite_F c_10 h
              refine r_iconst (v := 1) C.1 dX10_pay_38 rfl ?_
              refine r_goto C.1 43 dX10_pay_39 (by decide) ?_
              exact r_sub [0, 1, 2, 3, 4, 5] rfl (w_X10_pay_43 C M x1 x2 x3 x4 x5 (1 : Int32) _ h hr ev eM)
def f_X10_pay (M : xM) (x1 : Int32) (x2 : Int32) (x3 : Int32) (x4 : Int32) (x5 : Int32) : Option (Int32 × xM) := b_X10_pay_0 M x1 x2 x3 x4 x5
set_option maxRecDepth 20000 in
theorem m_X10_pay (l : Launch) (D : va_G) (ad : Nat → Nat) (M : xM) (x1 : Int32) (x2 : Int32) (x3 : Int32) (x4 : Int32) (x5 : Int32)  {r : Int32} {M1 : xM} (h : f_X10_pay M x1 x2 x3 x4 x5 = some (r, M1)) : xMetC l yX10_pay cX10_pay 8 (some .int) ({ frames := 5, cells := 0, slots := 0, locals := 117 } : Room) [.ref (ad 0), .int x1, .int x2, .int x3, .int x4, .int x5] D ad M (some (.int r)) M1 := by
  refine xMetC_of (own := RX10) (by decide) rfl (Nat.le_of_ble_eq_true rfl) ?_
  intro x C e1 e2 e3 ev eM hr
  subst e1; subst e2; subst e3
  refine r_sub (L := [(0, .ref (x_ad x 0)), (1, .int x1), (2, .int x2), (3, .int x3), (4, .int x4), (5, .int x5)]) (L' := [(0, .ref (x_ad x 0)), (1, .int x1), (2, .int x2), (3, .int x3), (4, .int x4), (5, .int x5)]) [0, 1, 2, 3, 4, 5] rfl ?_
  exact w_X10_pay_0 C M x1 x2 x3 x4 x5 _ h hr ev eM

def b_X10_layOut_22 (M : xM) (x1 : Int32) (x2 : Int32) (x3 : Int32) (s0 : Int32) (s1 : Int32) (s2 : Int32) : Option (Int32 × xM) :=
  bd (f_X10_entryRefusal M s2 s1 s0) (fun r_1 => if r_1 = (-1 : Int32) then bd (f_X1_moneyOn M x1 x2) (fun r_4 => if x3 ≤ r_4 then bd2 (f_X10_enter M (2 : Int32) x1 x2 x3 (-1 : Int32) (-1 : Int32)) (fun r_7 M_9 => some (r_7, M_9)) else bd2 (f_X10_refuse M (3 : Int32)) (fun r_10 M_12 => some (r_10, M_12))) else bd2 (f_X10_refuse M r_1) (fun r_13 M_15 => some (r_13, M_15)))
set_option maxRecDepth 20000 in
set_option maxHeartbeats 2000000 in
theorem w_X10_layOut_22 {x : xC} (C : CtC x RX10 cX10_layOut 5 ({ frames := 5, cells := 0, slots := 0, locals := 117 } : Room)) (M : xM) (x1 : Int32) (x2 : Int32) (x3 : Int32) (s0 : Int32) (s1 : Int32) (s2 : Int32)  (o : Int32 × xM) (h : b_X10_layOut_22 M x1 x2 x3 s0 s1 s2 = some o) (hr : (x_me x).sig.returnType = some .int) (ev : x_rv x = some (.int o.1)) (eM : x_M x = o.2) : J x M 22 [(0, .ref (x_ad x 0)), (1, .int x1), (2, .int x2), (3, .int x3)] [.int s0, .int s1, .int s2, .ref (x_ad x 0)] := by
  unfold b_X10_layOut_22 at h
  obtain ⟨r_1, hc_2, h⟩ := bd_E h
  refine cl_X10_154 C ⟨Nat.le_of_ble_eq_true rfl, Nat.le_of_ble_eq_true rfl⟩ (m_X10_entryRefusal _ _ _ M s2 s1 s0 hc_2) (Nat.le_of_ble_eq_true rfl) dX10_layOut_22 ?_
  refine r_istore C.1 [(4, .int r_1), (0, .ref (x_ad x 0)), (1, .int x1), (2, .int x2), (3, .int x3)] dX10_layOut_25 (by decide) rfl rfl ?_
  refine r_iload C.1 0 dX10_layOut_27 rfl ?_
  refine r_iconst (v := -1) C.1 dX10_layOut_29 rfl ?_
  refine r_icmp_eq C.1 40 dX10_layOut_30 (by decide) (fun c_3 => ?_) (fun c_3 => ?_)
  · replace h := ite_T c_3 h
    refine r_aload_n C.1 1 dX10_layOut_40 rfl rfl ?_
    refine gf_X10_26 C dX10_layOut_41 ?_
    refine r_iload_n C.1 2 dX10_layOut_44 rfl rfl ?_
    refine r_iload_n C.1 3 dX10_layOut_45 rfl rfl ?_
    obtain ⟨r_4, hc_5, h⟩ := bd_E h
    refine cl_X10_162 C ⟨Nat.le_of_ble_eq_true rfl, Nat.le_of_ble_eq_true rfl⟩ (m_X1_moneyOn _ _ _ M x1 x2 hc_5) (Nat.le_of_ble_eq_true rfl) dX10_layOut_46 ?_
    refine r_iload_n C.1 4 dX10_layOut_49 rfl rfl ?_
    refine r_icmp_ge C.1 59 dX10_layOut_50 (by decide) (fun c_6 => ?_) (fun c_6 => ?_)
    · replace h := ite_T c_6 h
      refine r_aload_n C.1 1 dX10_layOut_59 rfl rfl ?_
      refine r_iconst (v := 2) C.1 dX10_layOut_60 rfl ?_
      refine r_iload_n C.1 2 dX10_layOut_61 rfl rfl ?_
      refine r_iload_n C.1 3 dX10_layOut_62 rfl rfl ?_
      refine r_iload_n C.1 4 dX10_layOut_63 rfl rfl ?_
      refine r_iconst (v := -1) C.1 dX10_layOut_64 rfl ?_
      refine r_iconst (v := -1) C.1 dX10_layOut_65 rfl ?_
      obtain ⟨r_7, M_9, hc_8, h⟩ := bd2_E h
      refine cl_X10_158 C ⟨Nat.le_of_ble_eq_true rfl, Nat.le_of_ble_eq_true rfl⟩ (m_X10_enter _ _ _ M (2 : Int32) x1 x2 x3 (-1 : Int32) (-1 : Int32) hc_8) (Nat.le_of_ble_eq_true rfl) dX10_layOut_66 ?_
      obtain rfl := Option.some.inj h
      exact r_iret C.1 hr ev eM dX10_layOut_69
    · replace h := ite_F c_6 h
      refine r_aload_n C.1 1 dX10_layOut_53 rfl rfl ?_
      refine r_iconst (v := 3) C.1 dX10_layOut_54 rfl ?_
      obtain ⟨r_10, M_12, hc_11, h⟩ := bd2_E h
      refine cl_X10_100 C ⟨Nat.le_of_ble_eq_true rfl, Nat.le_of_ble_eq_true rfl⟩ (m_X10_refuse _ _ _ M (3 : Int32) hc_11) (Nat.le_of_ble_eq_true rfl) dX10_layOut_55 ?_
      obtain rfl := Option.some.inj h
      exact r_iret C.1 hr ev eM dX10_layOut_58
  · replace h := ite_F c_3 h
    refine r_aload_n C.1 1 dX10_layOut_33 rfl rfl ?_
    refine r_iload C.1 0 dX10_layOut_34 rfl ?_
    obtain ⟨r_13, M_15, hc_14, h⟩ := bd2_E h
    refine cl_X10_100 C ⟨Nat.le_of_ble_eq_true rfl, Nat.le_of_ble_eq_true rfl⟩ (m_X10_refuse _ _ _ M r_1 hc_14) (Nat.le_of_ble_eq_true rfl) dX10_layOut_36 ?_
    obtain rfl := Option.some.inj h
    exact r_iret C.1 hr ev eM dX10_layOut_39

def b_X10_layOut_21 (M : xM) (x1 : Int32) (x2 : Int32) (x3 : Int32) (s0 : Int32) (s1 : Int32) : Option (Int32 × xM) :=
  b_X10_layOut_22 M x1 x2 x3 (0 : Int32) s0 s1
set_option maxRecDepth 20000 in
set_option maxHeartbeats 2000000 in
theorem w_X10_layOut_21 {x : xC} (C : CtC x RX10 cX10_layOut 5 ({ frames := 5, cells := 0, slots := 0, locals := 117 } : Room)) (M : xM) (x1 : Int32) (x2 : Int32) (x3 : Int32) (s0 : Int32) (s1 : Int32)  (o : Int32 × xM) (h : b_X10_layOut_21 M x1 x2 x3 s0 s1 = some o) (hr : (x_me x).sig.returnType = some .int) (ev : x_rv x = some (.int o.1)) (eM : x_M x = o.2) : J x M 21 [(0, .ref (x_ad x 0)), (1, .int x1), (2, .int x2), (3, .int x3)] [.int s0, .int s1, .ref (x_ad x 0)] := by
  unfold b_X10_layOut_21 at h
  refine r_iconst (v := 0) C.1 dX10_layOut_21 rfl ?_
  exact r_sub [0, 1, 2, 3] rfl (w_X10_layOut_22 C M x1 x2 x3 (0 : Int32) s0 s1 _ h hr ev eM)

def b_X10_layOut_0 (M : xM) (x1 : Int32) (x2 : Int32) (x3 : Int32) : Option (Int32 × xM) :=
  bd (f_X10_isDay M x2) (fun r_1 => if r_1 = 0 then b_X10_layOut_21 M x1 x2 x3 x2 x1 else bd (f_X10_isAmount M x3) (fun r_4 => if r_4 = 0 then b_X10_layOut_21 M x1 x2 x3 x2 x1 else b_X10_layOut_22 M x1 x2 x3 (1 : Int32) x2 x1))
set_option maxRecDepth 20000 in
set_option maxHeartbeats 2000000 in
theorem w_X10_layOut_0 {x : xC} (C : CtC x RX10 cX10_layOut 5 ({ frames := 5, cells := 0, slots := 0, locals := 117 } : Room)) (M : xM) (x1 : Int32) (x2 : Int32) (x3 : Int32)  (o : Int32 × xM) (h : b_X10_layOut_0 M x1 x2 x3 = some o) (hr : (x_me x).sig.returnType = some .int) (ev : x_rv x = some (.int o.1)) (eM : x_M x = o.2) : J x M 0 [(0, .ref (x_ad x 0)), (1, .int x1), (2, .int x2), (3, .int x3)] [] := by
  unfold b_X10_layOut_0 at h
  refine r_aload_n C.1 0 dX10_layOut_0 rfl rfl ?_
  refine r_iload_n C.1 1 dX10_layOut_1 rfl rfl ?_
  refine r_iload_n C.1 2 dX10_layOut_2 rfl rfl ?_
  refine r_iload_n C.1 2 dX10_layOut_3 rfl rfl ?_
  obtain ⟨r_1, hc_2, h⟩ := bd_E h
  refine cl_X10_133 C ⟨Nat.le_of_ble_eq_true rfl, Nat.le_of_ble_eq_true rfl⟩ (m_X10_isDay _ _ _ M x2 hc_2) (Nat.le_of_ble_eq_true rfl) dX10_layOut_4 ?_
  refine r_if_eq C.1 21 dX10_layOut_7 (by decide) (fun c_3 => ?_) (fun c_3 => ?_)
  · replace h := ite_T c_3 h
    exact r_sub [0, 1, 2, 3] rfl (w_X10_layOut_21 C M x1 x2 x3 x2 x1 _ h hr ev eM)
  · replace h := ite_F c_3 h
    refine r_iload_n C.1 3 dX10_layOut_10 rfl rfl ?_
    obtain ⟨r_4, hc_5, h⟩ := bd_E h
    refine cl_X10_151 C ⟨Nat.le_of_ble_eq_true rfl, Nat.le_of_ble_eq_true rfl⟩ (m_X10_isAmount _ _ _ M x3 hc_5) (Nat.le_of_ble_eq_true rfl) dX10_layOut_11 ?_
    refine r_if_eq C.1 21 dX10_layOut_14 (by decide) (fun c_6 => ?_) (fun c_6 => ?_)
    · replace h := ite_T c_6 h
      exact r_sub [0, 1, 2, 3] rfl (w_X10_layOut_21 C M x1 x2 x3 x2 x1 _ h hr ev eM)
    · replace h := ite_F c_6 h
      refine r_iconst (v := 1) C.1 dX10_layOut_17 rfl ?_
      refine r_goto C.1 22 dX10_layOut_18 (by decide) ?_
      exact r_sub [0, 1, 2, 3] rfl (w_X10_layOut_22 C M x1 x2 x3 (1 : Int32) x2 x1 _ h hr ev eM)
def f_X10_layOut (M : xM) (x1 : Int32) (x2 : Int32) (x3 : Int32) : Option (Int32 × xM) := b_X10_layOut_0 M x1 x2 x3
set_option maxRecDepth 20000 in
theorem m_X10_layOut (l : Launch) (D : va_G) (ad : Nat → Nat) (M : xM) (x1 : Int32) (x2 : Int32) (x3 : Int32)  {r : Int32} {M1 : xM} (h : f_X10_layOut M x1 x2 x3 = some (r, M1)) : xMetC l yX10_layOut cX10_layOut 5 (some .int) ({ frames := 5, cells := 0, slots := 0, locals := 117 } : Room) [.ref (ad 0), .int x1, .int x2, .int x3] D ad M (some (.int r)) M1 := by
  refine xMetC_of (own := RX10) (by decide) rfl (Nat.le_of_ble_eq_true rfl) ?_
  intro x C e1 e2 e3 ev eM hr
  subst e1; subst e2; subst e3
  refine r_sub (L := [(0, .ref (x_ad x 0)), (1, .int x1), (2, .int x2), (3, .int x3)]) (L' := [(0, .ref (x_ad x 0)), (1, .int x1), (2, .int x2), (3, .int x3)]) [0, 1, 2, 3] rfl ?_
  exact w_X10_layOut_0 C M x1 x2 x3 _ h hr ev eM

def b_X10_callIn_22 (M : xM) (x1 : Int32) (x2 : Int32) (x3 : Int32) (s0 : Int32) (s1 : Int32) (s2 : Int32) : Option (Int32 × xM) :=
  bd (f_X10_entryRefusal M s2 s1 s0) (fun r_1 => if r_1 = (-1 : Int32) then bd (f_X1_outOn M x1 x2) (fun r_4 => if x3 ≤ r_4 then bd2 (f_X10_enter M (3 : Int32) x1 x2 x3 (-1 : Int32) (-1 : Int32)) (fun r_7 M_9 => some (r_7, M_9)) else bd2 (f_X10_refuse M (3 : Int32)) (fun r_10 M_12 => some (r_10, M_12))) else bd2 (f_X10_refuse M r_1) (fun r_13 M_15 => some (r_13, M_15)))
set_option maxRecDepth 20000 in
set_option maxHeartbeats 2000000 in
theorem w_X10_callIn_22 {x : xC} (C : CtC x RX10 cX10_callIn 5 ({ frames := 5, cells := 0, slots := 0, locals := 117 } : Room)) (M : xM) (x1 : Int32) (x2 : Int32) (x3 : Int32) (s0 : Int32) (s1 : Int32) (s2 : Int32)  (o : Int32 × xM) (h : b_X10_callIn_22 M x1 x2 x3 s0 s1 s2 = some o) (hr : (x_me x).sig.returnType = some .int) (ev : x_rv x = some (.int o.1)) (eM : x_M x = o.2) : J x M 22 [(0, .ref (x_ad x 0)), (1, .int x1), (2, .int x2), (3, .int x3)] [.int s0, .int s1, .int s2, .ref (x_ad x 0)] := by
  unfold b_X10_callIn_22 at h
  obtain ⟨r_1, hc_2, h⟩ := bd_E h
  refine cl_X10_154 C ⟨Nat.le_of_ble_eq_true rfl, Nat.le_of_ble_eq_true rfl⟩ (m_X10_entryRefusal _ _ _ M s2 s1 s0 hc_2) (Nat.le_of_ble_eq_true rfl) dX10_callIn_22 ?_
  refine r_istore C.1 [(4, .int r_1), (0, .ref (x_ad x 0)), (1, .int x1), (2, .int x2), (3, .int x3)] dX10_callIn_25 (by decide) rfl rfl ?_
  refine r_iload C.1 0 dX10_callIn_27 rfl ?_
  refine r_iconst (v := -1) C.1 dX10_callIn_29 rfl ?_
  refine r_icmp_eq C.1 40 dX10_callIn_30 (by decide) (fun c_3 => ?_) (fun c_3 => ?_)
  · replace h := ite_T c_3 h
    refine r_aload_n C.1 1 dX10_callIn_40 rfl rfl ?_
    refine gf_X10_26 C dX10_callIn_41 ?_
    refine r_iload_n C.1 2 dX10_callIn_44 rfl rfl ?_
    refine r_iload_n C.1 3 dX10_callIn_45 rfl rfl ?_
    obtain ⟨r_4, hc_5, h⟩ := bd_E h
    refine cl_X10_166 C ⟨Nat.le_of_ble_eq_true rfl, Nat.le_of_ble_eq_true rfl⟩ (m_X1_outOn _ _ _ M x1 x2 hc_5) (Nat.le_of_ble_eq_true rfl) dX10_callIn_46 ?_
    refine r_iload_n C.1 4 dX10_callIn_49 rfl rfl ?_
    refine r_icmp_ge C.1 59 dX10_callIn_50 (by decide) (fun c_6 => ?_) (fun c_6 => ?_)
    · replace h := ite_T c_6 h
      refine r_aload_n C.1 1 dX10_callIn_59 rfl rfl ?_
      refine r_iconst (v := 3) C.1 dX10_callIn_60 rfl ?_
      refine r_iload_n C.1 2 dX10_callIn_61 rfl rfl ?_
      refine r_iload_n C.1 3 dX10_callIn_62 rfl rfl ?_
      refine r_iload_n C.1 4 dX10_callIn_63 rfl rfl ?_
      refine r_iconst (v := -1) C.1 dX10_callIn_64 rfl ?_
      refine r_iconst (v := -1) C.1 dX10_callIn_65 rfl ?_
      obtain ⟨r_7, M_9, hc_8, h⟩ := bd2_E h
      refine cl_X10_158 C ⟨Nat.le_of_ble_eq_true rfl, Nat.le_of_ble_eq_true rfl⟩ (m_X10_enter _ _ _ M (3 : Int32) x1 x2 x3 (-1 : Int32) (-1 : Int32) hc_8) (Nat.le_of_ble_eq_true rfl) dX10_callIn_66 ?_
      obtain rfl := Option.some.inj h
      exact r_iret C.1 hr ev eM dX10_callIn_69
    · replace h := ite_F c_6 h
      refine r_aload_n C.1 1 dX10_callIn_53 rfl rfl ?_
      refine r_iconst (v := 3) C.1 dX10_callIn_54 rfl ?_
      obtain ⟨r_10, M_12, hc_11, h⟩ := bd2_E h
      refine cl_X10_100 C ⟨Nat.le_of_ble_eq_true rfl, Nat.le_of_ble_eq_true rfl⟩ (m_X10_refuse _ _ _ M (3 : Int32) hc_11) (Nat.le_of_ble_eq_true rfl) dX10_callIn_55 ?_
      obtain rfl := Option.some.inj h
      exact r_iret C.1 hr ev eM dX10_callIn_58
  · replace h := ite_F c_3 h
    refine r_aload_n C.1 1 dX10_callIn_33 rfl rfl ?_
    refine r_iload C.1 0 dX10_callIn_34 rfl ?_
    obtain ⟨r_13, M_15, hc_14, h⟩ := bd2_E h
    refine cl_X10_100 C ⟨Nat.le_of_ble_eq_true rfl, Nat.le_of_ble_eq_true rfl⟩ (m_X10_refuse _ _ _ M r_1 hc_14) (Nat.le_of_ble_eq_true rfl) dX10_callIn_36 ?_
    obtain rfl := Option.some.inj h
    exact r_iret C.1 hr ev eM dX10_callIn_39

def b_X10_callIn_21 (M : xM) (x1 : Int32) (x2 : Int32) (x3 : Int32) (s0 : Int32) (s1 : Int32) : Option (Int32 × xM) :=
  b_X10_callIn_22 M x1 x2 x3 (0 : Int32) s0 s1
set_option maxRecDepth 20000 in
set_option maxHeartbeats 2000000 in
theorem w_X10_callIn_21 {x : xC} (C : CtC x RX10 cX10_callIn 5 ({ frames := 5, cells := 0, slots := 0, locals := 117 } : Room)) (M : xM) (x1 : Int32) (x2 : Int32) (x3 : Int32) (s0 : Int32) (s1 : Int32)  (o : Int32 × xM) (h : b_X10_callIn_21 M x1 x2 x3 s0 s1 = some o) (hr : (x_me x).sig.returnType = some .int) (ev : x_rv x = some (.int o.1)) (eM : x_M x = o.2) : J x M 21 [(0, .ref (x_ad x 0)), (1, .int x1), (2, .int x2), (3, .int x3)] [.int s0, .int s1, .ref (x_ad x 0)] := by
  unfold b_X10_callIn_21 at h
  refine r_iconst (v := 0) C.1 dX10_callIn_21 rfl ?_
  exact r_sub [0, 1, 2, 3] rfl (w_X10_callIn_22 C M x1 x2 x3 (0 : Int32) s0 s1 _ h hr ev eM)

def b_X10_callIn_0 (M : xM) (x1 : Int32) (x2 : Int32) (x3 : Int32) : Option (Int32 × xM) :=
  bd (f_X10_isDay M x2) (fun r_1 => if r_1 = 0 then b_X10_callIn_21 M x1 x2 x3 x2 x1 else bd (f_X10_isAmount M x3) (fun r_4 => if r_4 = 0 then b_X10_callIn_21 M x1 x2 x3 x2 x1 else b_X10_callIn_22 M x1 x2 x3 (1 : Int32) x2 x1))
set_option maxRecDepth 20000 in
set_option maxHeartbeats 2000000 in
theorem w_X10_callIn_0 {x : xC} (C : CtC x RX10 cX10_callIn 5 ({ frames := 5, cells := 0, slots := 0, locals := 117 } : Room)) (M : xM) (x1 : Int32) (x2 : Int32) (x3 : Int32)  (o : Int32 × xM) (h : b_X10_callIn_0 M x1 x2 x3 = some o) (hr : (x_me x).sig.returnType = some .int) (ev : x_rv x = some (.int o.1)) (eM : x_M x = o.2) : J x M 0 [(0, .ref (x_ad x 0)), (1, .int x1), (2, .int x2), (3, .int x3)] [] := by
  unfold b_X10_callIn_0 at h
  refine r_aload_n C.1 0 dX10_callIn_0 rfl rfl ?_
  refine r_iload_n C.1 1 dX10_callIn_1 rfl rfl ?_
  refine r_iload_n C.1 2 dX10_callIn_2 rfl rfl ?_
  refine r_iload_n C.1 2 dX10_callIn_3 rfl rfl ?_
  obtain ⟨r_1, hc_2, h⟩ := bd_E h
  refine cl_X10_133 C ⟨Nat.le_of_ble_eq_true rfl, Nat.le_of_ble_eq_true rfl⟩ (m_X10_isDay _ _ _ M x2 hc_2) (Nat.le_of_ble_eq_true rfl) dX10_callIn_4 ?_
  refine r_if_eq C.1 21 dX10_callIn_7 (by decide) (fun c_3 => ?_) (fun c_3 => ?_)
  · replace h := ite_T c_3 h
    exact r_sub [0, 1, 2, 3] rfl (w_X10_callIn_21 C M x1 x2 x3 x2 x1 _ h hr ev eM)
  · replace h := ite_F c_3 h
    refine r_iload_n C.1 3 dX10_callIn_10 rfl rfl ?_
    obtain ⟨r_4, hc_5, h⟩ := bd_E h
    refine cl_X10_151 C ⟨Nat.le_of_ble_eq_true rfl, Nat.le_of_ble_eq_true rfl⟩ (m_X10_isAmount _ _ _ M x3 hc_5) (Nat.le_of_ble_eq_true rfl) dX10_callIn_11 ?_
    refine r_if_eq C.1 21 dX10_callIn_14 (by decide) (fun c_6 => ?_) (fun c_6 => ?_)
    · replace h := ite_T c_6 h
      exact r_sub [0, 1, 2, 3] rfl (w_X10_callIn_21 C M x1 x2 x3 x2 x1 _ h hr ev eM)
    · replace h := ite_F c_6 h
      refine r_iconst (v := 1) C.1 dX10_callIn_17 rfl ?_
      refine r_goto C.1 22 dX10_callIn_18 (by decide) ?_
      exact r_sub [0, 1, 2, 3] rfl (w_X10_callIn_22 C M x1 x2 x3 (1 : Int32) x2 x1 _ h hr ev eM)
def f_X10_callIn (M : xM) (x1 : Int32) (x2 : Int32) (x3 : Int32) : Option (Int32 × xM) := b_X10_callIn_0 M x1 x2 x3
set_option maxRecDepth 20000 in
theorem m_X10_callIn (l : Launch) (D : va_G) (ad : Nat → Nat) (M : xM) (x1 : Int32) (x2 : Int32) (x3 : Int32)  {r : Int32} {M1 : xM} (h : f_X10_callIn M x1 x2 x3 = some (r, M1)) : xMetC l yX10_callIn cX10_callIn 5 (some .int) ({ frames := 5, cells := 0, slots := 0, locals := 117 } : Room) [.ref (ad 0), .int x1, .int x2, .int x3] D ad M (some (.int r)) M1 := by
  refine xMetC_of (own := RX10) (by decide) rfl (Nat.le_of_ble_eq_true rfl) ?_
  intro x C e1 e2 e3 ev eM hr
  subst e1; subst e2; subst e3
  refine r_sub (L := [(0, .ref (x_ad x 0)), (1, .int x1), (2, .int x2), (3, .int x3)]) (L' := [(0, .ref (x_ad x 0)), (1, .int x1), (2, .int x2), (3, .int x3)]) [0, 1, 2, 3] rfl ?_
  exact w_X10_callIn_0 C M x1 x2 x3 _ h hr ev eM

def b_X10_order_55 (M : xM)  : Option (Int32 × xM) :=
  bd2 (f_X10_refuse M (1 : Int32)) (fun r_1 M_3 => some (r_1, M_3))
set_option maxRecDepth 20000 in
set_option maxHeartbeats 2000000 in
theorem w_X10_order_55 {x : xC} (C : CtC x RX10 cX10_order 6 ({ frames := 4, cells := 0, slots := 0, locals := 90 } : Room)) (M : xM)   (o : Int32 × xM) (h : b_X10_order_55 M = some o) (hr : (x_me x).sig.returnType = some .int) (ev : x_rv x = some (.int o.1)) (eM : x_M x = o.2) : J x M 55 [(0, .ref (x_ad x 0))] [] := by
  unfold b_X10_order_55 at h
  refine r_aload_n C.1 0 dX10_order_55 rfl rfl ?_
  refine r_iconst (v := 1) C.1 dX10_order_56 rfl ?_
  obtain ⟨r_1, M_3, hc_2, h⟩ := bd2_E h
  refine cl_X10_100 C ⟨Nat.le_of_ble_eq_true rfl, Nat.le_of_ble_eq_true rfl⟩ (m_X10_refuse _ _ _ M (1 : Int32) hc_2) (Nat.le_of_ble_eq_true rfl) dX10_order_57 ?_
  obtain rfl := Option.some.inj h
  exact r_iret C.1 hr ev eM dX10_order_60

def b_X10_order_0 (M : xM) (x1 : Int32) (x2 : Int32) (x3 : Int32) (x4 : Int32) (x5 : Int32) : Option (Int32 × xM) :=
  bd (f_X1_hasWard M x1) (fun r_1 => if r_1 = 0 then bd2 (f_X10_refuse M (0 : Int32)) (fun r_38 M_40 => some (r_38, M_40)) else if x2 < 0 then b_X10_order_55 M else if (2 : Int32) ≤ x2 then b_X10_order_55 M else bd (f_X10_isDay M x3) (fun r_6 => if r_6 = 0 then b_X10_order_55 M else bd (f_X10_isDay M x4) (fun r_9 => if r_9 = 0 then b_X10_order_55 M else if x4 < x3 then b_X10_order_55 M else bd (f_X10_isAmount M x5) (fun r_13 => if r_13 = 0 then b_X10_order_55 M else gd x1 4 (bd (f_X8_isShutOn M (25 + 5 * x1.toNatClampNeg) x3) (fun r_17 => if r_17 = 0 then if (M 17 7) < (12 : Int32) then gd (M 17 7) 12 (bd (f_X3_tell M (85 + (M 17 7).toNatClampNeg) x1 x2 x3 x4 x5) (fun M_24 => lt (uM M_24 17 7 ((M_24 17 7) + (1 : Int32))) (fun M_25 => bd (f_X1_reckon M_25) (fun M_28 => bd (f_X0_note M_28 (5 : Int32) (0 : Int32) (0 : Int32)) (fun M_31 => some (M_31 17 7, M_31)))))) else bd2 (f_X10_refuse M (4 : Int32)) (fun r_32 M_34 => some (r_32, M_34)) else bd2 (f_X10_refuse M (2 : Int32)) (fun r_35 M_37 => some (r_35, M_37))))))))
set_option maxRecDepth 20000 in
set_option maxHeartbeats 2000000 in
theorem w_X10_order_0 {x : xC} (C : CtC x RX10 cX10_order 6 ({ frames := 4, cells := 0, slots := 0, locals := 90 } : Room)) (M : xM) (x1 : Int32) (x2 : Int32) (x3 : Int32) (x4 : Int32) (x5 : Int32)  (o : Int32 × xM) (h : b_X10_order_0 M x1 x2 x3 x4 x5 = some o) (hr : (x_me x).sig.returnType = some .int) (ev : x_rv x = some (.int o.1)) (eM : x_M x = o.2) : J x M 0 [(0, .ref (x_ad x 0)), (1, .int x1), (2, .int x2), (3, .int x3), (4, .int x4), (5, .int x5)] [] := by
  unfold b_X10_order_0 at h
  refine r_aload_n C.1 0 dX10_order_0 rfl rfl ?_
  refine gf_X10_26 C dX10_order_1 ?_
  refine r_iload_n C.1 1 dX10_order_4 rfl rfl ?_
  obtain ⟨r_1, hc_2, h⟩ := bd_E h
  refine cl_X10_130 C ⟨Nat.le_of_ble_eq_true rfl, Nat.le_of_ble_eq_true rfl⟩ (m_X1_hasWard _ _ _ M x1 hc_2) (Nat.le_of_ble_eq_true rfl) dX10_order_5 ?_
  refine r_if_ne C.1 17 dX10_order_8 (by decide) (fun c_3 => ?_) (fun c_3 => ?_)
  · replace h := ite_F c_3 h
    refine r_iload_n C.1 2 dX10_order_17 rfl rfl ?_
    refine r_if_lt C.1 55 dX10_order_18 (by decide) (fun c_4 => ?_) (fun c_4 => ?_)
    · replace h := ite_T c_4 h
      exact r_sub [0] rfl (w_X10_order_55 C M _ h hr ev eM)
    · replace h := ite_F c_4 h
      refine r_iload_n C.1 2 dX10_order_21 rfl rfl ?_
      refine r_iconst (v := 2) C.1 dX10_order_22 rfl ?_
      refine r_icmp_ge C.1 55 dX10_order_23 (by decide) (fun c_5 => ?_) (fun c_5 => ?_)
      · replace h := ite_T c_5 h
        exact r_sub [0] rfl (w_X10_order_55 C M _ h hr ev eM)
      · replace h := ite_F c_5 h
        refine r_iload_n C.1 3 dX10_order_26 rfl rfl ?_
        obtain ⟨r_6, hc_7, h⟩ := bd_E h
        refine cl_X10_133 C ⟨Nat.le_of_ble_eq_true rfl, Nat.le_of_ble_eq_true rfl⟩ (m_X10_isDay _ _ _ M x3 hc_7) (Nat.le_of_ble_eq_true rfl) dX10_order_27 ?_
        refine r_if_eq C.1 55 dX10_order_30 (by decide) (fun c_8 => ?_) (fun c_8 => ?_)
        · replace h := ite_T c_8 h
          exact r_sub [0] rfl (w_X10_order_55 C M _ h hr ev eM)
        · replace h := ite_F c_8 h
          refine r_iload C.1 4 dX10_order_33 rfl ?_
          obtain ⟨r_9, hc_10, h⟩ := bd_E h
          refine cl_X10_133 C ⟨Nat.le_of_ble_eq_true rfl, Nat.le_of_ble_eq_true rfl⟩ (m_X10_isDay _ _ _ M x4 hc_10) (Nat.le_of_ble_eq_true rfl) dX10_order_35 ?_
          refine r_if_eq C.1 55 dX10_order_38 (by decide) (fun c_11 => ?_) (fun c_11 => ?_)
          · replace h := ite_T c_11 h
            exact r_sub [0] rfl (w_X10_order_55 C M _ h hr ev eM)
          · replace h := ite_F c_11 h
            refine r_iload C.1 4 dX10_order_41 rfl ?_
            refine r_iload_n C.1 3 dX10_order_43 rfl rfl ?_
            refine r_icmp_lt C.1 55 dX10_order_44 (by decide) (fun c_12 => ?_) (fun c_12 => ?_)
            · replace h := ite_T c_12 h
              exact r_sub [0] rfl (w_X10_order_55 C M _ h hr ev eM)
            · replace h := ite_F c_12 h
              refine r_iload C.1 5 dX10_order_47 rfl ?_
              obtain ⟨r_13, hc_14, h⟩ := bd_E h
              refine cl_X10_151 C ⟨Nat.le_of_ble_eq_true rfl, Nat.le_of_ble_eq_true rfl⟩ (m_X10_isAmount _ _ _ M x5 hc_14) (Nat.le_of_ble_eq_true rfl) dX10_order_49 ?_
              refine r_if_ne C.1 61 dX10_order_52 (by decide) (fun c_15 => ?_) (fun c_15 => ?_)
              · replace h := ite_F c_15 h
                refine r_aload_n C.1 0 dX10_order_61 rfl rfl ?_
                refine gf_X10_26 C dX10_order_62 ?_
                refine gf_X10_120_17 C dX10_order_65 ?_
                refine r_iload_n C.1 1 dX10_order_68 rfl rfl ?_
                obtain ⟨q_16, h⟩ := gd_E h
                refine r_aldq C.1 (cK C (by decide)) (cS C (sh_20)) 2 (cT2 C) q_16 (y := x_ad x (25 + 5 * x1.toNatClampNeg)) rfl dX10_order_69 ?_
                refine r_iload_n C.1 3 dX10_order_70 rfl rfl ?_
                obtain ⟨r_17, hc_18, h⟩ := bd_E h
                refine cl_X10_136 C (kW_17 (vp_lt q_16)) ⟨Nat.le_of_ble_eq_true rfl, Nat.le_of_ble_eq_true rfl⟩ (m_X8_isShutOn _ _ _ M (25 + 5 * x1.toNatClampNeg) x3 (kW_17 (vp_lt q_16)) hc_18) (Nat.le_of_ble_eq_true rfl) dX10_order_71 ?_
                refine r_if_eq C.1 83 dX10_order_74 (by decide) (fun c_19 => ?_) (fun c_19 => ?_)
                · replace h := ite_T c_19 h
                  refine r_aload_n C.1 0 dX10_order_83 rfl rfl ?_
                  refine gf_X10_26 C dX10_order_84 ?_
                  refine gf_X10_169_17 C dX10_order_87 ?_
                  refine r_bipush (v := 12) C.1 dX10_order_90 (by decide) ?_
                  refine r_icmp_lt C.1 101 dX10_order_92 (by decide) (fun c_20 => ?_) (fun c_20 => ?_)
                  · replace h := ite_T c_20 h
                    refine r_aload_n C.1 0 dX10_order_101 rfl rfl ?_
                    refine gf_X10_26 C dX10_order_102 ?_
                    refine gf_X10_172_17 C dX10_order_105 ?_
                    refine r_aload_n C.1 0 dX10_order_108 rfl rfl ?_
                    refine gf_X10_26 C dX10_order_109 ?_
                    refine gf_X10_169_17 C dX10_order_112 ?_
                    obtain ⟨q_21, h⟩ := gd_E h
                    refine r_aldq C.1 (cK C (by decide)) (cS C (sh_22)) 4 (cT4 C) q_21 (y := x_ad x (85 + (M 17 7).toNatClampNeg)) rfl dX10_order_115 ?_
                    refine r_iload_n C.1 1 dX10_order_116 rfl rfl ?_
                    refine r_iload_n C.1 2 dX10_order_117 rfl rfl ?_
                    refine r_iload_n C.1 3 dX10_order_118 rfl rfl ?_
                    refine r_iload C.1 4 dX10_order_119 rfl ?_
                    refine r_iload C.1 5 dX10_order_121 rfl ?_
                    obtain ⟨M_24, hc_23, h⟩ := bd_E h
                    refine cl_X10_176 C (kO_17 (vp_lt q_21)) ⟨Nat.le_of_ble_eq_true rfl, Nat.le_of_ble_eq_true rfl⟩ (m_X3_tell _ _ _ M (85 + (M 17 7).toNatClampNeg) x1 x2 x3 x4 x5 (kO_17 (vp_lt q_21)) hc_23) (Nat.le_of_ble_eq_true rfl) dX10_order_123 ?_
                    refine r_aload_n C.1 0 dX10_order_126 rfl rfl ?_
                    refine gf_X10_26 C dX10_order_127 ?_
                    refine r_dup C.1 rfl dX10_order_130 ?_
                    refine gf_X10_169_17 C dX10_order_131 ?_
                    refine r_iconst (v := 1) C.1 dX10_order_134 rfl ?_
                    refine r_iadd C.1 dX10_order_135 ?_
                    obtain ⟨M_25, eM_25, h⟩ := lt_E h
                    refine pf_X10_169_17 C eM_25 dX10_order_136 ?_
                    refine r_aload_n C.1 0 dX10_order_139 rfl rfl ?_
                    refine gf_X10_26 C dX10_order_140 ?_
                    obtain ⟨M_28, hc_27, h⟩ := bd_E h
                    refine cl_X10_182 C ⟨Nat.le_of_ble_eq_true rfl, Nat.le_of_ble_eq_true rfl⟩ (m_X1_reckon _ _ _ M_25 hc_27) (Nat.le_of_ble_eq_true rfl) dX10_order_143 ?_
                    refine r_aload_n C.1 0 dX10_order_146 rfl rfl ?_
                    refine gf_X10_40 C dX10_order_147 ?_
                    refine r_iconst (v := 5) C.1 dX10_order_150 rfl ?_
                    refine r_iconst (v := 0) C.1 dX10_order_151 rfl ?_
                    refine r_iconst (v := 0) C.1 dX10_order_152 rfl ?_
                    obtain ⟨M_31, hc_30, h⟩ := bd_E h
                    refine cl_X10_110 C ⟨Nat.le_of_ble_eq_true rfl, Nat.le_of_ble_eq_true rfl⟩ (m_X0_note _ _ _ M_28 (5 : Int32) (0 : Int32) (0 : Int32) hc_30) (Nat.le_of_ble_eq_true rfl) dX10_order_153 ?_
                    refine r_aload_n C.1 0 dX10_order_156 rfl rfl ?_
                    refine gf_X10_26 C dX10_order_157 ?_
                    refine gf_X10_169_17 C dX10_order_160 ?_
                    obtain rfl := Option.some.inj h
                    exact r_iret C.1 hr ev eM dX10_order_163
                  · replace h := ite_F c_20 h
                    refine r_aload_n C.1 0 dX10_order_95 rfl rfl ?_
                    refine r_iconst (v := 4) C.1 dX10_order_96 rfl ?_
                    obtain ⟨r_32, M_34, hc_33, h⟩ := bd2_E h
                    refine cl_X10_100 C ⟨Nat.le_of_ble_eq_true rfl, Nat.le_of_ble_eq_true rfl⟩ (m_X10_refuse _ _ _ M (4 : Int32) hc_33) (Nat.le_of_ble_eq_true rfl) dX10_order_97 ?_
                    obtain rfl := Option.some.inj h
                    exact r_iret C.1 hr ev eM dX10_order_100
                · replace h := ite_F c_19 h
                  refine r_aload_n C.1 0 dX10_order_77 rfl rfl ?_
                  refine r_iconst (v := 2) C.1 dX10_order_78 rfl ?_
                  obtain ⟨r_35, M_37, hc_36, h⟩ := bd2_E h
                  refine cl_X10_100 C ⟨Nat.le_of_ble_eq_true rfl, Nat.le_of_ble_eq_true rfl⟩ (m_X10_refuse _ _ _ M (2 : Int32) hc_36) (Nat.le_of_ble_eq_true rfl) dX10_order_79 ?_
                  obtain rfl := Option.some.inj h
                  exact r_iret C.1 hr ev eM dX10_order_82
              · replace h := ite_T c_15 h
                exact r_sub [0] rfl (w_X10_order_55 C M _ h hr ev eM)
  · replace h := ite_T c_3 h
    refine r_aload_n C.1 0 dX10_order_11 rfl rfl ?_
    refine r_iconst (v := 0) C.1 dX10_order_12 rfl ?_
    obtain ⟨r_38, M_40, hc_39, h⟩ := bd2_E h
    refine cl_X10_100 C ⟨Nat.le_of_ble_eq_true rfl, Nat.le_of_ble_eq_true rfl⟩ (m_X10_refuse _ _ _ M (0 : Int32) hc_39) (Nat.le_of_ble_eq_true rfl) dX10_order_13 ?_
    obtain rfl := Option.some.inj h
    exact r_iret C.1 hr ev eM dX10_order_16
def f_X10_order (M : xM) (x1 : Int32) (x2 : Int32) (x3 : Int32) (x4 : Int32) (x5 : Int32) : Option (Int32 × xM) := b_X10_order_0 M x1 x2 x3 x4 x5
set_option maxRecDepth 20000 in
theorem m_X10_order (l : Launch) (D : va_G) (ad : Nat → Nat) (M : xM) (x1 : Int32) (x2 : Int32) (x3 : Int32) (x4 : Int32) (x5 : Int32)  {r : Int32} {M1 : xM} (h : f_X10_order M x1 x2 x3 x4 x5 = some (r, M1)) : xMetC l yX10_order cX10_order 6 (some .int) ({ frames := 4, cells := 0, slots := 0, locals := 90 } : Room) [.ref (ad 0), .int x1, .int x2, .int x3, .int x4, .int x5] D ad M (some (.int r)) M1 := by
  refine xMetC_of (own := RX10) (by decide) rfl (Nat.le_of_ble_eq_true rfl) ?_
  intro x C e1 e2 e3 ev eM hr
  subst e1; subst e2; subst e3
  refine r_sub (L := [(0, .ref (x_ad x 0)), (1, .int x1), (2, .int x2), (3, .int x3), (4, .int x4), (5, .int x5)]) (L' := [(0, .ref (x_ad x 0)), (1, .int x1), (2, .int x2), (3, .int x3), (4, .int x4), (5, .int x5)]) [0, 1, 2, 3, 4, 5] rfl ?_
  exact w_X10_order_0 C M x1 x2 x3 x4 x5 _ h hr ev eM

def b_X10_ratify_0 (M : xM) (x1 : Int32) : Option (Int32 × xM) :=
  bd (f_X1_isPayment M x1) (fun r_1 => if r_1 = 0 then bd2 (f_X10_refuse M (0 : Int32)) (fun r_25 M_27 => some (r_25, M_27)) else gd x1 40 (gd (M (45 + x1.toNatClampNeg) 1) 4 (bd (f_X8_isShutOn M (25 + 5 * (M (45 + x1.toNatClampNeg) 1).toNatClampNeg) (M (45 + x1.toNatClampNeg) 2)) (fun r_6 => if r_6 = 0 then if (M (45 + x1.toNatClampNeg) 7) = 0 then bd (f_X2_part M (45 + x1.toNatClampNeg) (3 : Int32)) (fun r_10 => lt (uM M (45 + x1.toNatClampNeg) 7 (1 : Int32)) (fun M_12 => bd (f_X1_reckon M_12) (fun M_15 => bd (f_X0_note M_15 (6 : Int32) x1 (0 : Int32)) (fun M_18 => some (r_10, M_18))))) else bd2 (f_X10_refuse M (3 : Int32)) (fun r_19 M_21 => some (r_19, M_21)) else bd2 (f_X10_refuse M (2 : Int32)) (fun r_22 M_24 => some (r_22, M_24))))))
set_option maxRecDepth 20000 in
set_option maxHeartbeats 2000000 in
theorem w_X10_ratify_0 {x : xC} (C : CtC x RX10 cX10_ratify 4 ({ frames := 4, cells := 0, slots := 0, locals := 90 } : Room)) (M : xM) (x1 : Int32)  (o : Int32 × xM) (h : b_X10_ratify_0 M x1 = some o) (hr : (x_me x).sig.returnType = some .int) (ev : x_rv x = some (.int o.1)) (eM : x_M x = o.2) : J x M 0 [(0, .ref (x_ad x 0)), (1, .int x1)] [] := by
  unfold b_X10_ratify_0 at h
  refine r_aload_n C.1 0 dX10_ratify_0 rfl rfl ?_
  refine gf_X10_26 C dX10_ratify_1 ?_
  refine r_iload_n C.1 1 dX10_ratify_4 rfl rfl ?_
  obtain ⟨r_1, hc_2, h⟩ := bd_E h
  refine cl_X10_185 C ⟨Nat.le_of_ble_eq_true rfl, Nat.le_of_ble_eq_true rfl⟩ (m_X1_isPayment _ _ _ M x1 hc_2) (Nat.le_of_ble_eq_true rfl) dX10_ratify_5 ?_
  refine r_if_ne C.1 17 dX10_ratify_8 (by decide) (fun c_3 => ?_) (fun c_3 => ?_)
  · replace h := ite_F c_3 h
    refine r_aload_n C.1 0 dX10_ratify_17 rfl rfl ?_
    refine gf_X10_26 C dX10_ratify_18 ?_
    refine gf_X10_188_17 C dX10_ratify_21 ?_
    refine r_iload_n C.1 1 dX10_ratify_24 rfl rfl ?_
    obtain ⟨q_4, h⟩ := gd_E h
    refine r_aldq C.1 (cK C (by decide)) (cS C (sh_21)) 3 (cT3 C) q_4 (y := x_ad x (45 + x1.toNatClampNeg)) rfl dX10_ratify_25 ?_
    refine r_astore_n C.1 [(2, .ref (x_ad x (45 + x1.toNatClampNeg))), (0, .ref (x_ad x 0)), (1, .int x1)] dX10_ratify_26 rfl (by decide) rfl ?_
    refine r_aload_n C.1 1 dX10_ratify_27 rfl rfl ?_
    refine gf_X10_26 C dX10_ratify_28 ?_
    refine gf_X10_120_17 C dX10_ratify_31 ?_
    refine r_aload_n C.1 0 dX10_ratify_34 rfl rfl ?_
    refine gfk_X10_192 C (kE_17 (vp_lt q_4)) dX10_ratify_35 ?_
    obtain ⟨q_5, h⟩ := gd_E h
    refine r_aldq C.1 (cK C (by decide)) (cS C (sh_20)) 2 (cT2 C) q_5 (y := x_ad x (25 + 5 * (M (45 + x1.toNatClampNeg) 1).toNatClampNeg)) rfl dX10_ratify_38 ?_
    refine r_aload_n C.1 0 dX10_ratify_39 rfl rfl ?_
    refine gfk_X10_196 C (kE_17 (vp_lt q_4)) dX10_ratify_40 ?_
    obtain ⟨r_6, hc_7, h⟩ := bd_E h
    refine cl_X10_136 C (kW_17 (vp_lt q_5)) ⟨Nat.le_of_ble_eq_true rfl, Nat.le_of_ble_eq_true rfl⟩ (m_X8_isShutOn _ _ _ M (25 + 5 * (M (45 + x1.toNatClampNeg) 1).toNatClampNeg) (M (45 + x1.toNatClampNeg) 2) (kW_17 (vp_lt q_5)) hc_7) (Nat.le_of_ble_eq_true rfl) dX10_ratify_43 ?_
    refine r_if_eq C.1 55 dX10_ratify_46 (by decide) (fun c_8 => ?_) (fun c_8 => ?_)
    · replace h := ite_T c_8 h
      refine r_aload_n C.1 0 dX10_ratify_55 rfl rfl ?_
      refine gfk_X10_199 C (kE_17 (vp_lt q_4)) dX10_ratify_56 ?_
      refine r_if_eq C.1 68 dX10_ratify_59 (by decide) (fun c_9 => ?_) (fun c_9 => ?_)
      · replace h := ite_T c_9 h
        refine r_aload_n C.1 0 dX10_ratify_68 rfl rfl ?_
        refine r_iconst (v := 3) C.1 dX10_ratify_69 rfl ?_
        obtain ⟨r_10, hc_11, h⟩ := bd_E h
        refine cl_X10_202 C (kE_17 (vp_lt q_4)) ⟨Nat.le_of_ble_eq_true rfl, Nat.le_of_ble_eq_true rfl⟩ (m_X2_part _ _ _ M (45 + x1.toNatClampNeg) (3 : Int32) (kE_17 (vp_lt q_4)) hc_11) (Nat.le_of_ble_eq_true rfl) dX10_ratify_70 ?_
        refine r_istore_n C.1 [(3, .int r_10), (2, .ref (x_ad x (45 + x1.toNatClampNeg))), (0, .ref (x_ad x 0)), (1, .int x1)] dX10_ratify_73 rfl (by decide) rfl rfl ?_
        refine r_aload_n C.1 1 dX10_ratify_74 rfl rfl ?_
        refine r_iconst (v := 1) C.1 dX10_ratify_75 rfl ?_
        obtain ⟨M_12, eM_12, h⟩ := lt_E h
        refine pfk_X10_199 C (kE_17 (vp_lt q_4)) (by decide) eM_12 dX10_ratify_76 ?_
        refine r_aload_n C.1 2 dX10_ratify_79 rfl rfl ?_
        refine gf_X10_26 C dX10_ratify_80 ?_
        obtain ⟨M_15, hc_14, h⟩ := bd_E h
        refine cl_X10_182 C ⟨Nat.le_of_ble_eq_true rfl, Nat.le_of_ble_eq_true rfl⟩ (m_X1_reckon _ _ _ M_12 hc_14) (Nat.le_of_ble_eq_true rfl) dX10_ratify_83 ?_
        refine r_aload_n C.1 2 dX10_ratify_86 rfl rfl ?_
        refine gf_X10_40 C dX10_ratify_87 ?_
        refine r_bipush (v := 6) C.1 dX10_ratify_90 (by decide) ?_
        refine r_iload_n C.1 3 dX10_ratify_92 rfl rfl ?_
        refine r_iconst (v := 0) C.1 dX10_ratify_93 rfl ?_
        obtain ⟨M_18, hc_17, h⟩ := bd_E h
        refine cl_X10_110 C ⟨Nat.le_of_ble_eq_true rfl, Nat.le_of_ble_eq_true rfl⟩ (m_X0_note _ _ _ M_15 (6 : Int32) x1 (0 : Int32) hc_17) (Nat.le_of_ble_eq_true rfl) dX10_ratify_94 ?_
        refine r_iload_n C.1 0 dX10_ratify_97 rfl rfl ?_
        obtain rfl := Option.some.inj h
        exact r_iret C.1 hr ev eM dX10_ratify_98
      · replace h := ite_F c_9 h
        refine r_aload_n C.1 1 dX10_ratify_62 rfl rfl ?_
        refine r_iconst (v := 3) C.1 dX10_ratify_63 rfl ?_
        obtain ⟨r_19, M_21, hc_20, h⟩ := bd2_E h
        refine cl_X10_100 C ⟨Nat.le_of_ble_eq_true rfl, Nat.le_of_ble_eq_true rfl⟩ (m_X10_refuse _ _ _ M (3 : Int32) hc_20) (Nat.le_of_ble_eq_true rfl) dX10_ratify_64 ?_
        obtain rfl := Option.some.inj h
        exact r_iret C.1 hr ev eM dX10_ratify_67
    · replace h := ite_F c_8 h
      refine r_aload_n C.1 1 dX10_ratify_49 rfl rfl ?_
      refine r_iconst (v := 2) C.1 dX10_ratify_50 rfl ?_
      obtain ⟨r_22, M_24, hc_23, h⟩ := bd2_E h
      refine cl_X10_100 C ⟨Nat.le_of_ble_eq_true rfl, Nat.le_of_ble_eq_true rfl⟩ (m_X10_refuse _ _ _ M (2 : Int32) hc_23) (Nat.le_of_ble_eq_true rfl) dX10_ratify_51 ?_
      obtain rfl := Option.some.inj h
      exact r_iret C.1 hr ev eM dX10_ratify_54
  · replace h := ite_T c_3 h
    refine r_aload_n C.1 0 dX10_ratify_11 rfl rfl ?_
    refine r_iconst (v := 0) C.1 dX10_ratify_12 rfl ?_
    obtain ⟨r_25, M_27, hc_26, h⟩ := bd2_E h
    refine cl_X10_100 C ⟨Nat.le_of_ble_eq_true rfl, Nat.le_of_ble_eq_true rfl⟩ (m_X10_refuse _ _ _ M (0 : Int32) hc_26) (Nat.le_of_ble_eq_true rfl) dX10_ratify_13 ?_
    obtain rfl := Option.some.inj h
    exact r_iret C.1 hr ev eM dX10_ratify_16
def f_X10_ratify (M : xM) (x1 : Int32) : Option (Int32 × xM) := b_X10_ratify_0 M x1
set_option maxRecDepth 20000 in
theorem m_X10_ratify (l : Launch) (D : va_G) (ad : Nat → Nat) (M : xM) (x1 : Int32)  {r : Int32} {M1 : xM} (h : f_X10_ratify M x1 = some (r, M1)) : xMetC l yX10_ratify cX10_ratify 4 (some .int) ({ frames := 4, cells := 0, slots := 0, locals := 90 } : Room) [.ref (ad 0), .int x1] D ad M (some (.int r)) M1 := by
  refine xMetC_of (own := RX10) (by decide) rfl (Nat.le_of_ble_eq_true rfl) ?_
  intro x C e1 e2 e3 ev eM hr
  subst e1; subst e2; subst e3
  refine r_sub (L := [(0, .ref (x_ad x 0)), (1, .int x1)]) (L' := [(0, .ref (x_ad x 0)), (1, .int x1)]) [0, 1] rfl ?_
  exact w_X10_ratify_0 C M x1 _ h hr ev eM

def b_X10_chargeOf_0 (M : xM) (x1 : Int32) (x2 : Int32) : Option (Int32 × xM) :=
  gd x1 4 (if (M (25 + 5 * x1.toNatClampNeg) 5) ≤ x2 then bd (f_X9_look M x1 x2) (fun M_5 => gd (4 : Int32) 7 (bd (f_X9_chargeAt M_5 (M_5 18 (4 : Int32).toNatClampNeg)) (fun r_7 => some (r_7, M_5)))) else gd x1 4 (gd x2 10 (some (M ((25 + 5 * x1.toNatClampNeg) + 3) x2.toNatClampNeg, M))))
set_option maxRecDepth 20000 in
set_option maxHeartbeats 2000000 in
theorem w_X10_chargeOf_0 {x : xC} (C : CtC x RX10 cX10_chargeOf 3 ({ frames := 4, cells := 0, slots := 0, locals := 100 } : Room)) (M : xM) (x1 : Int32) (x2 : Int32)  (o : Int32 × xM) (h : b_X10_chargeOf_0 M x1 x2 = some o) (hr : (x_me x).sig.returnType = some .int) (ev : x_rv x = some (.int o.1)) (eM : x_M x = o.2) : J x M 0 [(0, .ref (x_ad x 0)), (1, .int x1), (2, .int x2)] [] := by
  unfold b_X10_chargeOf_0 at h
  refine r_iload_n C.1 2 dX10_chargeOf_0 rfl rfl ?_
  refine r_aload_n C.1 0 dX10_chargeOf_1 rfl rfl ?_
  refine gf_X10_26 C dX10_chargeOf_2 ?_
  refine gf_X10_120_17 C dX10_chargeOf_5 ?_
  refine r_iload_n C.1 1 dX10_chargeOf_8 rfl rfl ?_
  obtain ⟨q_1, h⟩ := gd_E h
  refine r_aldq C.1 (cK C (by decide)) (cS C (sh_20)) 2 (cT2 C) q_1 (y := x_ad x (25 + 5 * x1.toNatClampNeg)) rfl dX10_chargeOf_9 ?_
  refine gfk_X10_208 C (kW_17 (vp_lt q_1)) dX10_chargeOf_10 ?_
  refine r_icmp_ge C.1 31 dX10_chargeOf_13 (by decide) (fun c_2 => ?_) (fun c_2 => ?_)
  · replace h := ite_T c_2 h
    refine r_aload_n C.1 0 dX10_chargeOf_31 rfl rfl ?_
    refine gf_X10_51 C dX10_chargeOf_32 ?_
    refine r_aload_n C.1 0 dX10_chargeOf_35 rfl rfl ?_
    refine gf_X10_26 C dX10_chargeOf_36 ?_
    refine r_iload_n C.1 1 dX10_chargeOf_39 rfl rfl ?_
    refine r_iload_n C.1 2 dX10_chargeOf_40 rfl rfl ?_
    obtain ⟨M_5, hc_4, h⟩ := bd_E h
    refine cl_X10_286 C ⟨Nat.le_of_ble_eq_true rfl, Nat.le_of_ble_eq_true rfl⟩ (m_X9_look _ _ _ M x1 x2 hc_4) (Nat.le_of_ble_eq_true rfl) dX10_chargeOf_41 ?_
    refine r_aload_n C.1 0 dX10_chargeOf_44 rfl rfl ?_
    refine gf_X10_51 C dX10_chargeOf_45 ?_
    refine r_aload_n C.1 0 dX10_chargeOf_48 rfl rfl ?_
    refine gf_X10_26 C dX10_chargeOf_49 ?_
    refine gf_X10_94_17 C dX10_chargeOf_52 ?_
    refine r_iconst (v := 4) C.1 dX10_chargeOf_55 rfl ?_
    obtain ⟨q_6, h⟩ := gd_E h
    refine r_iald C.1 (cK C (by decide)) (cS C (sh_18)) 0 (cT0 C) q_6 dX10_chargeOf_56 ?_
    obtain ⟨r_7, hc_8, h⟩ := bd_E h
    refine cl_X10_405 C ⟨Nat.le_of_ble_eq_true rfl, Nat.le_of_ble_eq_true rfl⟩ (m_X9_chargeAt _ _ _ M_5 (M_5 18 (4 : Int32).toNatClampNeg) hc_8) (Nat.le_of_ble_eq_true rfl) dX10_chargeOf_57 ?_
    obtain rfl := Option.some.inj h
    exact r_iret C.1 hr ev eM dX10_chargeOf_60
  · replace h := ite_F c_2 h
    refine r_aload_n C.1 0 dX10_chargeOf_16 rfl rfl ?_
    refine gf_X10_26 C dX10_chargeOf_17 ?_
    refine gf_X10_120_17 C dX10_chargeOf_20 ?_
    refine r_iload_n C.1 1 dX10_chargeOf_23 rfl rfl ?_
    obtain ⟨q_9, h⟩ := gd_E h
    refine r_aldq C.1 (cK C (by decide)) (cS C (sh_20)) 2 (cT2 C) q_9 (y := x_ad x (25 + 5 * x1.toNatClampNeg)) rfl dX10_chargeOf_24 ?_
    refine gfk_X10_211 C (kW_17 (vp_lt q_9)) dX10_chargeOf_25 ?_
    refine r_iload_n C.1 2 dX10_chargeOf_28 rfl rfl ?_
    obtain ⟨q_10, h⟩ := gd_E h
    refine r_iald C.1 (cK C (kW3 (kW_17 (vp_lt q_9)))) (cS C (sh_W3 (kW_17 (vp_lt q_9)))) 0 (cT0 C) q_10 dX10_chargeOf_29 ?_
    obtain rfl := Option.some.inj h
    exact r_iret C.1 hr ev eM dX10_chargeOf_30
def f_X10_chargeOf (M : xM) (x1 : Int32) (x2 : Int32) : Option (Int32 × xM) := b_X10_chargeOf_0 M x1 x2
set_option maxRecDepth 20000 in
theorem m_X10_chargeOf (l : Launch) (D : va_G) (ad : Nat → Nat) (M : xM) (x1 : Int32) (x2 : Int32)  {r : Int32} {M1 : xM} (h : f_X10_chargeOf M x1 x2 = some (r, M1)) : xMetC l yX10_chargeOf cX10_chargeOf 3 (some .int) ({ frames := 4, cells := 0, slots := 0, locals := 100 } : Room) [.ref (ad 0), .int x1, .int x2] D ad M (some (.int r)) M1 := by
  refine xMetC_of (own := RX10) (by decide) rfl (Nat.le_of_ble_eq_true rfl) ?_
  intro x C e1 e2 e3 ev eM hr
  subst e1; subst e2; subst e3
  refine r_sub (L := [(0, .ref (x_ad x 0)), (1, .int x1), (2, .int x2)]) (L' := [(0, .ref (x_ad x 0)), (1, .int x1), (2, .int x2)]) [0, 1, 2] rfl ?_
  exact w_X10_chargeOf_0 C M x1 x2 _ h hr ev eM

def b_X10_commissionOf_0 (M : xM) (x1 : Int32) (x2 : Int32) : Option (Int32) :=
  gd x1 4 (if (M (25 + 5 * x1.toNatClampNeg) 5) ≤ x2 then bd (f_X10_firstDay M x2) (fun r_3 => bd (f_X10_lastDay M x2) (fun r_5 => bd (f_X1_partOf M x1 r_3 r_5 (1 : Int32)) (fun r_7 => gd (5 : Int32) 7 (some (((r_7.toInt64 * ((M 18 (5 : Int32).toNatClampNeg).toInt64)) / (1000 : Int64)).toInt32))))) else gd x1 4 (gd x2 10 (some (M ((25 + 5 * x1.toNatClampNeg) + 4) x2.toNatClampNeg))))
set_option maxRecDepth 20000 in
set_option maxHeartbeats 2000000 in
theorem w_X10_commissionOf_0 {x : xC} (C : CtC x RX10 cX10_commissionOf 5 ({ frames := 2, cells := 0, slots := 0, locals := 48 } : Room)) (M : xM) (x1 : Int32) (x2 : Int32)  (o : Int32) (h : b_X10_commissionOf_0 M x1 x2 = some o) (hr : (x_me x).sig.returnType = some .int) (ev : x_rv x = some (.int o)) (eM : x_M x = M) : J x M 0 [(0, .ref (x_ad x 0)), (1, .int x1), (2, .int x2)] [] := by
  unfold b_X10_commissionOf_0 at h
  refine r_iload_n C.1 2 dX10_commissionOf_0 rfl rfl ?_
  refine r_aload_n C.1 0 dX10_commissionOf_1 rfl rfl ?_
  refine gf_X10_26 C dX10_commissionOf_2 ?_
  refine gf_X10_120_17 C dX10_commissionOf_5 ?_
  refine r_iload_n C.1 1 dX10_commissionOf_8 rfl rfl ?_
  obtain ⟨q_1, h⟩ := gd_E h
  refine r_aldq C.1 (cK C (by decide)) (cS C (sh_20)) 2 (cT2 C) q_1 (y := x_ad x (25 + 5 * x1.toNatClampNeg)) rfl dX10_commissionOf_9 ?_
  refine gfk_X10_208 C (kW_17 (vp_lt q_1)) dX10_commissionOf_10 ?_
  refine r_icmp_ge C.1 31 dX10_commissionOf_13 (by decide) (fun c_2 => ?_) (fun c_2 => ?_)
  · replace h := ite_T c_2 h
    refine r_aload_n C.1 0 dX10_commissionOf_31 rfl rfl ?_
    refine gf_X10_26 C dX10_commissionOf_32 ?_
    refine r_iload_n C.1 1 dX10_commissionOf_35 rfl rfl ?_
    refine r_iload_n C.1 2 dX10_commissionOf_36 rfl rfl ?_
    obtain ⟨r_3, hc_4, h⟩ := bd_E h
    refine cl_X10_279 C ⟨Nat.le_of_ble_eq_true rfl, Nat.le_of_ble_eq_true rfl⟩ (m_X10_firstDay _ _ _ M x2 hc_4) (Nat.le_of_ble_eq_true rfl) dX10_commissionOf_37 ?_
    refine r_iload_n C.1 2 dX10_commissionOf_40 rfl rfl ?_
    obtain ⟨r_5, hc_6, h⟩ := bd_E h
    refine cl_X10_223 C ⟨Nat.le_of_ble_eq_true rfl, Nat.le_of_ble_eq_true rfl⟩ (m_X10_lastDay _ _ _ M x2 hc_6) (Nat.le_of_ble_eq_true rfl) dX10_commissionOf_41 ?_
    refine r_iconst (v := 1) C.1 dX10_commissionOf_44 rfl ?_
    obtain ⟨r_7, hc_8, h⟩ := bd_E h
    refine cl_X10_282 C ⟨Nat.le_of_ble_eq_true rfl, Nat.le_of_ble_eq_true rfl⟩ (m_X1_partOf _ _ _ M x1 r_3 r_5 (1 : Int32) hc_8) (Nat.le_of_ble_eq_true rfl) dX10_commissionOf_45 ?_
    refine r_i2l C.1 dX10_commissionOf_48 ?_
    refine r_lstore_n C.1 [(3, .long r_7.toInt64), (0, .ref (x_ad x 0)), (1, .int x1), (2, .int x2)] dX10_commissionOf_49 rfl (by decide) rfl rfl ?_
    refine r_lload_n C.1 0 dX10_commissionOf_50 rfl rfl ?_
    refine r_aload_n C.1 1 dX10_commissionOf_51 rfl rfl ?_
    refine gf_X10_26 C dX10_commissionOf_52 ?_
    refine gf_X10_94_17 C dX10_commissionOf_55 ?_
    refine r_iconst (v := 5) C.1 dX10_commissionOf_58 rfl ?_
    obtain ⟨q_9, h⟩ := gd_E h
    refine r_iald C.1 (cK C (by decide)) (cS C (sh_18)) 0 (cT0 C) q_9 dX10_commissionOf_59 ?_
    refine r_i2l C.1 dX10_commissionOf_60 ?_
    refine r_lmul C.1 dX10_commissionOf_61 ?_
    refine r_ldc2 (v := 1000) C.1 kw_709 dX10_commissionOf_62 ?_
    refine r_ldiv C.1 (by decide) dX10_commissionOf_65 ?_
    refine r_l2i C.1 dX10_commissionOf_66 ?_
    obtain rfl := Option.some.inj h
    exact r_iret C.1 hr ev eM dX10_commissionOf_67
  · replace h := ite_F c_2 h
    refine r_aload_n C.1 0 dX10_commissionOf_16 rfl rfl ?_
    refine gf_X10_26 C dX10_commissionOf_17 ?_
    refine gf_X10_120_17 C dX10_commissionOf_20 ?_
    refine r_iload_n C.1 1 dX10_commissionOf_23 rfl rfl ?_
    obtain ⟨q_10, h⟩ := gd_E h
    refine r_aldq C.1 (cK C (by decide)) (cS C (sh_20)) 2 (cT2 C) q_10 (y := x_ad x (25 + 5 * x1.toNatClampNeg)) rfl dX10_commissionOf_24 ?_
    refine gfk_X10_217 C (kW_17 (vp_lt q_10)) dX10_commissionOf_25 ?_
    refine r_iload_n C.1 2 dX10_commissionOf_28 rfl rfl ?_
    obtain ⟨q_11, h⟩ := gd_E h
    refine r_iald C.1 (cK C (kW4 (kW_17 (vp_lt q_10)))) (cS C (sh_W4 (kW_17 (vp_lt q_10)))) 0 (cT0 C) q_11 dX10_commissionOf_29 ?_
    obtain rfl := Option.some.inj h
    exact r_iret C.1 hr ev eM dX10_commissionOf_30
def f_X10_commissionOf (M : xM) (x1 : Int32) (x2 : Int32) : Option (Int32) := b_X10_commissionOf_0 M x1 x2
set_option maxRecDepth 20000 in
theorem m_X10_commissionOf (l : Launch) (D : va_G) (ad : Nat → Nat) (M : xM) (x1 : Int32) (x2 : Int32)  {o : Int32} (h : f_X10_commissionOf M x1 x2 = some o) : xMetC l yX10_commissionOf cX10_commissionOf 5 (some .int) ({ frames := 2, cells := 0, slots := 0, locals := 48 } : Room) [.ref (ad 0), .int x1, .int x2] D ad M (some (.int o)) M := by
  refine xMetC_of (own := RX10) (by decide) rfl (Nat.le_of_ble_eq_true rfl) ?_
  intro x C e1 e2 e3 ev eM hr
  subst e1; subst e2; subst e3
  refine r_sub (L := [(0, .ref (x_ad x 0)), (1, .int x1), (2, .int x2)]) (L' := [(0, .ref (x_ad x 0)), (1, .int x1), (2, .int x2)]) [0, 1, 2] rfl ?_
  exact w_X10_commissionOf_0 C M x1 x2 _ h hr ev eM

def b_X10_close_0 (M : xM) (x1 : Int32) : Option (Int32 × xM) :=
  bd (f_X1_hasWard M x1) (fun r_1 => if r_1 = 0 then bd2 (f_X10_refuse M (0 : Int32)) (fun r_33 M_35 => some (r_33, M_35)) else gd x1 4 (if (M (25 + 5 * x1.toNatClampNeg) 6) = 0 then lt (M (25 + 5 * x1.toNatClampNeg) 5) (fun y_6 => if y_6 < (10 : Int32) then bd2 (f_X10_chargeOf M x1 y_6) (fun r_8 M_10 => gd y_6 10 (lt (uM M_10 ((25 + 5 * x1.toNatClampNeg) + 3) y_6.toNatClampNeg r_8) (fun M_12 => bd (f_X10_commissionOf M_12 x1 y_6) (fun r_13 => gd y_6 10 (lt (uM M_12 ((25 + 5 * x1.toNatClampNeg) + 4) y_6.toNatClampNeg r_13) (fun M_16 => lt (uM M_16 (25 + 5 * x1.toNatClampNeg) 5 ((M_16 (25 + 5 * x1.toNatClampNeg) 5) + (1 : Int32))) (fun M_17 => bd (f_X0_note M_17 (7 : Int32) x1 (0 : Int32)) (fun M_20 => bd (f_X10_lastDay M_20 y_6) (fun r_21 => bd (f_X1_moneyOn M_20 x1 r_21) (fun r_23 => bd (f_X8_broughtBy M_20 (25 + 5 * x1.toNatClampNeg) y_6) (fun r_25 => some (r_23 + r_25, M_20)))))))))))) else bd2 (f_X10_refuse M (3 : Int32)) (fun r_27 M_29 => some (r_27, M_29))) else bd2 (f_X10_refuse M (2 : Int32)) (fun r_30 M_32 => some (r_30, M_32))))
set_option maxRecDepth 20000 in
set_option maxHeartbeats 2000000 in
theorem w_X10_close_0 {x : xC} (C : CtC x RX10 cX10_close 4 ({ frames := 5, cells := 0, slots := 0, locals := 122 } : Room)) (M : xM) (x1 : Int32)  (o : Int32 × xM) (h : b_X10_close_0 M x1 = some o) (hr : (x_me x).sig.returnType = some .int) (ev : x_rv x = some (.int o.1)) (eM : x_M x = o.2) : J x M 0 [(0, .ref (x_ad x 0)), (1, .int x1)] [] := by
  unfold b_X10_close_0 at h
  refine r_aload_n C.1 0 dX10_close_0 rfl rfl ?_
  refine gf_X10_26 C dX10_close_1 ?_
  refine r_iload_n C.1 1 dX10_close_4 rfl rfl ?_
  obtain ⟨r_1, hc_2, h⟩ := bd_E h
  refine cl_X10_130 C ⟨Nat.le_of_ble_eq_true rfl, Nat.le_of_ble_eq_true rfl⟩ (m_X1_hasWard _ _ _ M x1 hc_2) (Nat.le_of_ble_eq_true rfl) dX10_close_5 ?_
  refine r_if_ne C.1 17 dX10_close_8 (by decide) (fun c_3 => ?_) (fun c_3 => ?_)
  · replace h := ite_F c_3 h
    refine r_aload_n C.1 0 dX10_close_17 rfl rfl ?_
    refine gf_X10_26 C dX10_close_18 ?_
    refine gf_X10_120_17 C dX10_close_21 ?_
    refine r_iload_n C.1 1 dX10_close_24 rfl rfl ?_
    obtain ⟨q_4, h⟩ := gd_E h
    refine r_aldq C.1 (cK C (by decide)) (cS C (sh_20)) 2 (cT2 C) q_4 (y := x_ad x (25 + 5 * x1.toNatClampNeg)) rfl dX10_close_25 ?_
    refine r_astore_n C.1 [(2, .ref (x_ad x (25 + 5 * x1.toNatClampNeg))), (0, .ref (x_ad x 0)), (1, .int x1)] dX10_close_26 rfl (by decide) rfl ?_
    refine r_aload_n C.1 0 dX10_close_27 rfl rfl ?_
    refine gfk_X10_205 C (kW_17 (vp_lt q_4)) dX10_close_28 ?_
    refine r_if_eq C.1 40 dX10_close_31 (by decide) (fun c_5 => ?_) (fun c_5 => ?_)
    · replace h := ite_T c_5 h
      refine r_aload_n C.1 0 dX10_close_40 rfl rfl ?_
      refine gfk_X10_208 C (kW_17 (vp_lt q_4)) dX10_close_41 ?_
      obtain ⟨y_6, ey_6, h⟩ := lt_E h
      refine r_istore_n C.1 [(3, .int y_6), (2, .ref (x_ad x (25 + 5 * x1.toNatClampNeg))), (0, .ref (x_ad x 0)), (1, .int x1)] dX10_close_44 rfl (by decide) ey_6 rfl ?_
      refine r_iload_n C.1 0 dX10_close_45 rfl rfl ?_
      refine r_bipush (v := 10) C.1 dX10_close_46 (by decide) ?_
      refine r_icmp_lt C.1 57 dX10_close_48 (by decide) (fun c_7 => ?_) (fun c_7 => ?_)
      · replace h := ite_T c_7 h
        refine r_aload_n C.1 1 dX10_close_57 rfl rfl ?_
        refine gfk_X10_211 C (kW_17 (vp_lt q_4)) dX10_close_58 ?_
        refine r_iload_n C.1 0 dX10_close_61 rfl rfl ?_
        refine r_aload_n C.1 2 dX10_close_62 rfl rfl ?_
        refine r_iload_n C.1 3 dX10_close_63 rfl rfl ?_
        refine r_iload_n C.1 0 dX10_close_64 rfl rfl ?_
        obtain ⟨r_8, M_10, hc_9, h⟩ := bd2_E h
        refine cl_X10_214 C ⟨Nat.le_of_ble_eq_true rfl, Nat.le_of_ble_eq_true rfl⟩ (m_X10_chargeOf _ _ _ M x1 y_6 hc_9) (Nat.le_of_ble_eq_true rfl) dX10_close_65 ?_
        obtain ⟨q_11, h⟩ := gd_E h
        obtain ⟨M_12, eM_12, h⟩ := lt_E h
        refine r_iast C.1 (cK C (kW3 (kW_17 (vp_lt q_4)))) (cS C (sh_W3 (kW_17 (vp_lt q_4)))) 0 (cT0 C) q_11 eM_12 dX10_close_68 ?_
        refine r_aload_n C.1 1 dX10_close_69 rfl rfl ?_
        refine gfk_X10_217 C (kW_17 (vp_lt q_4)) dX10_close_70 ?_
        refine r_iload_n C.1 0 dX10_close_73 rfl rfl ?_
        refine r_aload_n C.1 2 dX10_close_74 rfl rfl ?_
        refine r_iload_n C.1 3 dX10_close_75 rfl rfl ?_
        refine r_iload_n C.1 0 dX10_close_76 rfl rfl ?_
        obtain ⟨r_13, hc_14, h⟩ := bd_E h
        refine cl_X10_220 C ⟨Nat.le_of_ble_eq_true rfl, Nat.le_of_ble_eq_true rfl⟩ (m_X10_commissionOf _ _ _ M_12 x1 y_6 hc_14) (Nat.le_of_ble_eq_true rfl) dX10_close_77 ?_
        obtain ⟨q_15, h⟩ := gd_E h
        obtain ⟨M_16, eM_16, h⟩ := lt_E h
        refine r_iast C.1 (cK C (kW4 (kW_17 (vp_lt q_4)))) (cS C (sh_W4 (kW_17 (vp_lt q_4)))) 0 (cT0 C) q_15 eM_16 dX10_close_80 ?_
        refine r_aload_n C.1 1 dX10_close_81 rfl rfl ?_
        refine r_dup C.1 rfl dX10_close_82 ?_
        refine gfk_X10_208 C (kW_17 (vp_lt q_4)) dX10_close_83 ?_
        refine r_iconst (v := 1) C.1 dX10_close_86 rfl ?_
        refine r_iadd C.1 dX10_close_87 ?_
        obtain ⟨M_17, eM_17, h⟩ := lt_E h
        refine pfk_X10_208 C (kW_17 (vp_lt q_4)) eM_17 dX10_close_88 ?_
        refine r_aload_n C.1 2 dX10_close_91 rfl rfl ?_
        refine gf_X10_40 C dX10_close_92 ?_
        refine r_bipush (v := 7) C.1 dX10_close_95 (by decide) ?_
        refine r_iload_n C.1 3 dX10_close_97 rfl rfl ?_
        refine r_iconst (v := 0) C.1 dX10_close_98 rfl ?_
        obtain ⟨M_20, hc_19, h⟩ := bd_E h
        refine cl_X10_110 C ⟨Nat.le_of_ble_eq_true rfl, Nat.le_of_ble_eq_true rfl⟩ (m_X0_note _ _ _ M_17 (7 : Int32) x1 (0 : Int32) hc_19) (Nat.le_of_ble_eq_true rfl) dX10_close_99 ?_
        refine r_aload_n C.1 2 dX10_close_102 rfl rfl ?_
        refine gf_X10_26 C dX10_close_103 ?_
        refine r_iload_n C.1 3 dX10_close_106 rfl rfl ?_
        refine r_iload_n C.1 0 dX10_close_107 rfl rfl ?_
        obtain ⟨r_21, hc_22, h⟩ := bd_E h
        refine cl_X10_223 C ⟨Nat.le_of_ble_eq_true rfl, Nat.le_of_ble_eq_true rfl⟩ (m_X10_lastDay _ _ _ M_20 y_6 hc_22) (Nat.le_of_ble_eq_true rfl) dX10_close_108 ?_
        obtain ⟨r_23, hc_24, h⟩ := bd_E h
        refine cl_X10_162 C ⟨Nat.le_of_ble_eq_true rfl, Nat.le_of_ble_eq_true rfl⟩ (m_X1_moneyOn _ _ _ M_20 x1 r_21 hc_24) (Nat.le_of_ble_eq_true rfl) dX10_close_111 ?_
        refine r_aload_n C.1 1 dX10_close_114 rfl rfl ?_
        refine r_iload_n C.1 0 dX10_close_115 rfl rfl ?_
        obtain ⟨r_25, hc_26, h⟩ := bd_E h
        refine cl_X10_226 C (kW_17 (vp_lt q_4)) ⟨Nat.le_of_ble_eq_true rfl, Nat.le_of_ble_eq_true rfl⟩ (m_X8_broughtBy _ _ _ M_20 (25 + 5 * x1.toNatClampNeg) y_6 (kW_17 (vp_lt q_4)) hc_26) (Nat.le_of_ble_eq_true rfl) dX10_close_116 ?_
        refine r_iadd C.1 dX10_close_119 ?_
        obtain rfl := Option.some.inj h
        exact r_iret C.1 hr ev eM dX10_close_120
      · replace h := ite_F c_7 h
        refine r_aload_n C.1 2 dX10_close_51 rfl rfl ?_
        refine r_iconst (v := 3) C.1 dX10_close_52 rfl ?_
        obtain ⟨r_27, M_29, hc_28, h⟩ := bd2_E h
        refine cl_X10_100 C ⟨Nat.le_of_ble_eq_true rfl, Nat.le_of_ble_eq_true rfl⟩ (m_X10_refuse _ _ _ M (3 : Int32) hc_28) (Nat.le_of_ble_eq_true rfl) dX10_close_53 ?_
        obtain rfl := Option.some.inj h
        exact r_iret C.1 hr ev eM dX10_close_56
    · replace h := ite_F c_5 h
      refine r_aload_n C.1 1 dX10_close_34 rfl rfl ?_
      refine r_iconst (v := 2) C.1 dX10_close_35 rfl ?_
      obtain ⟨r_30, M_32, hc_31, h⟩ := bd2_E h
      refine cl_X10_100 C ⟨Nat.le_of_ble_eq_true rfl, Nat.le_of_ble_eq_true rfl⟩ (m_X10_refuse _ _ _ M (2 : Int32) hc_31) (Nat.le_of_ble_eq_true rfl) dX10_close_36 ?_
      obtain rfl := Option.some.inj h
      exact r_iret C.1 hr ev eM dX10_close_39
  · replace h := ite_T c_3 h
    refine r_aload_n C.1 0 dX10_close_11 rfl rfl ?_
    refine r_iconst (v := 0) C.1 dX10_close_12 rfl ?_
    obtain ⟨r_33, M_35, hc_34, h⟩ := bd2_E h
    refine cl_X10_100 C ⟨Nat.le_of_ble_eq_true rfl, Nat.le_of_ble_eq_true rfl⟩ (m_X10_refuse _ _ _ M (0 : Int32) hc_34) (Nat.le_of_ble_eq_true rfl) dX10_close_13 ?_
    obtain rfl := Option.some.inj h
    exact r_iret C.1 hr ev eM dX10_close_16
def f_X10_close (M : xM) (x1 : Int32) : Option (Int32 × xM) := b_X10_close_0 M x1
set_option maxRecDepth 20000 in
theorem m_X10_close (l : Launch) (D : va_G) (ad : Nat → Nat) (M : xM) (x1 : Int32)  {r : Int32} {M1 : xM} (h : f_X10_close M x1 = some (r, M1)) : xMetC l yX10_close cX10_close 4 (some .int) ({ frames := 5, cells := 0, slots := 0, locals := 122 } : Room) [.ref (ad 0), .int x1] D ad M (some (.int r)) M1 := by
  refine xMetC_of (own := RX10) (by decide) rfl (Nat.le_of_ble_eq_true rfl) ?_
  intro x C e1 e2 e3 ev eM hr
  subst e1; subst e2; subst e3
  refine r_sub (L := [(0, .ref (x_ad x 0)), (1, .int x1)]) (L' := [(0, .ref (x_ad x 0)), (1, .int x1)]) [0, 1] rfl ?_
  exact w_X10_close_0 C M x1 _ h hr ev eM

def b_X10_settle_0 (M : xM) (x1 : Int32) : Option (Int32 × xM) :=
  bd (f_X1_hasWard M x1) (fun r_1 => if r_1 = 0 then bd2 (f_X10_refuse M (0 : Int32)) (fun r_22 M_24 => some (r_22, M_24)) else gd x1 4 (if (M (25 + 5 * x1.toNatClampNeg) 6) = 0 then gd (0 : Int32) 7 (bd (f_X8_canSettle M (25 + 5 * x1.toNatClampNeg) (M 18 (0 : Int32).toNatClampNeg)) (fun r_7 => if r_7 = 0 then bd2 (f_X10_refuse M (3 : Int32)) (fun r_16 M_18 => some (r_16, M_18)) else lt (uM M (25 + 5 * x1.toNatClampNeg) 6 (1 : Int32)) (fun M_10 => bd (f_X0_note M_10 (8 : Int32) x1 (0 : Int32)) (fun M_13 => bd (f_X1_estateOn M_13 x1 (3599 : Int32)) (fun r_14 => some (r_14, M_13)))))) else bd2 (f_X10_refuse M (2 : Int32)) (fun r_19 M_21 => some (r_19, M_21))))
set_option maxRecDepth 20000 in
set_option maxHeartbeats 2000000 in
theorem w_X10_settle_0 {x : xC} (C : CtC x RX10 cX10_settle 3 ({ frames := 2, cells := 0, slots := 0, locals := 47 } : Room)) (M : xM) (x1 : Int32)  (o : Int32 × xM) (h : b_X10_settle_0 M x1 = some o) (hr : (x_me x).sig.returnType = some .int) (ev : x_rv x = some (.int o.1)) (eM : x_M x = o.2) : J x M 0 [(0, .ref (x_ad x 0)), (1, .int x1)] [] := by
  unfold b_X10_settle_0 at h
  refine r_aload_n C.1 0 dX10_settle_0 rfl rfl ?_
  refine gf_X10_26 C dX10_settle_1 ?_
  refine r_iload_n C.1 1 dX10_settle_4 rfl rfl ?_
  obtain ⟨r_1, hc_2, h⟩ := bd_E h
  refine cl_X10_130 C ⟨Nat.le_of_ble_eq_true rfl, Nat.le_of_ble_eq_true rfl⟩ (m_X1_hasWard _ _ _ M x1 hc_2) (Nat.le_of_ble_eq_true rfl) dX10_settle_5 ?_
  refine r_if_ne C.1 17 dX10_settle_8 (by decide) (fun c_3 => ?_) (fun c_3 => ?_)
  · replace h := ite_F c_3 h
    refine r_aload_n C.1 0 dX10_settle_17 rfl rfl ?_
    refine gf_X10_26 C dX10_settle_18 ?_
    refine gf_X10_120_17 C dX10_settle_21 ?_
    refine r_iload_n C.1 1 dX10_settle_24 rfl rfl ?_
    obtain ⟨q_4, h⟩ := gd_E h
    refine r_aldq C.1 (cK C (by decide)) (cS C (sh_20)) 2 (cT2 C) q_4 (y := x_ad x (25 + 5 * x1.toNatClampNeg)) rfl dX10_settle_25 ?_
    refine r_astore_n C.1 [(2, .ref (x_ad x (25 + 5 * x1.toNatClampNeg))), (0, .ref (x_ad x 0)), (1, .int x1)] dX10_settle_26 rfl (by decide) rfl ?_
    refine r_aload_n C.1 0 dX10_settle_27 rfl rfl ?_
    refine gfk_X10_205 C (kW_17 (vp_lt q_4)) dX10_settle_28 ?_
    refine r_if_eq C.1 40 dX10_settle_31 (by decide) (fun c_5 => ?_) (fun c_5 => ?_)
    · replace h := ite_T c_5 h
      refine r_aload_n C.1 0 dX10_settle_40 rfl rfl ?_
      refine r_aload_n C.1 1 dX10_settle_41 rfl rfl ?_
      refine gf_X10_26 C dX10_settle_42 ?_
      refine gf_X10_94_17 C dX10_settle_45 ?_
      refine r_iconst (v := 0) C.1 dX10_settle_48 rfl ?_
      obtain ⟨q_6, h⟩ := gd_E h
      refine r_iald C.1 (cK C (by decide)) (cS C (sh_18)) 0 (cT0 C) q_6 dX10_settle_49 ?_
      obtain ⟨r_7, hc_8, h⟩ := bd_E h
      refine cl_X10_229 C (kW_17 (vp_lt q_4)) ⟨Nat.le_of_ble_eq_true rfl, Nat.le_of_ble_eq_true rfl⟩ (m_X8_canSettle _ _ _ M (25 + 5 * x1.toNatClampNeg) (M 18 (0 : Int32).toNatClampNeg) (kW_17 (vp_lt q_4)) hc_8) (Nat.le_of_ble_eq_true rfl) dX10_settle_50 ?_
      refine r_if_ne C.1 62 dX10_settle_53 (by decide) (fun c_9 => ?_) (fun c_9 => ?_)
      · replace h := ite_F c_9 h
        refine r_aload_n C.1 0 dX10_settle_62 rfl rfl ?_
        refine r_iconst (v := 1) C.1 dX10_settle_63 rfl ?_
        obtain ⟨M_10, eM_10, h⟩ := lt_E h
        refine pfk_X10_205 C (kW_17 (vp_lt q_4)) (by decide) eM_10 dX10_settle_64 ?_
        refine r_aload_n C.1 1 dX10_settle_67 rfl rfl ?_
        refine gf_X10_40 C dX10_settle_68 ?_
        refine r_bipush (v := 8) C.1 dX10_settle_71 (by decide) ?_
        refine r_iload_n C.1 2 dX10_settle_73 rfl rfl ?_
        refine r_iconst (v := 0) C.1 dX10_settle_74 rfl ?_
        obtain ⟨M_13, hc_12, h⟩ := bd_E h
        refine cl_X10_110 C ⟨Nat.le_of_ble_eq_true rfl, Nat.le_of_ble_eq_true rfl⟩ (m_X0_note _ _ _ M_10 (8 : Int32) x1 (0 : Int32) hc_12) (Nat.le_of_ble_eq_true rfl) dX10_settle_75 ?_
        refine r_aload_n C.1 1 dX10_settle_78 rfl rfl ?_
        refine gf_X10_26 C dX10_settle_79 ?_
        refine r_iload_n C.1 2 dX10_settle_82 rfl rfl ?_
        refine r_sipush (v := 3599) C.1 dX10_settle_83 (by decide) ?_
        obtain ⟨r_14, hc_15, h⟩ := bd_E h
        refine cl_X10_232 C ⟨Nat.le_of_ble_eq_true rfl, Nat.le_of_ble_eq_true rfl⟩ (m_X1_estateOn _ _ _ M_13 x1 (3599 : Int32) hc_15) (Nat.le_of_ble_eq_true rfl) dX10_settle_86 ?_
        obtain rfl := Option.some.inj h
        exact r_iret C.1 hr ev eM dX10_settle_89
      · replace h := ite_T c_9 h
        refine r_aload_n C.1 1 dX10_settle_56 rfl rfl ?_
        refine r_iconst (v := 3) C.1 dX10_settle_57 rfl ?_
        obtain ⟨r_16, M_18, hc_17, h⟩ := bd2_E h
        refine cl_X10_100 C ⟨Nat.le_of_ble_eq_true rfl, Nat.le_of_ble_eq_true rfl⟩ (m_X10_refuse _ _ _ M (3 : Int32) hc_17) (Nat.le_of_ble_eq_true rfl) dX10_settle_58 ?_
        obtain rfl := Option.some.inj h
        exact r_iret C.1 hr ev eM dX10_settle_61
    · replace h := ite_F c_5 h
      refine r_aload_n C.1 1 dX10_settle_34 rfl rfl ?_
      refine r_iconst (v := 2) C.1 dX10_settle_35 rfl ?_
      obtain ⟨r_19, M_21, hc_20, h⟩ := bd2_E h
      refine cl_X10_100 C ⟨Nat.le_of_ble_eq_true rfl, Nat.le_of_ble_eq_true rfl⟩ (m_X10_refuse _ _ _ M (2 : Int32) hc_20) (Nat.le_of_ble_eq_true rfl) dX10_settle_36 ?_
      obtain rfl := Option.some.inj h
      exact r_iret C.1 hr ev eM dX10_settle_39
  · replace h := ite_T c_3 h
    refine r_aload_n C.1 0 dX10_settle_11 rfl rfl ?_
    refine r_iconst (v := 0) C.1 dX10_settle_12 rfl ?_
    obtain ⟨r_22, M_24, hc_23, h⟩ := bd2_E h
    refine cl_X10_100 C ⟨Nat.le_of_ble_eq_true rfl, Nat.le_of_ble_eq_true rfl⟩ (m_X10_refuse _ _ _ M (0 : Int32) hc_23) (Nat.le_of_ble_eq_true rfl) dX10_settle_13 ?_
    obtain rfl := Option.some.inj h
    exact r_iret C.1 hr ev eM dX10_settle_16
def f_X10_settle (M : xM) (x1 : Int32) : Option (Int32 × xM) := b_X10_settle_0 M x1
set_option maxRecDepth 20000 in
theorem m_X10_settle (l : Launch) (D : va_G) (ad : Nat → Nat) (M : xM) (x1 : Int32)  {r : Int32} {M1 : xM} (h : f_X10_settle M x1 = some (r, M1)) : xMetC l yX10_settle cX10_settle 3 (some .int) ({ frames := 2, cells := 0, slots := 0, locals := 47 } : Room) [.ref (ad 0), .int x1] D ad M (some (.int r)) M1 := by
  refine xMetC_of (own := RX10) (by decide) rfl (Nat.le_of_ble_eq_true rfl) ?_
  intro x C e1 e2 e3 ev eM hr
  subst e1; subst e2; subst e3
  refine r_sub (L := [(0, .ref (x_ad x 0)), (1, .int x1)]) (L' := [(0, .ref (x_ad x 0)), (1, .int x1)]) [0, 1] rfl ?_
  exact w_X10_settle_0 C M x1 _ h hr ev eM

def b_X10_money_32 (M : xM) (s0 : Int32) : Option (Int32) :=
  some s0
set_option maxRecDepth 20000 in
set_option maxHeartbeats 2000000 in
theorem w_X10_money_32 {x : xC} (C : CtC x RX10 cX10_money 3 ({ frames := 4, cells := 0, slots := 0, locals := 92 } : Room)) (M : xM) (s0 : Int32)  (o : Int32) (h : b_X10_money_32 M s0 = some o) (hr : (x_me x).sig.returnType = some .int) (ev : x_rv x = some (.int o)) (eM : x_M x = M) : J x M 32 [] [.int s0] := by
  unfold b_X10_money_32 at h
  obtain rfl := Option.some.inj h
  exact r_iret C.1 hr ev eM dX10_money_32

def b_X10_money_30 (M : xM)  : Option (Int32) :=
  b_X10_money_32 M (-1000000000 : Int32)
set_option maxRecDepth 20000 in
set_option maxHeartbeats 2000000 in
theorem w_X10_money_30 {x : xC} (C : CtC x RX10 cX10_money 3 ({ frames := 4, cells := 0, slots := 0, locals := 92 } : Room)) (M : xM)   (o : Int32) (h : b_X10_money_30 M = some o) (hr : (x_me x).sig.returnType = some .int) (ev : x_rv x = some (.int o)) (eM : x_M x = M) : J x M 30 [] [] := by
  unfold b_X10_money_30 at h
  refine r_ldc (v := -1000000000) C.1 kw_729 dX10_money_30 ?_
  exact r_sub [] rfl (w_X10_money_32 C M (-1000000000 : Int32) _ h hr ev eM)

def b_X10_money_0 (M : xM) (x1 : Int32) (x2 : Int32) : Option (Int32) :=
  bd (f_X1_hasWard M x1) (fun r_1 => if r_1 = 0 then b_X10_money_30 M else bd (f_X10_isDay M x2) (fun r_4 => if r_4 = 0 then b_X10_money_30 M else bd (f_X1_moneyOn M x1 x2) (fun r_7 => b_X10_money_32 M r_7)))
set_option maxRecDepth 20000 in
set_option maxHeartbeats 2000000 in
theorem w_X10_money_0 {x : xC} (C : CtC x RX10 cX10_money 3 ({ frames := 4, cells := 0, slots := 0, locals := 92 } : Room)) (M : xM) (x1 : Int32) (x2 : Int32)  (o : Int32) (h : b_X10_money_0 M x1 x2 = some o) (hr : (x_me x).sig.returnType = some .int) (ev : x_rv x = some (.int o)) (eM : x_M x = M) : J x M 0 [(0, .ref (x_ad x 0)), (1, .int x1), (2, .int x2)] [] := by
  unfold b_X10_money_0 at h
  refine r_aload_n C.1 0 dX10_money_0 rfl rfl ?_
  refine gf_X10_26 C dX10_money_1 ?_
  refine r_iload_n C.1 1 dX10_money_4 rfl rfl ?_
  obtain ⟨r_1, hc_2, h⟩ := bd_E h
  refine cl_X10_130 C ⟨Nat.le_of_ble_eq_true rfl, Nat.le_of_ble_eq_true rfl⟩ (m_X1_hasWard _ _ _ M x1 hc_2) (Nat.le_of_ble_eq_true rfl) dX10_money_5 ?_
  refine r_if_eq C.1 30 dX10_money_8 (by decide) (fun c_3 => ?_) (fun c_3 => ?_)
  · replace h := ite_T c_3 h
    exact r_sub [] rfl (w_X10_money_30 C M _ h hr ev eM)
  · replace h := ite_F c_3 h
    refine r_iload_n C.1 2 dX10_money_11 rfl rfl ?_
    obtain ⟨r_4, hc_5, h⟩ := bd_E h
    refine cl_X10_133 C ⟨Nat.le_of_ble_eq_true rfl, Nat.le_of_ble_eq_true rfl⟩ (m_X10_isDay _ _ _ M x2 hc_5) (Nat.le_of_ble_eq_true rfl) dX10_money_12 ?_
    refine r_if_eq C.1 30 dX10_money_15 (by decide) (fun c_6 => ?_) (fun c_6 => ?_)
    · replace h := ite_T c_6 h
      exact r_sub [] rfl (w_X10_money_30 C M _ h hr ev eM)
    · replace h := ite_F c_6 h
      refine r_aload_n C.1 0 dX10_money_18 rfl rfl ?_
      refine gf_X10_26 C dX10_money_19 ?_
      refine r_iload_n C.1 1 dX10_money_22 rfl rfl ?_
      refine r_iload_n C.1 2 dX10_money_23 rfl rfl ?_
      obtain ⟨r_7, hc_8, h⟩ := bd_E h
      refine cl_X10_162 C ⟨Nat.le_of_ble_eq_true rfl, Nat.le_of_ble_eq_true rfl⟩ (m_X1_moneyOn _ _ _ M x1 x2 hc_8) (Nat.le_of_ble_eq_true rfl) dX10_money_24 ?_
      refine r_goto C.1 32 dX10_money_27 (by decide) ?_
      exact r_sub [] rfl (w_X10_money_32 C M r_7 _ h hr ev eM)
def f_X10_money (M : xM) (x1 : Int32) (x2 : Int32) : Option (Int32) := b_X10_money_0 M x1 x2
set_option maxRecDepth 20000 in
theorem m_X10_money (l : Launch) (D : va_G) (ad : Nat → Nat) (M : xM) (x1 : Int32) (x2 : Int32)  {o : Int32} (h : f_X10_money M x1 x2 = some o) : xMetC l yX10_money cX10_money 3 (some .int) ({ frames := 4, cells := 0, slots := 0, locals := 92 } : Room) [.ref (ad 0), .int x1, .int x2] D ad M (some (.int o)) M := by
  refine xMetC_of (own := RX10) (by decide) rfl (Nat.le_of_ble_eq_true rfl) ?_
  intro x C e1 e2 e3 ev eM hr
  subst e1; subst e2; subst e3
  refine r_sub (L := [(0, .ref (x_ad x 0)), (1, .int x1), (2, .int x2)]) (L' := [(0, .ref (x_ad x 0)), (1, .int x1), (2, .int x2)]) [0, 1, 2] rfl ?_
  exact w_X10_money_0 C M x1 x2 _ h hr ev eM

def b_X10_out_32 (M : xM) (s0 : Int32) : Option (Int32) :=
  some s0
set_option maxRecDepth 20000 in
set_option maxHeartbeats 2000000 in
theorem w_X10_out_32 {x : xC} (C : CtC x RX10 cX10_out 3 ({ frames := 3, cells := 0, slots := 0, locals := 70 } : Room)) (M : xM) (s0 : Int32)  (o : Int32) (h : b_X10_out_32 M s0 = some o) (hr : (x_me x).sig.returnType = some .int) (ev : x_rv x = some (.int o)) (eM : x_M x = M) : J x M 32 [] [.int s0] := by
  unfold b_X10_out_32 at h
  obtain rfl := Option.some.inj h
  exact r_iret C.1 hr ev eM dX10_out_32

def b_X10_out_30 (M : xM)  : Option (Int32) :=
  b_X10_out_32 M (-1000000000 : Int32)
set_option maxRecDepth 20000 in
set_option maxHeartbeats 2000000 in
theorem w_X10_out_30 {x : xC} (C : CtC x RX10 cX10_out 3 ({ frames := 3, cells := 0, slots := 0, locals := 70 } : Room)) (M : xM)   (o : Int32) (h : b_X10_out_30 M = some o) (hr : (x_me x).sig.returnType = some .int) (ev : x_rv x = some (.int o)) (eM : x_M x = M) : J x M 30 [] [] := by
  unfold b_X10_out_30 at h
  refine r_ldc (v := -1000000000) C.1 kw_729 dX10_out_30 ?_
  exact r_sub [] rfl (w_X10_out_32 C M (-1000000000 : Int32) _ h hr ev eM)

def b_X10_out_0 (M : xM) (x1 : Int32) (x2 : Int32) : Option (Int32) :=
  bd (f_X1_hasWard M x1) (fun r_1 => if r_1 = 0 then b_X10_out_30 M else bd (f_X10_isDay M x2) (fun r_4 => if r_4 = 0 then b_X10_out_30 M else bd (f_X1_outOn M x1 x2) (fun r_7 => b_X10_out_32 M r_7)))
set_option maxRecDepth 20000 in
set_option maxHeartbeats 2000000 in
theorem w_X10_out_0 {x : xC} (C : CtC x RX10 cX10_out 3 ({ frames := 3, cells := 0, slots := 0, locals := 70 } : Room)) (M : xM) (x1 : Int32) (x2 : Int32)  (o : Int32) (h : b_X10_out_0 M x1 x2 = some o) (hr : (x_me x).sig.returnType = some .int) (ev : x_rv x = some (.int o)) (eM : x_M x = M) : J x M 0 [(0, .ref (x_ad x 0)), (1, .int x1), (2, .int x2)] [] := by
  unfold b_X10_out_0 at h
  refine r_aload_n C.1 0 dX10_out_0 rfl rfl ?_
  refine gf_X10_26 C dX10_out_1 ?_
  refine r_iload_n C.1 1 dX10_out_4 rfl rfl ?_
  obtain ⟨r_1, hc_2, h⟩ := bd_E h
  refine cl_X10_130 C ⟨Nat.le_of_ble_eq_true rfl, Nat.le_of_ble_eq_true rfl⟩ (m_X1_hasWard _ _ _ M x1 hc_2) (Nat.le_of_ble_eq_true rfl) dX10_out_5 ?_
  refine r_if_eq C.1 30 dX10_out_8 (by decide) (fun c_3 => ?_) (fun c_3 => ?_)
  · replace h := ite_T c_3 h
    exact r_sub [] rfl (w_X10_out_30 C M _ h hr ev eM)
  · replace h := ite_F c_3 h
    refine r_iload_n C.1 2 dX10_out_11 rfl rfl ?_
    obtain ⟨r_4, hc_5, h⟩ := bd_E h
    refine cl_X10_133 C ⟨Nat.le_of_ble_eq_true rfl, Nat.le_of_ble_eq_true rfl⟩ (m_X10_isDay _ _ _ M x2 hc_5) (Nat.le_of_ble_eq_true rfl) dX10_out_12 ?_
    refine r_if_eq C.1 30 dX10_out_15 (by decide) (fun c_6 => ?_) (fun c_6 => ?_)
    · replace h := ite_T c_6 h
      exact r_sub [] rfl (w_X10_out_30 C M _ h hr ev eM)
    · replace h := ite_F c_6 h
      refine r_aload_n C.1 0 dX10_out_18 rfl rfl ?_
      refine gf_X10_26 C dX10_out_19 ?_
      refine r_iload_n C.1 1 dX10_out_22 rfl rfl ?_
      refine r_iload_n C.1 2 dX10_out_23 rfl rfl ?_
      obtain ⟨r_7, hc_8, h⟩ := bd_E h
      refine cl_X10_166 C ⟨Nat.le_of_ble_eq_true rfl, Nat.le_of_ble_eq_true rfl⟩ (m_X1_outOn _ _ _ M x1 x2 hc_8) (Nat.le_of_ble_eq_true rfl) dX10_out_24 ?_
      refine r_goto C.1 32 dX10_out_27 (by decide) ?_
      exact r_sub [] rfl (w_X10_out_32 C M r_7 _ h hr ev eM)
def f_X10_out (M : xM) (x1 : Int32) (x2 : Int32) : Option (Int32) := b_X10_out_0 M x1 x2
set_option maxRecDepth 20000 in
theorem m_X10_out (l : Launch) (D : va_G) (ad : Nat → Nat) (M : xM) (x1 : Int32) (x2 : Int32)  {o : Int32} (h : f_X10_out M x1 x2 = some o) : xMetC l yX10_out cX10_out 3 (some .int) ({ frames := 3, cells := 0, slots := 0, locals := 70 } : Room) [.ref (ad 0), .int x1, .int x2] D ad M (some (.int o)) M := by
  refine xMetC_of (own := RX10) (by decide) rfl (Nat.le_of_ble_eq_true rfl) ?_
  intro x C e1 e2 e3 ev eM hr
  subst e1; subst e2; subst e3
  refine r_sub (L := [(0, .ref (x_ad x 0)), (1, .int x1), (2, .int x2)]) (L' := [(0, .ref (x_ad x 0)), (1, .int x1), (2, .int x2)]) [0, 1, 2] rfl ?_
  exact w_X10_out_0 C M x1 x2 _ h hr ev eM

def b_X10_idleOn_0 (M : xM) (x1 : Int32) (x2 : Int32) : Option (Int32 × xM) :=
  bd (f_X9_look M x1 (x2 / (360 : Int32))) (fun M_3 => gd (x2 - x2 / (360 : Int32) * (360 : Int32)) 360 (some (M_3 13 (x2 - x2 / (360 : Int32) * (360 : Int32)).toNatClampNeg, M_3)))
set_option maxRecDepth 20000 in
set_option maxHeartbeats 2000000 in
theorem w_X10_idleOn_0 {x : xC} (C : CtC x RX10 cX10_idleOn 3 ({ frames := 4, cells := 0, slots := 0, locals := 100 } : Room)) (M : xM) (x1 : Int32) (x2 : Int32)  (o : Int32 × xM) (h : b_X10_idleOn_0 M x1 x2 = some o) (hr : (x_me x).sig.returnType = some .int) (ev : x_rv x = some (.int o.1)) (eM : x_M x = o.2) : J x M 0 [(0, .ref (x_ad x 0)), (1, .int x1), (2, .int x2)] [] := by
  unfold b_X10_idleOn_0 at h
  refine r_aload_n C.1 0 dX10_idleOn_0 rfl rfl ?_
  refine gf_X10_51 C dX10_idleOn_1 ?_
  refine r_aload_n C.1 0 dX10_idleOn_4 rfl rfl ?_
  refine gf_X10_26 C dX10_idleOn_5 ?_
  refine r_iload_n C.1 1 dX10_idleOn_8 rfl rfl ?_
  refine r_iload_n C.1 2 dX10_idleOn_9 rfl rfl ?_
  refine r_sipush (v := 360) C.1 dX10_idleOn_10 (by decide) ?_
  refine r_idiv C.1 (by decide) dX10_idleOn_13 ?_
  obtain ⟨M_3, hc_2, h⟩ := bd_E h
  refine cl_X10_286 C ⟨Nat.le_of_ble_eq_true rfl, Nat.le_of_ble_eq_true rfl⟩ (m_X9_look _ _ _ M x1 (x2 / (360 : Int32)) hc_2) (Nat.le_of_ble_eq_true rfl) dX10_idleOn_14 ?_
  refine r_aload_n C.1 0 dX10_idleOn_17 rfl rfl ?_
  refine gf_X10_51 C dX10_idleOn_18 ?_
  refine gf_X10_402 C dX10_idleOn_21 ?_
  refine r_iload_n C.1 2 dX10_idleOn_24 rfl rfl ?_
  refine r_sipush (v := 360) C.1 dX10_idleOn_25 (by decide) ?_
  refine r_irem C.1 (by decide) dX10_idleOn_28 ?_
  obtain ⟨q_4, h⟩ := gd_E h
  refine r_iald C.1 (cK C (by decide)) (cS C (sh_13)) 0 (cT0 C) q_4 dX10_idleOn_29 ?_
  obtain rfl := Option.some.inj h
  exact r_iret C.1 hr ev eM dX10_idleOn_30
def f_X10_idleOn (M : xM) (x1 : Int32) (x2 : Int32) : Option (Int32 × xM) := b_X10_idleOn_0 M x1 x2
set_option maxRecDepth 20000 in
theorem m_X10_idleOn (l : Launch) (D : va_G) (ad : Nat → Nat) (M : xM) (x1 : Int32) (x2 : Int32)  {r : Int32} {M1 : xM} (h : f_X10_idleOn M x1 x2 = some (r, M1)) : xMetC l yX10_idleOn cX10_idleOn 3 (some .int) ({ frames := 4, cells := 0, slots := 0, locals := 100 } : Room) [.ref (ad 0), .int x1, .int x2] D ad M (some (.int r)) M1 := by
  refine xMetC_of (own := RX10) (by decide) rfl (Nat.le_of_ble_eq_true rfl) ?_
  intro x C e1 e2 e3 ev eM hr
  subst e1; subst e2; subst e3
  refine r_sub (L := [(0, .ref (x_ad x 0)), (1, .int x1), (2, .int x2)]) (L' := [(0, .ref (x_ad x 0)), (1, .int x1), (2, .int x2)]) [0, 1, 2] rfl ?_
  exact w_X10_idleOn_0 C M x1 x2 _ h hr ev eM

def b_X10_idle_29 (M : xM) (s0 : Int32) : Option (Int32 × xM) :=
  some (s0, M)
set_option maxRecDepth 20000 in
set_option maxHeartbeats 2000000 in
theorem w_X10_idle_29 {x : xC} (C : CtC x RX10 cX10_idle 3 ({ frames := 5, cells := 0, slots := 0, locals := 122 } : Room)) (M : xM) (s0 : Int32)  (o : Int32 × xM) (h : b_X10_idle_29 M s0 = some o) (hr : (x_me x).sig.returnType = some .int) (ev : x_rv x = some (.int o.1)) (eM : x_M x = o.2) : J x M 29 [] [.int s0] := by
  unfold b_X10_idle_29 at h
  obtain rfl := Option.some.inj h
  exact r_iret C.1 hr ev eM dX10_idle_29

def b_X10_idle_27 (M : xM)  : Option (Int32 × xM) :=
  b_X10_idle_29 M (-1000000000 : Int32)
set_option maxRecDepth 20000 in
set_option maxHeartbeats 2000000 in
theorem w_X10_idle_27 {x : xC} (C : CtC x RX10 cX10_idle 3 ({ frames := 5, cells := 0, slots := 0, locals := 122 } : Room)) (M : xM)   (o : Int32 × xM) (h : b_X10_idle_27 M = some o) (hr : (x_me x).sig.returnType = some .int) (ev : x_rv x = some (.int o.1)) (eM : x_M x = o.2) : J x M 27 [] [] := by
  unfold b_X10_idle_27 at h
  refine r_ldc (v := -1000000000) C.1 kw_729 dX10_idle_27 ?_
  exact r_sub [] rfl (w_X10_idle_29 C M (-1000000000 : Int32) _ h hr ev eM)

def b_X10_idle_0 (M : xM) (x1 : Int32) (x2 : Int32) : Option (Int32 × xM) :=
  bd (f_X1_hasWard M x1) (fun r_1 => if r_1 = 0 then b_X10_idle_27 M else bd (f_X10_isDay M x2) (fun r_4 => if r_4 = 0 then b_X10_idle_27 M else bd2 (f_X10_idleOn M x1 x2) (fun r_7 M_9 => b_X10_idle_29 M_9 r_7)))
set_option maxRecDepth 20000 in
set_option maxHeartbeats 2000000 in
theorem w_X10_idle_0 {x : xC} (C : CtC x RX10 cX10_idle 3 ({ frames := 5, cells := 0, slots := 0, locals := 122 } : Room)) (M : xM) (x1 : Int32) (x2 : Int32)  (o : Int32 × xM) (h : b_X10_idle_0 M x1 x2 = some o) (hr : (x_me x).sig.returnType = some .int) (ev : x_rv x = some (.int o.1)) (eM : x_M x = o.2) : J x M 0 [(0, .ref (x_ad x 0)), (1, .int x1), (2, .int x2)] [] := by
  unfold b_X10_idle_0 at h
  refine r_aload_n C.1 0 dX10_idle_0 rfl rfl ?_
  refine gf_X10_26 C dX10_idle_1 ?_
  refine r_iload_n C.1 1 dX10_idle_4 rfl rfl ?_
  obtain ⟨r_1, hc_2, h⟩ := bd_E h
  refine cl_X10_130 C ⟨Nat.le_of_ble_eq_true rfl, Nat.le_of_ble_eq_true rfl⟩ (m_X1_hasWard _ _ _ M x1 hc_2) (Nat.le_of_ble_eq_true rfl) dX10_idle_5 ?_
  refine r_if_eq C.1 27 dX10_idle_8 (by decide) (fun c_3 => ?_) (fun c_3 => ?_)
  · replace h := ite_T c_3 h
    exact r_sub [] rfl (w_X10_idle_27 C M _ h hr ev eM)
  · replace h := ite_F c_3 h
    refine r_iload_n C.1 2 dX10_idle_11 rfl rfl ?_
    obtain ⟨r_4, hc_5, h⟩ := bd_E h
    refine cl_X10_133 C ⟨Nat.le_of_ble_eq_true rfl, Nat.le_of_ble_eq_true rfl⟩ (m_X10_isDay _ _ _ M x2 hc_5) (Nat.le_of_ble_eq_true rfl) dX10_idle_12 ?_
    refine r_if_eq C.1 27 dX10_idle_15 (by decide) (fun c_6 => ?_) (fun c_6 => ?_)
    · replace h := ite_T c_6 h
      exact r_sub [] rfl (w_X10_idle_27 C M _ h hr ev eM)
    · replace h := ite_F c_6 h
      refine r_aload_n C.1 0 dX10_idle_18 rfl rfl ?_
      refine r_iload_n C.1 1 dX10_idle_19 rfl rfl ?_
      refine r_iload_n C.1 2 dX10_idle_20 rfl rfl ?_
      obtain ⟨r_7, M_9, hc_8, h⟩ := bd2_E h
      refine cl_X10_236 C ⟨Nat.le_of_ble_eq_true rfl, Nat.le_of_ble_eq_true rfl⟩ (m_X10_idleOn _ _ _ M x1 x2 hc_8) (Nat.le_of_ble_eq_true rfl) dX10_idle_21 ?_
      refine r_goto C.1 29 dX10_idle_24 (by decide) ?_
      exact r_sub [] rfl (w_X10_idle_29 C M_9 r_7 _ h hr ev eM)
def f_X10_idle (M : xM) (x1 : Int32) (x2 : Int32) : Option (Int32 × xM) := b_X10_idle_0 M x1 x2
set_option maxRecDepth 20000 in
theorem m_X10_idle (l : Launch) (D : va_G) (ad : Nat → Nat) (M : xM) (x1 : Int32) (x2 : Int32)  {r : Int32} {M1 : xM} (h : f_X10_idle M x1 x2 = some (r, M1)) : xMetC l yX10_idle cX10_idle 3 (some .int) ({ frames := 5, cells := 0, slots := 0, locals := 122 } : Room) [.ref (ad 0), .int x1, .int x2] D ad M (some (.int r)) M1 := by
  refine xMetC_of (own := RX10) (by decide) rfl (Nat.le_of_ble_eq_true rfl) ?_
  intro x C e1 e2 e3 ev eM hr
  subst e1; subst e2; subst e3
  refine r_sub (L := [(0, .ref (x_ad x 0)), (1, .int x1), (2, .int x2)]) (L' := [(0, .ref (x_ad x 0)), (1, .int x1), (2, .int x2)]) [0, 1, 2] rfl ?_
  exact w_X10_idle_0 C M x1 x2 _ h hr ev eM

def b_X10_isYear_15 (M : xM) (s0 : Int32) : Option (Int32) :=
  gz s0 (some s0)
set_option maxRecDepth 20000 in
set_option maxHeartbeats 2000000 in
theorem w_X10_isYear_15 {x : xC} (C : CtC x RX10 cX10_isYear 1 ({ frames := 0, cells := 0, slots := 0, locals := 0 } : Room)) (M : xM) (s0 : Int32)  (o : Int32) (h : b_X10_isYear_15 M s0 = some o) (hr : (x_me x).sig.returnType = some .boolean) (ev : x_rv x = some (.int o)) (eM : x_M x = M) : J x M 15 [] [.int s0] := by
  unfold b_X10_isYear_15 at h
  obtain ⟨z_1, h⟩ := gz_E h
  obtain rfl := Option.some.inj h
  exact r_zret C.1 hr (nz_n z_1) ev eM dX10_isYear_15

def b_X10_isYear_14 (M : xM)  : Option (Int32) :=
  b_X10_isYear_15 M (0 : Int32)
set_option maxRecDepth 20000 in
set_option maxHeartbeats 2000000 in
theorem w_X10_isYear_14 {x : xC} (C : CtC x RX10 cX10_isYear 1 ({ frames := 0, cells := 0, slots := 0, locals := 0 } : Room)) (M : xM)   (o : Int32) (h : b_X10_isYear_14 M = some o) (hr : (x_me x).sig.returnType = some .boolean) (ev : x_rv x = some (.int o)) (eM : x_M x = M) : J x M 14 [] [] := by
  unfold b_X10_isYear_14 at h
  refine r_iconst (v := 0) C.1 dX10_isYear_14 rfl ?_
  exact r_sub [] rfl (w_X10_isYear_15 C M (0 : Int32) _ h hr ev eM)

def b_X10_isYear_0 (M : xM) (x0 : Int32) : Option (Int32) :=
  if x0 < 0 then b_X10_isYear_14 M else if (10 : Int32) ≤ x0 then b_X10_isYear_14 M else b_X10_isYear_15 M (1 : Int32)
set_option maxRecDepth 20000 in
set_option maxHeartbeats 2000000 in
theorem w_X10_isYear_0 {x : xC} (C : CtC x RX10 cX10_isYear 1 ({ frames := 0, cells := 0, slots := 0, locals := 0 } : Room)) (M : xM) (x0 : Int32)  (o : Int32) (h : b_X10_isYear_0 M x0 = some o) (hr : (x_me x).sig.returnType = some .boolean) (ev : x_rv x = some (.int o)) (eM : x_M x = M) : J x M 0 [(0, .int x0)] [] := by
  unfold b_X10_isYear_0 at h
  refine r_iload_n C.1 0 dX10_isYear_0 rfl rfl ?_
  refine r_if_lt C.1 14 dX10_isYear_1 (by decide) (fun c_1 => ?_) (fun c_1 => ?_)
  · replace h := ite_T c_1 h
    exact r_sub [] rfl (w_X10_isYear_14 C M _ h hr ev eM)
  · replace h := ite_F c_1 h
    refine r_iload_n C.1 0 dX10_isYear_4 rfl rfl ?_
    refine r_bipush (v := 10) C.1 dX10_isYear_5 (by decide) ?_
    refine r_icmp_ge C.1 14 dX10_isYear_7 (by decide) (fun c_2 => ?_) (fun c_2 => ?_)
    · replace h := ite_T c_2 h
      exact r_sub [] rfl (w_X10_isYear_14 C M _ h hr ev eM)
    · replace h := ite_F c_2 h
      refine r_iconst (v := 1) C.1 dX10_isYear_10 rfl ?_
      refine r_goto C.1 15 dX10_isYear_11 (by decide) ?_
      exact r_sub [] rfl (w_X10_isYear_15 C M (1 : Int32) _ h hr ev eM)
def f_X10_isYear (M : xM) (x0 : Int32) : Option (Int32) := b_X10_isYear_0 M x0
set_option maxRecDepth 20000 in
theorem m_X10_isYear (l : Launch) (D : va_G) (ad : Nat → Nat) (M : xM) (x0 : Int32)  {o : Int32} (h : f_X10_isYear M x0 = some o) : xMetC l yX10_isYear cX10_isYear 1 (some .boolean) ({ frames := 0, cells := 0, slots := 0, locals := 0 } : Room) [.int x0] D ad M (some (.int o)) M := by
  refine xMetC_of (own := RX10) (by decide) rfl (Nat.le_of_ble_eq_true rfl) ?_
  intro x C e1 e2 e3 ev eM hr
  subst e1; subst e2; subst e3
  refine r_sub (L := [(0, .int x0)]) (L' := [(0, .int x0)]) [0] rfl ?_
  exact w_X10_isYear_0 C M x0 _ h hr ev eM

def b_X10_charge_29 (M : xM) (s0 : Int32) : Option (Int32 × xM) :=
  some (s0, M)
set_option maxRecDepth 20000 in
set_option maxHeartbeats 2000000 in
theorem w_X10_charge_29 {x : xC} (C : CtC x RX10 cX10_charge 3 ({ frames := 5, cells := 0, slots := 0, locals := 122 } : Room)) (M : xM) (s0 : Int32)  (o : Int32 × xM) (h : b_X10_charge_29 M s0 = some o) (hr : (x_me x).sig.returnType = some .int) (ev : x_rv x = some (.int o.1)) (eM : x_M x = o.2) : J x M 29 [] [.int s0] := by
  unfold b_X10_charge_29 at h
  obtain rfl := Option.some.inj h
  exact r_iret C.1 hr ev eM dX10_charge_29

def b_X10_charge_27 (M : xM)  : Option (Int32 × xM) :=
  b_X10_charge_29 M (-1000000000 : Int32)
set_option maxRecDepth 20000 in
set_option maxHeartbeats 2000000 in
theorem w_X10_charge_27 {x : xC} (C : CtC x RX10 cX10_charge 3 ({ frames := 5, cells := 0, slots := 0, locals := 122 } : Room)) (M : xM)   (o : Int32 × xM) (h : b_X10_charge_27 M = some o) (hr : (x_me x).sig.returnType = some .int) (ev : x_rv x = some (.int o.1)) (eM : x_M x = o.2) : J x M 27 [] [] := by
  unfold b_X10_charge_27 at h
  refine r_ldc (v := -1000000000) C.1 kw_729 dX10_charge_27 ?_
  exact r_sub [] rfl (w_X10_charge_29 C M (-1000000000 : Int32) _ h hr ev eM)

def b_X10_charge_0 (M : xM) (x1 : Int32) (x2 : Int32) : Option (Int32 × xM) :=
  bd (f_X1_hasWard M x1) (fun r_1 => if r_1 = 0 then b_X10_charge_27 M else bd (f_X10_isYear M x2) (fun r_4 => if r_4 = 0 then b_X10_charge_27 M else bd2 (f_X10_chargeOf M x1 x2) (fun r_7 M_9 => b_X10_charge_29 M_9 r_7)))
set_option maxRecDepth 20000 in
set_option maxHeartbeats 2000000 in
theorem w_X10_charge_0 {x : xC} (C : CtC x RX10 cX10_charge 3 ({ frames := 5, cells := 0, slots := 0, locals := 122 } : Room)) (M : xM) (x1 : Int32) (x2 : Int32)  (o : Int32 × xM) (h : b_X10_charge_0 M x1 x2 = some o) (hr : (x_me x).sig.returnType = some .int) (ev : x_rv x = some (.int o.1)) (eM : x_M x = o.2) : J x M 0 [(0, .ref (x_ad x 0)), (1, .int x1), (2, .int x2)] [] := by
  unfold b_X10_charge_0 at h
  refine r_aload_n C.1 0 dX10_charge_0 rfl rfl ?_
  refine gf_X10_26 C dX10_charge_1 ?_
  refine r_iload_n C.1 1 dX10_charge_4 rfl rfl ?_
  obtain ⟨r_1, hc_2, h⟩ := bd_E h
  refine cl_X10_130 C ⟨Nat.le_of_ble_eq_true rfl, Nat.le_of_ble_eq_true rfl⟩ (m_X1_hasWard _ _ _ M x1 hc_2) (Nat.le_of_ble_eq_true rfl) dX10_charge_5 ?_
  refine r_if_eq C.1 27 dX10_charge_8 (by decide) (fun c_3 => ?_) (fun c_3 => ?_)
  · replace h := ite_T c_3 h
    exact r_sub [] rfl (w_X10_charge_27 C M _ h hr ev eM)
  · replace h := ite_F c_3 h
    refine r_iload_n C.1 2 dX10_charge_11 rfl rfl ?_
    obtain ⟨r_4, hc_5, h⟩ := bd_E h
    refine cl_X10_239 C ⟨Nat.le_of_ble_eq_true rfl, Nat.le_of_ble_eq_true rfl⟩ (m_X10_isYear _ _ _ M x2 hc_5) (Nat.le_of_ble_eq_true rfl) dX10_charge_12 ?_
    refine r_if_eq C.1 27 dX10_charge_15 (by decide) (fun c_6 => ?_) (fun c_6 => ?_)
    · replace h := ite_T c_6 h
      exact r_sub [] rfl (w_X10_charge_27 C M _ h hr ev eM)
    · replace h := ite_F c_6 h
      refine r_aload_n C.1 0 dX10_charge_18 rfl rfl ?_
      refine r_iload_n C.1 1 dX10_charge_19 rfl rfl ?_
      refine r_iload_n C.1 2 dX10_charge_20 rfl rfl ?_
      obtain ⟨r_7, M_9, hc_8, h⟩ := bd2_E h
      refine cl_X10_214 C ⟨Nat.le_of_ble_eq_true rfl, Nat.le_of_ble_eq_true rfl⟩ (m_X10_chargeOf _ _ _ M x1 x2 hc_8) (Nat.le_of_ble_eq_true rfl) dX10_charge_21 ?_
      refine r_goto C.1 29 dX10_charge_24 (by decide) ?_
      exact r_sub [] rfl (w_X10_charge_29 C M_9 r_7 _ h hr ev eM)
def f_X10_charge (M : xM) (x1 : Int32) (x2 : Int32) : Option (Int32 × xM) := b_X10_charge_0 M x1 x2
set_option maxRecDepth 20000 in
theorem m_X10_charge (l : Launch) (D : va_G) (ad : Nat → Nat) (M : xM) (x1 : Int32) (x2 : Int32)  {r : Int32} {M1 : xM} (h : f_X10_charge M x1 x2 = some (r, M1)) : xMetC l yX10_charge cX10_charge 3 (some .int) ({ frames := 5, cells := 0, slots := 0, locals := 122 } : Room) [.ref (ad 0), .int x1, .int x2] D ad M (some (.int r)) M1 := by
  refine xMetC_of (own := RX10) (by decide) rfl (Nat.le_of_ble_eq_true rfl) ?_
  intro x C e1 e2 e3 ev eM hr
  subst e1; subst e2; subst e3
  refine r_sub (L := [(0, .ref (x_ad x 0)), (1, .int x1), (2, .int x2)]) (L' := [(0, .ref (x_ad x 0)), (1, .int x1), (2, .int x2)]) [0, 1, 2] rfl ?_
  exact w_X10_charge_0 C M x1 x2 _ h hr ev eM

def b_X10_commission_29 (M : xM) (s0 : Int32) : Option (Int32) :=
  some s0
set_option maxRecDepth 20000 in
set_option maxHeartbeats 2000000 in
theorem w_X10_commission_29 {x : xC} (C : CtC x RX10 cX10_commission 3 ({ frames := 3, cells := 0, slots := 0, locals := 72 } : Room)) (M : xM) (s0 : Int32)  (o : Int32) (h : b_X10_commission_29 M s0 = some o) (hr : (x_me x).sig.returnType = some .int) (ev : x_rv x = some (.int o)) (eM : x_M x = M) : J x M 29 [] [.int s0] := by
  unfold b_X10_commission_29 at h
  obtain rfl := Option.some.inj h
  exact r_iret C.1 hr ev eM dX10_commission_29

def b_X10_commission_27 (M : xM)  : Option (Int32) :=
  b_X10_commission_29 M (-1000000000 : Int32)
set_option maxRecDepth 20000 in
set_option maxHeartbeats 2000000 in
theorem w_X10_commission_27 {x : xC} (C : CtC x RX10 cX10_commission 3 ({ frames := 3, cells := 0, slots := 0, locals := 72 } : Room)) (M : xM)   (o : Int32) (h : b_X10_commission_27 M = some o) (hr : (x_me x).sig.returnType = some .int) (ev : x_rv x = some (.int o)) (eM : x_M x = M) : J x M 27 [] [] := by
  unfold b_X10_commission_27 at h
  refine r_ldc (v := -1000000000) C.1 kw_729 dX10_commission_27 ?_
  exact r_sub [] rfl (w_X10_commission_29 C M (-1000000000 : Int32) _ h hr ev eM)

def b_X10_commission_0 (M : xM) (x1 : Int32) (x2 : Int32) : Option (Int32) :=
  bd (f_X1_hasWard M x1) (fun r_1 => if r_1 = 0 then b_X10_commission_27 M else bd (f_X10_isYear M x2) (fun r_4 => if r_4 = 0 then b_X10_commission_27 M else bd (f_X10_commissionOf M x1 x2) (fun r_7 => b_X10_commission_29 M r_7)))
set_option maxRecDepth 20000 in
set_option maxHeartbeats 2000000 in
theorem w_X10_commission_0 {x : xC} (C : CtC x RX10 cX10_commission 3 ({ frames := 3, cells := 0, slots := 0, locals := 72 } : Room)) (M : xM) (x1 : Int32) (x2 : Int32)  (o : Int32) (h : b_X10_commission_0 M x1 x2 = some o) (hr : (x_me x).sig.returnType = some .int) (ev : x_rv x = some (.int o)) (eM : x_M x = M) : J x M 0 [(0, .ref (x_ad x 0)), (1, .int x1), (2, .int x2)] [] := by
  unfold b_X10_commission_0 at h
  refine r_aload_n C.1 0 dX10_commission_0 rfl rfl ?_
  refine gf_X10_26 C dX10_commission_1 ?_
  refine r_iload_n C.1 1 dX10_commission_4 rfl rfl ?_
  obtain ⟨r_1, hc_2, h⟩ := bd_E h
  refine cl_X10_130 C ⟨Nat.le_of_ble_eq_true rfl, Nat.le_of_ble_eq_true rfl⟩ (m_X1_hasWard _ _ _ M x1 hc_2) (Nat.le_of_ble_eq_true rfl) dX10_commission_5 ?_
  refine r_if_eq C.1 27 dX10_commission_8 (by decide) (fun c_3 => ?_) (fun c_3 => ?_)
  · replace h := ite_T c_3 h
    exact r_sub [] rfl (w_X10_commission_27 C M _ h hr ev eM)
  · replace h := ite_F c_3 h
    refine r_iload_n C.1 2 dX10_commission_11 rfl rfl ?_
    obtain ⟨r_4, hc_5, h⟩ := bd_E h
    refine cl_X10_239 C ⟨Nat.le_of_ble_eq_true rfl, Nat.le_of_ble_eq_true rfl⟩ (m_X10_isYear _ _ _ M x2 hc_5) (Nat.le_of_ble_eq_true rfl) dX10_commission_12 ?_
    refine r_if_eq C.1 27 dX10_commission_15 (by decide) (fun c_6 => ?_) (fun c_6 => ?_)
    · replace h := ite_T c_6 h
      exact r_sub [] rfl (w_X10_commission_27 C M _ h hr ev eM)
    · replace h := ite_F c_6 h
      refine r_aload_n C.1 0 dX10_commission_18 rfl rfl ?_
      refine r_iload_n C.1 1 dX10_commission_19 rfl rfl ?_
      refine r_iload_n C.1 2 dX10_commission_20 rfl rfl ?_
      obtain ⟨r_7, hc_8, h⟩ := bd_E h
      refine cl_X10_220 C ⟨Nat.le_of_ble_eq_true rfl, Nat.le_of_ble_eq_true rfl⟩ (m_X10_commissionOf _ _ _ M x1 x2 hc_8) (Nat.le_of_ble_eq_true rfl) dX10_commission_21 ?_
      refine r_goto C.1 29 dX10_commission_24 (by decide) ?_
      exact r_sub [] rfl (w_X10_commission_29 C M r_7 _ h hr ev eM)
def f_X10_commission (M : xM) (x1 : Int32) (x2 : Int32) : Option (Int32) := b_X10_commission_0 M x1 x2
set_option maxRecDepth 20000 in
theorem m_X10_commission (l : Launch) (D : va_G) (ad : Nat → Nat) (M : xM) (x1 : Int32) (x2 : Int32)  {o : Int32} (h : f_X10_commission M x1 x2 = some o) : xMetC l yX10_commission cX10_commission 3 (some .int) ({ frames := 3, cells := 0, slots := 0, locals := 72 } : Room) [.ref (ad 0), .int x1, .int x2] D ad M (some (.int o)) M := by
  refine xMetC_of (own := RX10) (by decide) rfl (Nat.le_of_ble_eq_true rfl) ?_
  intro x C e1 e2 e3 ev eM hr
  subst e1; subst e2; subst e3
  refine r_sub (L := [(0, .ref (x_ad x 0)), (1, .int x1), (2, .int x2)]) (L' := [(0, .ref (x_ad x 0)), (1, .int x1), (2, .int x2)]) [0, 1, 2] rfl ?_
  exact w_X10_commission_0 C M x1 x2 _ h hr ev eM

def b_X10_allowance_27 (M : xM)  : Option (Int32) :=
  some (-1000000000 : Int32)
set_option maxRecDepth 20000 in
set_option maxHeartbeats 2000000 in
theorem w_X10_allowance_27 {x : xC} (C : CtC x RX10 cX10_allowance 4 ({ frames := 3, cells := 0, slots := 0, locals := 71 } : Room)) (M : xM)   (o : Int32) (h : b_X10_allowance_27 M = some o) (hr : (x_me x).sig.returnType = some .int) (ev : x_rv x = some (.int o)) (eM : x_M x = M) : J x M 27 [] [] := by
  unfold b_X10_allowance_27 at h
  refine r_ldc (v := -1000000000) C.1 kw_729 dX10_allowance_27 ?_
  obtain rfl := Option.some.inj h
  exact r_iret C.1 hr ev eM dX10_allowance_29

def b_X10_allowance_0 (M : xM) (x1 : Int32) (x2 : Int32) (x3 : Int32) : Option (Int32) :=
  bd (f_X1_hasWard M x1) (fun r_1 => if r_1 = 0 then b_X10_allowance_27 M else if x2 < 0 then b_X10_allowance_27 M else if (2 : Int32) ≤ x2 then b_X10_allowance_27 M else bd (f_X10_isYear M x3) (fun r_6 => if r_6 = 0 then b_X10_allowance_27 M else bd (f_X1_allowanceOf M x1 x2 x3) (fun r_9 => some r_9)))
set_option maxRecDepth 20000 in
set_option maxHeartbeats 2000000 in
theorem w_X10_allowance_0 {x : xC} (C : CtC x RX10 cX10_allowance 4 ({ frames := 3, cells := 0, slots := 0, locals := 71 } : Room)) (M : xM) (x1 : Int32) (x2 : Int32) (x3 : Int32)  (o : Int32) (h : b_X10_allowance_0 M x1 x2 x3 = some o) (hr : (x_me x).sig.returnType = some .int) (ev : x_rv x = some (.int o)) (eM : x_M x = M) : J x M 0 [(0, .ref (x_ad x 0)), (1, .int x1), (2, .int x2), (3, .int x3)] [] := by
  unfold b_X10_allowance_0 at h
  refine r_aload_n C.1 0 dX10_allowance_0 rfl rfl ?_
  refine gf_X10_26 C dX10_allowance_1 ?_
  refine r_iload_n C.1 1 dX10_allowance_4 rfl rfl ?_
  obtain ⟨r_1, hc_2, h⟩ := bd_E h
  refine cl_X10_130 C ⟨Nat.le_of_ble_eq_true rfl, Nat.le_of_ble_eq_true rfl⟩ (m_X1_hasWard _ _ _ M x1 hc_2) (Nat.le_of_ble_eq_true rfl) dX10_allowance_5 ?_
  refine r_if_eq C.1 27 dX10_allowance_8 (by decide) (fun c_3 => ?_) (fun c_3 => ?_)
  · replace h := ite_T c_3 h
    exact r_sub [] rfl (w_X10_allowance_27 C M _ h hr ev eM)
  · replace h := ite_F c_3 h
    refine r_iload_n C.1 2 dX10_allowance_11 rfl rfl ?_
    refine r_if_lt C.1 27 dX10_allowance_12 (by decide) (fun c_4 => ?_) (fun c_4 => ?_)
    · replace h := ite_T c_4 h
      exact r_sub [] rfl (w_X10_allowance_27 C M _ h hr ev eM)
    · replace h := ite_F c_4 h
      refine r_iload_n C.1 2 dX10_allowance_15 rfl rfl ?_
      refine r_iconst (v := 2) C.1 dX10_allowance_16 rfl ?_
      refine r_icmp_ge C.1 27 dX10_allowance_17 (by decide) (fun c_5 => ?_) (fun c_5 => ?_)
      · replace h := ite_T c_5 h
        exact r_sub [] rfl (w_X10_allowance_27 C M _ h hr ev eM)
      · replace h := ite_F c_5 h
        refine r_iload_n C.1 3 dX10_allowance_20 rfl rfl ?_
        obtain ⟨r_6, hc_7, h⟩ := bd_E h
        refine cl_X10_239 C ⟨Nat.le_of_ble_eq_true rfl, Nat.le_of_ble_eq_true rfl⟩ (m_X10_isYear _ _ _ M x3 hc_7) (Nat.le_of_ble_eq_true rfl) dX10_allowance_21 ?_
        refine r_if_ne C.1 30 dX10_allowance_24 (by decide) (fun c_8 => ?_) (fun c_8 => ?_)
        · replace h := ite_F c_8 h
          refine r_aload_n C.1 0 dX10_allowance_30 rfl rfl ?_
          refine gf_X10_26 C dX10_allowance_31 ?_
          refine r_iload_n C.1 1 dX10_allowance_34 rfl rfl ?_
          refine r_iload_n C.1 2 dX10_allowance_35 rfl rfl ?_
          refine r_iload_n C.1 3 dX10_allowance_36 rfl rfl ?_
          obtain ⟨r_9, hc_10, h⟩ := bd_E h
          refine cl_X10_242 C ⟨Nat.le_of_ble_eq_true rfl, Nat.le_of_ble_eq_true rfl⟩ (m_X1_allowanceOf _ _ _ M x1 x2 x3 hc_10) (Nat.le_of_ble_eq_true rfl) dX10_allowance_37 ?_
          obtain rfl := Option.some.inj h
          exact r_iret C.1 hr ev eM dX10_allowance_40
        · replace h := ite_T c_8 h
          exact r_sub [] rfl (w_X10_allowance_27 C M _ h hr ev eM)
def f_X10_allowance (M : xM) (x1 : Int32) (x2 : Int32) (x3 : Int32) : Option (Int32) := b_X10_allowance_0 M x1 x2 x3
set_option maxRecDepth 20000 in
theorem m_X10_allowance (l : Launch) (D : va_G) (ad : Nat → Nat) (M : xM) (x1 : Int32) (x2 : Int32) (x3 : Int32)  {o : Int32} (h : f_X10_allowance M x1 x2 x3 = some o) : xMetC l yX10_allowance cX10_allowance 4 (some .int) ({ frames := 3, cells := 0, slots := 0, locals := 71 } : Room) [.ref (ad 0), .int x1, .int x2, .int x3] D ad M (some (.int o)) M := by
  refine xMetC_of (own := RX10) (by decide) rfl (Nat.le_of_ble_eq_true rfl) ?_
  intro x C e1 e2 e3 ev eM hr
  subst e1; subst e2; subst e3
  refine r_sub (L := [(0, .ref (x_ad x 0)), (1, .int x1), (2, .int x2), (3, .int x3)]) (L' := [(0, .ref (x_ad x 0)), (1, .int x1), (2, .int x2), (3, .int x3)]) [0, 1, 2, 3] rfl ?_
  exact w_X10_allowance_0 C M x1 x2 x3 _ h hr ev eM

def b_X10_payment_106 (M : xM) (s0 : Int32) : Option (Int32) :=
  some s0
set_option maxRecDepth 20000 in
set_option maxHeartbeats 2000000 in
theorem w_X10_payment_106 {x : xC} (C : CtC x RX10 cX10_payment 4 ({ frames := 1, cells := 0, slots := 0, locals := 21 } : Room)) (M : xM) (s0 : Int32)  (o : Int32) (h : b_X10_payment_106 M s0 = some o) (hr : (x_me x).sig.returnType = some .int) (ev : x_rv x = some (.int o)) (eM : x_M x = M) : J x M 106 [] [.int s0] := by
  unfold b_X10_payment_106 at h
  obtain rfl := Option.some.inj h
  exact r_iret C.1 hr ev eM dX10_payment_106

def b_X10_payment_119 (M : xM) (s0 : Int32) : Option (Int32) :=
  some s0
set_option maxRecDepth 20000 in
set_option maxHeartbeats 2000000 in
theorem w_X10_payment_119 {x : xC} (C : CtC x RX10 cX10_payment 4 ({ frames := 1, cells := 0, slots := 0, locals := 21 } : Room)) (M : xM) (s0 : Int32)  (o : Int32) (h : b_X10_payment_119 M s0 = some o) (hr : (x_me x).sig.returnType = some .int) (ev : x_rv x = some (.int o)) (eM : x_M x = M) : J x M 119 [] [.int s0] := by
  unfold b_X10_payment_119 at h
  obtain rfl := Option.some.inj h
  exact r_iret C.1 hr ev eM dX10_payment_119

def b_X10_payment_84 (M : xM) (s0 : Int32) : Option (Int32) :=
  some s0
set_option maxRecDepth 20000 in
set_option maxHeartbeats 2000000 in
theorem w_X10_payment_84 {x : xC} (C : CtC x RX10 cX10_payment 4 ({ frames := 1, cells := 0, slots := 0, locals := 21 } : Room)) (M : xM) (s0 : Int32)  (o : Int32) (h : b_X10_payment_84 M s0 = some o) (hr : (x_me x).sig.returnType = some .int) (ev : x_rv x = some (.int o)) (eM : x_M x = M) : J x M 84 [] [.int s0] := by
  unfold b_X10_payment_84 at h
  obtain rfl := Option.some.inj h
  exact r_iret C.1 hr ev eM dX10_payment_84

def b_X10_payment_0 (M : xM) (x1 : Int32) (x2 : Int32) : Option (Int32) :=
  bd (f_X1_isPayment M x1) (fun r_1 => if r_1 = 0 then some (-1 : Int32) else gd x1 40 (if x2 = (0 : Int32) then bd (f_X2_part M (45 + x1.toNatClampNeg) (2 : Int32)) (fun r_6 => some r_6) else (if x2 = (1 : Int32) then bd (f_X2_part M (45 + x1.toNatClampNeg) (3 : Int32)) (fun r_8 => some r_8) else (if x2 = (2 : Int32) then if (M (45 + x1.toNatClampNeg) 6) = 0 then b_X10_payment_84 M (0 : Int32) else b_X10_payment_84 M (1 : Int32) else (if x2 = (3 : Int32) then gd (1 : Int32) 7 (bd (f_X2_isBacked M (45 + x1.toNatClampNeg) (M 18 (1 : Int32).toNatClampNeg)) (fun r_12 => if r_12 = 0 then b_X10_payment_106 M (0 : Int32) else b_X10_payment_106 M (1 : Int32))) else (if x2 = (4 : Int32) then if (M (45 + x1.toNatClampNeg) 7) = 0 then b_X10_payment_119 M (0 : Int32) else b_X10_payment_119 M (1 : Int32) else (some (-1 : Int32))))))))
set_option maxRecDepth 20000 in
set_option maxHeartbeats 2000000 in
theorem w_X10_payment_0 {x : xC} (C : CtC x RX10 cX10_payment 4 ({ frames := 1, cells := 0, slots := 0, locals := 21 } : Room)) (M : xM) (x1 : Int32) (x2 : Int32)  (o : Int32) (h : b_X10_payment_0 M x1 x2 = some o) (hr : (x_me x).sig.returnType = some .int) (ev : x_rv x = some (.int o)) (eM : x_M x = M) : J x M 0 [(0, .ref (x_ad x 0)), (1, .int x1), (2, .int x2)] [] := by
  unfold b_X10_payment_0 at h
  refine r_aload_n C.1 0 dX10_payment_0 rfl rfl ?_
  refine gf_X10_26 C dX10_payment_1 ?_
  refine r_iload_n C.1 1 dX10_payment_4 rfl rfl ?_
  obtain ⟨r_1, hc_2, h⟩ := bd_E h
  refine cl_X10_185 C ⟨Nat.le_of_ble_eq_true rfl, Nat.le_of_ble_eq_true rfl⟩ (m_X1_isPayment _ _ _ M x1 hc_2) (Nat.le_of_ble_eq_true rfl) dX10_payment_5 ?_
  refine r_if_ne C.1 13 dX10_payment_8 (by decide) (fun c_3 => ?_) (fun c_3 => ?_)
  · replace h := ite_F c_3 h
    refine r_aload_n C.1 0 dX10_payment_13 rfl rfl ?_
    refine gf_X10_26 C dX10_payment_14 ?_
    refine gf_X10_188_17 C dX10_payment_17 ?_
    refine r_iload_n C.1 1 dX10_payment_20 rfl rfl ?_
    obtain ⟨q_4, h⟩ := gd_E h
    refine r_aldq C.1 (cK C (by decide)) (cS C (sh_21)) 3 (cT3 C) q_4 (y := x_ad x (45 + x1.toNatClampNeg)) rfl dX10_payment_21 ?_
    refine r_astore_n C.1 [(3, .ref (x_ad x (45 + x1.toNatClampNeg))), (0, .ref (x_ad x 0)), (1, .int x1), (2, .int x2)] dX10_payment_22 rfl (by decide) rfl ?_
    refine r_iload_n C.1 3 dX10_payment_23 rfl rfl ?_
    by_cases c_50 : x2 = (0 : Int32)
    · replace h := ite_T c_50 h
      refine r_tin C.1 c_50 60 dX10_payment_24 (by decide) (by decide) rfl (by decide) ?_
      refine r_aload_n C.1 0 dX10_payment_60 rfl rfl ?_
      refine r_iconst (v := 2) C.1 dX10_payment_61 rfl ?_
      obtain ⟨r_6, hc_7, h⟩ := bd_E h
      refine cl_X10_202 C (kE_17 (vp_lt q_4)) ⟨Nat.le_of_ble_eq_true rfl, Nat.le_of_ble_eq_true rfl⟩ (m_X2_part _ _ _ M (45 + x1.toNatClampNeg) (2 : Int32) (kE_17 (vp_lt q_4)) hc_7) (Nat.le_of_ble_eq_true rfl) dX10_payment_62 ?_
      obtain rfl := Option.some.inj h
      exact r_iret C.1 hr ev eM dX10_payment_65
    · replace h := ite_F c_50 h
      by_cases c_51 : x2 = (1 : Int32)
      · replace h := ite_T c_51 h
        refine r_tin C.1 c_51 66 dX10_payment_24 (by decide) (by decide) rfl (by decide) ?_
        refine r_aload_n C.1 0 dX10_payment_66 rfl rfl ?_
        refine r_iconst (v := 3) C.1 dX10_payment_67 rfl ?_
        obtain ⟨r_8, hc_9, h⟩ := bd_E h
        refine cl_X10_202 C (kE_17 (vp_lt q_4)) ⟨Nat.le_of_ble_eq_true rfl, Nat.le_of_ble_eq_true rfl⟩ (m_X2_part _ _ _ M (45 + x1.toNatClampNeg) (3 : Int32) (kE_17 (vp_lt q_4)) hc_9) (Nat.le_of_ble_eq_true rfl) dX10_payment_68 ?_
        obtain rfl := Option.some.inj h
        exact r_iret C.1 hr ev eM dX10_payment_71
      · replace h := ite_F c_51 h
        by_cases c_52 : x2 = (2 : Int32)
        · replace h := ite_T c_52 h
          refine r_tin C.1 c_52 72 dX10_payment_24 (by decide) (by decide) rfl (by decide) ?_
          refine r_aload_n C.1 0 dX10_payment_72 rfl rfl ?_
          refine gfk_X10_270 C (kE_17 (vp_lt q_4)) dX10_payment_73 ?_
          refine r_if_eq C.1 83 dX10_payment_76 (by decide) (fun c_10 => ?_) (fun c_10 => ?_)
          · replace h := ite_T c_10 h
            refine r_iconst (v := 0) C.1 dX10_payment_83 rfl ?_
            exact r_sub [] rfl (w_X10_payment_84 C M (0 : Int32) _ h hr ev eM)
          · replace h := ite_F c_10 h
            refine r_iconst (v := 1) C.1 dX10_payment_79 rfl ?_
            refine r_goto C.1 84 dX10_payment_80 (by decide) ?_
            exact r_sub [] rfl (w_X10_payment_84 C M (1 : Int32) _ h hr ev eM)
        · replace h := ite_F c_52 h
          by_cases c_53 : x2 = (3 : Int32)
          · replace h := ite_T c_53 h
            refine r_tin C.1 c_53 85 dX10_payment_24 (by decide) (by decide) rfl (by decide) ?_
            refine r_aload_n C.1 0 dX10_payment_85 rfl rfl ?_
            refine r_aload_n C.1 1 dX10_payment_86 rfl rfl ?_
            refine gf_X10_26 C dX10_payment_87 ?_
            refine gf_X10_94_17 C dX10_payment_90 ?_
            refine r_iconst (v := 1) C.1 dX10_payment_93 rfl ?_
            obtain ⟨q_11, h⟩ := gd_E h
            refine r_iald C.1 (cK C (by decide)) (cS C (sh_18)) 0 (cT0 C) q_11 dX10_payment_94 ?_
            obtain ⟨r_12, hc_13, h⟩ := bd_E h
            refine cl_X10_273 C (kE_17 (vp_lt q_4)) ⟨Nat.le_of_ble_eq_true rfl, Nat.le_of_ble_eq_true rfl⟩ (m_X2_isBacked _ _ _ M (45 + x1.toNatClampNeg) (M 18 (1 : Int32).toNatClampNeg) (kE_17 (vp_lt q_4)) hc_13) (Nat.le_of_ble_eq_true rfl) dX10_payment_95 ?_
            refine r_if_eq C.1 105 dX10_payment_98 (by decide) (fun c_14 => ?_) (fun c_14 => ?_)
            · replace h := ite_T c_14 h
              refine r_iconst (v := 0) C.1 dX10_payment_105 rfl ?_
              exact r_sub [] rfl (w_X10_payment_106 C M (0 : Int32) _ h hr ev eM)
            · replace h := ite_F c_14 h
              refine r_iconst (v := 1) C.1 dX10_payment_101 rfl ?_
              refine r_goto C.1 106 dX10_payment_102 (by decide) ?_
              exact r_sub [] rfl (w_X10_payment_106 C M (1 : Int32) _ h hr ev eM)
          · replace h := ite_F c_53 h
            by_cases c_54 : x2 = (4 : Int32)
            · replace h := ite_T c_54 h
              refine r_tin C.1 c_54 107 dX10_payment_24 (by decide) (by decide) rfl (by decide) ?_
              refine r_aload_n C.1 0 dX10_payment_107 rfl rfl ?_
              refine gfk_X10_199 C (kE_17 (vp_lt q_4)) dX10_payment_108 ?_
              refine r_if_eq C.1 118 dX10_payment_111 (by decide) (fun c_15 => ?_) (fun c_15 => ?_)
              · replace h := ite_T c_15 h
                refine r_iconst (v := 0) C.1 dX10_payment_118 rfl ?_
                exact r_sub [] rfl (w_X10_payment_119 C M (0 : Int32) _ h hr ev eM)
              · replace h := ite_F c_15 h
                refine r_iconst (v := 1) C.1 dX10_payment_114 rfl ?_
                refine r_goto C.1 119 dX10_payment_115 (by decide) ?_
                exact r_sub [] rfl (w_X10_payment_119 C M (1 : Int32) _ h hr ev eM)
            · replace h := ite_F c_54 h
              have qc_50 := ne_toInt c_50
              have qc_51 := ne_toInt c_51
              have qc_52 := ne_toInt c_52
              have qc_53 := ne_toInt c_53
              have qc_54 := ne_toInt c_54
              refine r_tout C.1 120 dX10_payment_24 (tout_0_4 qc_50 qc_51 qc_52 qc_53 qc_54) (by decide) ?_
              refine r_iconst (v := -1) C.1 dX10_payment_120 rfl ?_
              obtain rfl := Option.some.inj h
              exact r_iret C.1 hr ev eM dX10_payment_121
  · replace h := ite_T c_3 h
    refine r_iconst (v := -1) C.1 dX10_payment_11 rfl ?_
    obtain rfl := Option.some.inj h
    exact r_iret C.1 hr ev eM dX10_payment_12
def f_X10_payment (M : xM) (x1 : Int32) (x2 : Int32) : Option (Int32) := b_X10_payment_0 M x1 x2
set_option maxRecDepth 20000 in
theorem m_X10_payment (l : Launch) (D : va_G) (ad : Nat → Nat) (M : xM) (x1 : Int32) (x2 : Int32)  {o : Int32} (h : f_X10_payment M x1 x2 = some o) : xMetC l yX10_payment cX10_payment 4 (some .int) ({ frames := 1, cells := 0, slots := 0, locals := 21 } : Room) [.ref (ad 0), .int x1, .int x2] D ad M (some (.int o)) M := by
  refine xMetC_of (own := RX10) (by decide) rfl (Nat.le_of_ble_eq_true rfl) ?_
  intro x C e1 e2 e3 ev eM hr
  subst e1; subst e2; subst e3
  refine r_sub (L := [(0, .ref (x_ad x 0)), (1, .int x1), (2, .int x2)]) (L' := [(0, .ref (x_ad x 0)), (1, .int x1), (2, .int x2)]) [0, 1, 2] rfl ?_
  exact w_X10_payment_0 C M x1 x2 _ h hr ev eM

def b_X10_carriedInto_0 (M : xM) (x1 : Int32) (x2 : Int32) : Option (Int32) :=
  if x2 = 0 then some (0 : Int32) else bd (f_X10_firstDay M x2) (fun r_2 => bd (f_X1_moneyOn M x1 (r_2 - (1 : Int32))) (fun r_4 => gd x1 4 (bd (f_X8_broughtBy M (25 + 5 * x1.toNatClampNeg) (x2 - (1 : Int32))) (fun r_7 => some (r_4 + r_7)))))
set_option maxRecDepth 20000 in
set_option maxHeartbeats 2000000 in
theorem w_X10_carriedInto_0 {x : xC} (C : CtC x RX10 cX10_carriedInto 3 ({ frames := 4, cells := 0, slots := 0, locals := 92 } : Room)) (M : xM) (x1 : Int32) (x2 : Int32)  (o : Int32) (h : b_X10_carriedInto_0 M x1 x2 = some o) (hr : (x_me x).sig.returnType = some .int) (ev : x_rv x = some (.int o)) (eM : x_M x = M) : J x M 0 [(0, .ref (x_ad x 0)), (1, .int x1), (2, .int x2)] [] := by
  unfold b_X10_carriedInto_0 at h
  refine r_iload_n C.1 2 dX10_carriedInto_0 rfl rfl ?_
  refine r_if_ne C.1 6 dX10_carriedInto_1 (by decide) (fun c_1 => ?_) (fun c_1 => ?_)
  · replace h := ite_F c_1 h
    refine r_aload_n C.1 0 dX10_carriedInto_6 rfl rfl ?_
    refine gf_X10_26 C dX10_carriedInto_7 ?_
    refine r_iload_n C.1 1 dX10_carriedInto_10 rfl rfl ?_
    refine r_iload_n C.1 2 dX10_carriedInto_11 rfl rfl ?_
    obtain ⟨r_2, hc_3, h⟩ := bd_E h
    refine cl_X10_279 C ⟨Nat.le_of_ble_eq_true rfl, Nat.le_of_ble_eq_true rfl⟩ (m_X10_firstDay _ _ _ M x2 hc_3) (Nat.le_of_ble_eq_true rfl) dX10_carriedInto_12 ?_
    refine r_iconst (v := 1) C.1 dX10_carriedInto_15 rfl ?_
    refine r_isub C.1 dX10_carriedInto_16 ?_
    obtain ⟨r_4, hc_5, h⟩ := bd_E h
    refine cl_X10_162 C ⟨Nat.le_of_ble_eq_true rfl, Nat.le_of_ble_eq_true rfl⟩ (m_X1_moneyOn _ _ _ M x1 (r_2 - (1 : Int32)) hc_5) (Nat.le_of_ble_eq_true rfl) dX10_carriedInto_17 ?_
    refine r_aload_n C.1 0 dX10_carriedInto_20 rfl rfl ?_
    refine gf_X10_26 C dX10_carriedInto_21 ?_
    refine gf_X10_120_17 C dX10_carriedInto_24 ?_
    refine r_iload_n C.1 1 dX10_carriedInto_27 rfl rfl ?_
    obtain ⟨q_6, h⟩ := gd_E h
    refine r_aldq C.1 (cK C (by decide)) (cS C (sh_20)) 2 (cT2 C) q_6 (y := x_ad x (25 + 5 * x1.toNatClampNeg)) rfl dX10_carriedInto_28 ?_
    refine r_iload_n C.1 2 dX10_carriedInto_29 rfl rfl ?_
    refine r_iconst (v := 1) C.1 dX10_carriedInto_30 rfl ?_
    refine r_isub C.1 dX10_carriedInto_31 ?_
    obtain ⟨r_7, hc_8, h⟩ := bd_E h
    refine cl_X10_226 C (kW_17 (vp_lt q_6)) ⟨Nat.le_of_ble_eq_true rfl, Nat.le_of_ble_eq_true rfl⟩ (m_X8_broughtBy _ _ _ M (25 + 5 * x1.toNatClampNeg) (x2 - (1 : Int32)) (kW_17 (vp_lt q_6)) hc_8) (Nat.le_of_ble_eq_true rfl) dX10_carriedInto_32 ?_
    refine r_iadd C.1 dX10_carriedInto_35 ?_
    obtain rfl := Option.some.inj h
    exact r_iret C.1 hr ev eM dX10_carriedInto_36
  · replace h := ite_T c_1 h
    refine r_iconst (v := 0) C.1 dX10_carriedInto_4 rfl ?_
    obtain rfl := Option.some.inj h
    exact r_iret C.1 hr ev eM dX10_carriedInto_5
def f_X10_carriedInto (M : xM) (x1 : Int32) (x2 : Int32) : Option (Int32) := b_X10_carriedInto_0 M x1 x2
set_option maxRecDepth 20000 in
theorem m_X10_carriedInto (l : Launch) (D : va_G) (ad : Nat → Nat) (M : xM) (x1 : Int32) (x2 : Int32)  {o : Int32} (h : f_X10_carriedInto M x1 x2 = some o) : xMetC l yX10_carriedInto cX10_carriedInto 3 (some .int) ({ frames := 4, cells := 0, slots := 0, locals := 92 } : Room) [.ref (ad 0), .int x1, .int x2] D ad M (some (.int o)) M := by
  refine xMetC_of (own := RX10) (by decide) rfl (Nat.le_of_ble_eq_true rfl) ?_
  intro x C e1 e2 e3 ev eM hr
  subst e1; subst e2; subst e3
  refine r_sub (L := [(0, .ref (x_ad x 0)), (1, .int x1), (2, .int x2)]) (L' := [(0, .ref (x_ad x 0)), (1, .int x1), (2, .int x2)]) [0, 1, 2] rfl ?_
  exact w_X10_carriedInto_0 C M x1 x2 _ h hr ev eM

def b_X10_account_18 (M : xM)  : Option (Int32 × xM) :=
  some ((-1000000000 : Int32), M)
set_option maxRecDepth 20000 in
set_option maxHeartbeats 2000000 in
theorem w_X10_account_18 {x : xC} (C : CtC x RX10 cX10_account 4 ({ frames := 5, cells := 0, slots := 0, locals := 122 } : Room)) (M : xM)   (o : Int32 × xM) (h : b_X10_account_18 M = some o) (hr : (x_me x).sig.returnType = some .int) (ev : x_rv x = some (.int o.1)) (eM : x_M x = o.2) : J x M 18 [] [] := by
  unfold b_X10_account_18 at h
  refine r_ldc (v := -1000000000) C.1 kw_729 dX10_account_18 ?_
  obtain rfl := Option.some.inj h
  exact r_iret C.1 hr ev eM dX10_account_20

def b_X10_account_75 (M : xM) (x1 : Int32) (x2 : Int32) (x3 : Int32) : Option (Int32 × xM) :=
  bd (f_X10_firstDay M x2) (fun r_1 => bd (f_X10_lastDay M x2) (fun r_3 => bd (f_X1_partOf M x1 r_1 r_3 x3) (fun r_5 => some (r_5, M))))
set_option maxRecDepth 20000 in
set_option maxHeartbeats 2000000 in
theorem w_X10_account_75 {x : xC} (C : CtC x RX10 cX10_account 4 ({ frames := 5, cells := 0, slots := 0, locals := 122 } : Room)) (M : xM) (x1 : Int32) (x2 : Int32) (x3 : Int32)  (o : Int32 × xM) (h : b_X10_account_75 M x1 x2 x3 = some o) (hr : (x_me x).sig.returnType = some .int) (ev : x_rv x = some (.int o.1)) (eM : x_M x = o.2) : J x M 75 [(0, .ref (x_ad x 0)), (1, .int x1), (2, .int x2), (3, .int x3)] [] := by
  unfold b_X10_account_75 at h
  refine r_aload_n C.1 0 dX10_account_75 rfl rfl ?_
  refine gf_X10_26 C dX10_account_76 ?_
  refine r_iload_n C.1 1 dX10_account_79 rfl rfl ?_
  refine r_iload_n C.1 2 dX10_account_80 rfl rfl ?_
  obtain ⟨r_1, hc_2, h⟩ := bd_E h
  refine cl_X10_279 C ⟨Nat.le_of_ble_eq_true rfl, Nat.le_of_ble_eq_true rfl⟩ (m_X10_firstDay _ _ _ M x2 hc_2) (Nat.le_of_ble_eq_true rfl) dX10_account_81 ?_
  refine r_iload_n C.1 2 dX10_account_84 rfl rfl ?_
  obtain ⟨r_3, hc_4, h⟩ := bd_E h
  refine cl_X10_223 C ⟨Nat.le_of_ble_eq_true rfl, Nat.le_of_ble_eq_true rfl⟩ (m_X10_lastDay _ _ _ M x2 hc_4) (Nat.le_of_ble_eq_true rfl) dX10_account_85 ?_
  refine r_iload_n C.1 3 dX10_account_88 rfl rfl ?_
  obtain ⟨r_5, hc_6, h⟩ := bd_E h
  refine cl_X10_282 C ⟨Nat.le_of_ble_eq_true rfl, Nat.le_of_ble_eq_true rfl⟩ (m_X1_partOf _ _ _ M x1 r_1 r_3 x3 hc_6) (Nat.le_of_ble_eq_true rfl) dX10_account_89 ?_
  obtain rfl := Option.some.inj h
  exact r_iret C.1 hr ev eM dX10_account_92

def b_X10_account_0 (M : xM) (x1 : Int32) (x2 : Int32) (x3 : Int32) : Option (Int32 × xM) :=
  bd (f_X1_hasWard M x1) (fun r_1 => if r_1 = 0 then b_X10_account_18 M else bd (f_X10_isYear M x2) (fun r_4 => if r_4 = 0 then b_X10_account_18 M else if x3 = (0 : Int32) then bd (f_X10_carriedInto M x1 x2) (fun r_8 => some (r_8, M)) else (if x3 = (1 : Int32) then b_X10_account_75 M x1 x2 x3 else (if x3 = (2 : Int32) then b_X10_account_75 M x1 x2 x3 else (if x3 = (3 : Int32) then b_X10_account_75 M x1 x2 x3 else (if x3 = (4 : Int32) then b_X10_account_75 M x1 x2 x3 else (if x3 = (5 : Int32) then bd2 (f_X10_chargeOf M x1 x2) (fun r_10 M_12 => some (r_10, M_12)) else (if x3 = (6 : Int32) then bd (f_X10_commissionOf M x1 x2) (fun r_13 => some (r_13, M)) else (if x3 = (7 : Int32) then bd (f_X10_lastDay M x2) (fun r_15 => bd (f_X1_moneyOn M x1 r_15) (fun r_17 => bd2 (f_X10_chargeOf M x1 x2) (fun r_19 M_21 => bd (f_X10_commissionOf M_21 x1 x2) (fun r_22 => some ((r_17 + r_19) - r_22, M_21))))) else (some ((-1000000000 : Int32), M)))))))))))
set_option maxRecDepth 20000 in
set_option maxHeartbeats 2000000 in
theorem w_X10_account_0 {x : xC} (C : CtC x RX10 cX10_account 4 ({ frames := 5, cells := 0, slots := 0, locals := 122 } : Room)) (M : xM) (x1 : Int32) (x2 : Int32) (x3 : Int32)  (o : Int32 × xM) (h : b_X10_account_0 M x1 x2 x3 = some o) (hr : (x_me x).sig.returnType = some .int) (ev : x_rv x = some (.int o.1)) (eM : x_M x = o.2) : J x M 0 [(0, .ref (x_ad x 0)), (1, .int x1), (2, .int x2), (3, .int x3)] [] := by
  unfold b_X10_account_0 at h
  refine r_aload_n C.1 0 dX10_account_0 rfl rfl ?_
  refine gf_X10_26 C dX10_account_1 ?_
  refine r_iload_n C.1 1 dX10_account_4 rfl rfl ?_
  obtain ⟨r_1, hc_2, h⟩ := bd_E h
  refine cl_X10_130 C ⟨Nat.le_of_ble_eq_true rfl, Nat.le_of_ble_eq_true rfl⟩ (m_X1_hasWard _ _ _ M x1 hc_2) (Nat.le_of_ble_eq_true rfl) dX10_account_5 ?_
  refine r_if_eq C.1 18 dX10_account_8 (by decide) (fun c_3 => ?_) (fun c_3 => ?_)
  · replace h := ite_T c_3 h
    exact r_sub [] rfl (w_X10_account_18 C M _ h hr ev eM)
  · replace h := ite_F c_3 h
    refine r_iload_n C.1 2 dX10_account_11 rfl rfl ?_
    obtain ⟨r_4, hc_5, h⟩ := bd_E h
    refine cl_X10_239 C ⟨Nat.le_of_ble_eq_true rfl, Nat.le_of_ble_eq_true rfl⟩ (m_X10_isYear _ _ _ M x2 hc_5) (Nat.le_of_ble_eq_true rfl) dX10_account_12 ?_
    refine r_if_ne C.1 21 dX10_account_15 (by decide) (fun c_6 => ?_) (fun c_6 => ?_)
    · replace h := ite_F c_6 h
      refine r_iload_n C.1 3 dX10_account_21 rfl rfl ?_
      by_cases c_70 : x3 = (0 : Int32)
      · replace h := ite_T c_70 h
        refine r_tin C.1 c_70 68 dX10_account_22 (by decide) (by decide) rfl (by decide) ?_
        refine r_aload_n C.1 0 dX10_account_68 rfl rfl ?_
        refine r_iload_n C.1 1 dX10_account_69 rfl rfl ?_
        refine r_iload_n C.1 2 dX10_account_70 rfl rfl ?_
        obtain ⟨r_8, hc_9, h⟩ := bd_E h
        refine cl_X10_276 C ⟨Nat.le_of_ble_eq_true rfl, Nat.le_of_ble_eq_true rfl⟩ (m_X10_carriedInto _ _ _ M x1 x2 hc_9) (Nat.le_of_ble_eq_true rfl) dX10_account_71 ?_
        obtain rfl := Option.some.inj h
        exact r_iret C.1 hr ev eM dX10_account_74
      · replace h := ite_F c_70 h
        by_cases c_71 : x3 = (1 : Int32)
        · replace h := ite_T c_71 h
          refine r_tin C.1 c_71 75 dX10_account_22 (by decide) (by decide) rfl (by decide) ?_
          exact r_sub [0, 1, 2, 3] rfl (w_X10_account_75 C M x1 x2 x3 _ h hr ev eM)
        · replace h := ite_F c_71 h
          by_cases c_72 : x3 = (2 : Int32)
          · replace h := ite_T c_72 h
            refine r_tin C.1 c_72 75 dX10_account_22 (by decide) (by decide) rfl (by decide) ?_
            exact r_sub [0, 1, 2, 3] rfl (w_X10_account_75 C M x1 x2 x3 _ h hr ev eM)
          · replace h := ite_F c_72 h
            by_cases c_73 : x3 = (3 : Int32)
            · replace h := ite_T c_73 h
              refine r_tin C.1 c_73 75 dX10_account_22 (by decide) (by decide) rfl (by decide) ?_
              exact r_sub [0, 1, 2, 3] rfl (w_X10_account_75 C M x1 x2 x3 _ h hr ev eM)
            · replace h := ite_F c_73 h
              by_cases c_74 : x3 = (4 : Int32)
              · replace h := ite_T c_74 h
                refine r_tin C.1 c_74 75 dX10_account_22 (by decide) (by decide) rfl (by decide) ?_
                exact r_sub [0, 1, 2, 3] rfl (w_X10_account_75 C M x1 x2 x3 _ h hr ev eM)
              · replace h := ite_F c_74 h
                by_cases c_75 : x3 = (5 : Int32)
                · replace h := ite_T c_75 h
                  refine r_tin C.1 c_75 93 dX10_account_22 (by decide) (by decide) rfl (by decide) ?_
                  refine r_aload_n C.1 0 dX10_account_93 rfl rfl ?_
                  refine r_iload_n C.1 1 dX10_account_94 rfl rfl ?_
                  refine r_iload_n C.1 2 dX10_account_95 rfl rfl ?_
                  obtain ⟨r_10, M_12, hc_11, h⟩ := bd2_E h
                  refine cl_X10_214 C ⟨Nat.le_of_ble_eq_true rfl, Nat.le_of_ble_eq_true rfl⟩ (m_X10_chargeOf _ _ _ M x1 x2 hc_11) (Nat.le_of_ble_eq_true rfl) dX10_account_96 ?_
                  obtain rfl := Option.some.inj h
                  exact r_iret C.1 hr ev eM dX10_account_99
                · replace h := ite_F c_75 h
                  by_cases c_76 : x3 = (6 : Int32)
                  · replace h := ite_T c_76 h
                    refine r_tin C.1 c_76 100 dX10_account_22 (by decide) (by decide) rfl (by decide) ?_
                    refine r_aload_n C.1 0 dX10_account_100 rfl rfl ?_
                    refine r_iload_n C.1 1 dX10_account_101 rfl rfl ?_
                    refine r_iload_n C.1 2 dX10_account_102 rfl rfl ?_
                    obtain ⟨r_13, hc_14, h⟩ := bd_E h
                    refine cl_X10_220 C ⟨Nat.le_of_ble_eq_true rfl, Nat.le_of_ble_eq_true rfl⟩ (m_X10_commissionOf _ _ _ M x1 x2 hc_14) (Nat.le_of_ble_eq_true rfl) dX10_account_103 ?_
                    obtain rfl := Option.some.inj h
                    exact r_iret C.1 hr ev eM dX10_account_106
                  · replace h := ite_F c_76 h
                    by_cases c_77 : x3 = (7 : Int32)
                    · replace h := ite_T c_77 h
                      refine r_tin C.1 c_77 107 dX10_account_22 (by decide) (by decide) rfl (by decide) ?_
                      refine r_aload_n C.1 0 dX10_account_107 rfl rfl ?_
                      refine gf_X10_26 C dX10_account_108 ?_
                      refine r_iload_n C.1 1 dX10_account_111 rfl rfl ?_
                      refine r_iload_n C.1 2 dX10_account_112 rfl rfl ?_
                      obtain ⟨r_15, hc_16, h⟩ := bd_E h
                      refine cl_X10_223 C ⟨Nat.le_of_ble_eq_true rfl, Nat.le_of_ble_eq_true rfl⟩ (m_X10_lastDay _ _ _ M x2 hc_16) (Nat.le_of_ble_eq_true rfl) dX10_account_113 ?_
                      obtain ⟨r_17, hc_18, h⟩ := bd_E h
                      refine cl_X10_162 C ⟨Nat.le_of_ble_eq_true rfl, Nat.le_of_ble_eq_true rfl⟩ (m_X1_moneyOn _ _ _ M x1 r_15 hc_18) (Nat.le_of_ble_eq_true rfl) dX10_account_116 ?_
                      refine r_aload_n C.1 0 dX10_account_119 rfl rfl ?_
                      refine r_iload_n C.1 1 dX10_account_120 rfl rfl ?_
                      refine r_iload_n C.1 2 dX10_account_121 rfl rfl ?_
                      obtain ⟨r_19, M_21, hc_20, h⟩ := bd2_E h
                      refine cl_X10_214 C ⟨Nat.le_of_ble_eq_true rfl, Nat.le_of_ble_eq_true rfl⟩ (m_X10_chargeOf _ _ _ M x1 x2 hc_20) (Nat.le_of_ble_eq_true rfl) dX10_account_122 ?_
                      refine r_iadd C.1 dX10_account_125 ?_
                      refine r_aload_n C.1 0 dX10_account_126 rfl rfl ?_
                      refine r_iload_n C.1 1 dX10_account_127 rfl rfl ?_
                      refine r_iload_n C.1 2 dX10_account_128 rfl rfl ?_
                      obtain ⟨r_22, hc_23, h⟩ := bd_E h
                      refine cl_X10_220 C ⟨Nat.le_of_ble_eq_true rfl, Nat.le_of_ble_eq_true rfl⟩ (m_X10_commissionOf _ _ _ M_21 x1 x2 hc_23) (Nat.le_of_ble_eq_true rfl) dX10_account_129 ?_
                      refine r_isub C.1 dX10_account_132 ?_
                      obtain rfl := Option.some.inj h
                      exact r_iret C.1 hr ev eM dX10_account_133
                    · replace h := ite_F c_77 h
                      have qc_70 := ne_toInt c_70
                      have qc_71 := ne_toInt c_71
                      have qc_72 := ne_toInt c_72
                      have qc_73 := ne_toInt c_73
                      have qc_74 := ne_toInt c_74
                      have qc_75 := ne_toInt c_75
                      have qc_76 := ne_toInt c_76
                      have qc_77 := ne_toInt c_77
                      refine r_tout C.1 134 dX10_account_22 (tout_0_7 qc_70 qc_71 qc_72 qc_73 qc_74 qc_75 qc_76 qc_77) (by decide) ?_
                      refine r_ldc (v := -1000000000) C.1 kw_729 dX10_account_134 ?_
                      obtain rfl := Option.some.inj h
                      exact r_iret C.1 hr ev eM dX10_account_136
    · replace h := ite_T c_6 h
      exact r_sub [] rfl (w_X10_account_18 C M _ h hr ev eM)
def f_X10_account (M : xM) (x1 : Int32) (x2 : Int32) (x3 : Int32) : Option (Int32 × xM) := b_X10_account_0 M x1 x2 x3
set_option maxRecDepth 20000 in
theorem m_X10_account (l : Launch) (D : va_G) (ad : Nat → Nat) (M : xM) (x1 : Int32) (x2 : Int32) (x3 : Int32)  {r : Int32} {M1 : xM} (h : f_X10_account M x1 x2 x3 = some (r, M1)) : xMetC l yX10_account cX10_account 4 (some .int) ({ frames := 5, cells := 0, slots := 0, locals := 122 } : Room) [.ref (ad 0), .int x1, .int x2, .int x3] D ad M (some (.int r)) M1 := by
  refine xMetC_of (own := RX10) (by decide) rfl (Nat.le_of_ble_eq_true rfl) ?_
  intro x C e1 e2 e3 ev eM hr
  subst e1; subst e2; subst e3
  refine r_sub (L := [(0, .ref (x_ad x 0)), (1, .int x1), (2, .int x2), (3, .int x3)]) (L' := [(0, .ref (x_ad x 0)), (1, .int x1), (2, .int x2), (3, .int x3)]) [0, 1, 2, 3] rfl ?_
  exact w_X10_account_0 C M x1 x2 x3 _ h hr ev eM

def b_X10_month_148 (M : xM) (s0 : Int32) (s1 : Int32) (s2 : Int32) : Option (Int32 × xM) :=
  bd (f_X9_extremeDay M s2 s1 s0) (fun r_1 => bd (f_X9_moneyOfDay M r_1) (fun r_3 => some (r_3, M)))
set_option maxRecDepth 20000 in
set_option maxHeartbeats 2000000 in
theorem w_X10_month_148 {x : xC} (C : CtC x RX10 cX10_month 6 ({ frames := 4, cells := 0, slots := 0, locals := 100 } : Room)) (M : xM) (s0 : Int32) (s1 : Int32) (s2 : Int32)  (o : Int32 × xM) (h : b_X10_month_148 M s0 s1 s2 = some o) (hr : (x_me x).sig.returnType = some .int) (ev : x_rv x = some (.int o.1)) (eM : x_M x = o.2) : J x M 148 [] [.int s0, .int s1, .int s2, .ref (x_ad x 11), .ref (x_ad x 11)] := by
  unfold b_X10_month_148 at h
  obtain ⟨r_1, hc_2, h⟩ := bd_E h
  refine cl_X10_290 C ⟨Nat.le_of_ble_eq_true rfl, Nat.le_of_ble_eq_true rfl⟩ (m_X9_extremeDay _ _ _ M s2 s1 s0 hc_2) (Nat.le_of_ble_eq_true rfl) dX10_month_148 ?_
  obtain ⟨r_3, hc_4, h⟩ := bd_E h
  refine cl_X10_293 C ⟨Nat.le_of_ble_eq_true rfl, Nat.le_of_ble_eq_true rfl⟩ (m_X9_moneyOfDay _ _ _ M r_1 hc_4) (Nat.le_of_ble_eq_true rfl) dX10_month_151 ?_
  obtain rfl := Option.some.inj h
  exact r_iret C.1 hr ev eM dX10_month_154

def b_X10_month_100 (M : xM) (x1 : Int32) (x3 : Int32) (x4 : Int32) (x5 : Int32) : Option (Int32 × xM) :=
  bd (f_X9_look M x1 (x4 / (360 : Int32))) (fun M_3 => if x3 = (3 : Int32) then b_X10_month_148 M_3 (1 : Int32) (x5 - x5 / (360 : Int32) * (360 : Int32)) (x4 - x4 / (360 : Int32) * (360 : Int32)) else b_X10_month_148 M_3 (0 : Int32) (x5 - x5 / (360 : Int32) * (360 : Int32)) (x4 - x4 / (360 : Int32) * (360 : Int32)))
set_option maxRecDepth 20000 in
set_option maxHeartbeats 2000000 in
theorem w_X10_month_100 {x : xC} (C : CtC x RX10 cX10_month 6 ({ frames := 4, cells := 0, slots := 0, locals := 100 } : Room)) (M : xM) (x1 : Int32) (x3 : Int32) (x4 : Int32) (x5 : Int32)  (o : Int32 × xM) (h : b_X10_month_100 M x1 x3 x4 x5 = some o) (hr : (x_me x).sig.returnType = some .int) (ev : x_rv x = some (.int o.1)) (eM : x_M x = o.2) : J x M 100 [(0, .ref (x_ad x 0)), (1, .int x1), (3, .int x3), (4, .int x4), (5, .int x5)] [] := by
  unfold b_X10_month_100 at h
  refine r_aload_n C.1 0 dX10_month_100 rfl rfl ?_
  refine gf_X10_51 C dX10_month_101 ?_
  refine r_aload_n C.1 0 dX10_month_104 rfl rfl ?_
  refine gf_X10_26 C dX10_month_105 ?_
  refine r_iload_n C.1 1 dX10_month_108 rfl rfl ?_
  refine r_iload C.1 3 dX10_month_109 rfl ?_
  refine r_sipush (v := 360) C.1 dX10_month_111 (by decide) ?_
  refine r_idiv C.1 (by decide) dX10_month_114 ?_
  obtain ⟨M_3, hc_2, h⟩ := bd_E h
  refine cl_X10_286 C ⟨Nat.le_of_ble_eq_true rfl, Nat.le_of_ble_eq_true rfl⟩ (m_X9_look _ _ _ M x1 (x4 / (360 : Int32)) hc_2) (Nat.le_of_ble_eq_true rfl) dX10_month_115 ?_
  refine r_aload_n C.1 0 dX10_month_118 rfl rfl ?_
  refine gf_X10_51 C dX10_month_119 ?_
  refine r_aload_n C.1 0 dX10_month_122 rfl rfl ?_
  refine gf_X10_51 C dX10_month_123 ?_
  refine r_iload C.1 3 dX10_month_126 rfl ?_
  refine r_sipush (v := 360) C.1 dX10_month_128 (by decide) ?_
  refine r_irem C.1 (by decide) dX10_month_131 ?_
  refine r_iload C.1 4 dX10_month_132 rfl ?_
  refine r_sipush (v := 360) C.1 dX10_month_134 (by decide) ?_
  refine r_irem C.1 (by decide) dX10_month_137 ?_
  refine r_iload_n C.1 2 dX10_month_138 rfl rfl ?_
  refine r_iconst (v := 3) C.1 dX10_month_139 rfl ?_
  refine r_icmp_ne C.1 147 dX10_month_140 (by decide) (fun c_4 => ?_) (fun c_4 => ?_)
  · replace h := ite_F c_4 h
    refine r_iconst (v := 0) C.1 dX10_month_147 rfl ?_
    exact r_sub [] rfl (w_X10_month_148 C M_3 (0 : Int32) (x5 - x5 / (360 : Int32) * (360 : Int32)) (x4 - x4 / (360 : Int32) * (360 : Int32)) _ h hr ev eM)
  · replace h := ite_T c_4 h
    refine r_iconst (v := 1) C.1 dX10_month_143 rfl ?_
    refine r_goto C.1 148 dX10_month_144 (by decide) ?_
    exact r_sub [] rfl (w_X10_month_148 C M_3 (1 : Int32) (x5 - x5 / (360 : Int32) * (360 : Int32)) (x4 - x4 / (360 : Int32) * (360 : Int32)) _ h hr ev eM)

def b_X10_month_21 (M : xM)  : Option (Int32 × xM) :=
  some ((-1000000000 : Int32), M)
set_option maxRecDepth 20000 in
set_option maxHeartbeats 2000000 in
theorem w_X10_month_21 {x : xC} (C : CtC x RX10 cX10_month 6 ({ frames := 4, cells := 0, slots := 0, locals := 100 } : Room)) (M : xM)   (o : Int32 × xM) (h : b_X10_month_21 M = some o) (hr : (x_me x).sig.returnType = some .int) (ev : x_rv x = some (.int o.1)) (eM : x_M x = o.2) : J x M 21 [] [] := by
  unfold b_X10_month_21 at h
  refine r_ldc (v := -1000000000) C.1 kw_729 dX10_month_21 ?_
  obtain rfl := Option.some.inj h
  exact r_iret C.1 hr ev eM dX10_month_23

def b_X10_month_0 (M : xM) (x1 : Int32) (x2 : Int32) (x3 : Int32) : Option (Int32 × xM) :=
  bd (f_X1_hasWard M x1) (fun r_1 => if r_1 = 0 then b_X10_month_21 M else if x2 < 0 then b_X10_month_21 M else if x2 < (120 : Int32) then lt (x2 * (30 : Int32)) (fun y_6 => lt ((y_6 + (30 : Int32)) - (1 : Int32)) (fun y_7 => if x3 = (0 : Int32) then bd (f_X1_partOf M x1 y_6 y_7 (1 : Int32)) (fun r_9 => some (r_9, M)) else (if x3 = (1 : Int32) then bd (f_X1_partOf M x1 y_6 y_7 (2 : Int32)) (fun r_11 => some (r_11, M)) else (if x3 = (2 : Int32) then b_X10_month_100 M x1 x3 y_6 y_7 else (if x3 = (3 : Int32) then b_X10_month_100 M x1 x3 y_6 y_7 else (some ((-1000000000 : Int32), M))))))) else b_X10_month_21 M)
set_option maxRecDepth 20000 in
set_option maxHeartbeats 2000000 in
theorem w_X10_month_0 {x : xC} (C : CtC x RX10 cX10_month 6 ({ frames := 4, cells := 0, slots := 0, locals := 100 } : Room)) (M : xM) (x1 : Int32) (x2 : Int32) (x3 : Int32)  (o : Int32 × xM) (h : b_X10_month_0 M x1 x2 x3 = some o) (hr : (x_me x).sig.returnType = some .int) (ev : x_rv x = some (.int o.1)) (eM : x_M x = o.2) : J x M 0 [(0, .ref (x_ad x 0)), (1, .int x1), (2, .int x2), (3, .int x3)] [] := by
  unfold b_X10_month_0 at h
  refine r_aload_n C.1 0 dX10_month_0 rfl rfl ?_
  refine gf_X10_26 C dX10_month_1 ?_
  refine r_iload_n C.1 1 dX10_month_4 rfl rfl ?_
  obtain ⟨r_1, hc_2, h⟩ := bd_E h
  refine cl_X10_130 C ⟨Nat.le_of_ble_eq_true rfl, Nat.le_of_ble_eq_true rfl⟩ (m_X1_hasWard _ _ _ M x1 hc_2) (Nat.le_of_ble_eq_true rfl) dX10_month_5 ?_
  refine r_if_eq C.1 21 dX10_month_8 (by decide) (fun c_3 => ?_) (fun c_3 => ?_)
  · replace h := ite_T c_3 h
    exact r_sub [] rfl (w_X10_month_21 C M _ h hr ev eM)
  · replace h := ite_F c_3 h
    refine r_iload_n C.1 2 dX10_month_11 rfl rfl ?_
    refine r_if_lt C.1 21 dX10_month_12 (by decide) (fun c_4 => ?_) (fun c_4 => ?_)
    · replace h := ite_T c_4 h
      exact r_sub [] rfl (w_X10_month_21 C M _ h hr ev eM)
    · replace h := ite_F c_4 h
      refine r_iload_n C.1 2 dX10_month_15 rfl rfl ?_
      refine r_bipush (v := 120) C.1 dX10_month_16 (by decide) ?_
      refine r_icmp_lt C.1 24 dX10_month_18 (by decide) (fun c_5 => ?_) (fun c_5 => ?_)
      · replace h := ite_T c_5 h
        refine r_iload_n C.1 2 dX10_month_24 rfl rfl ?_
        refine r_bipush (v := 30) C.1 dX10_month_25 (by decide) ?_
        refine r_imul C.1 dX10_month_27 ?_
        obtain ⟨y_6, ey_6, h⟩ := lt_E h
        refine r_istore C.1 [(4, .int y_6), (0, .ref (x_ad x 0)), (1, .int x1), (2, .int x2), (3, .int x3)] dX10_month_28 (by decide) ey_6 rfl ?_
        refine r_iload C.1 0 dX10_month_30 rfl ?_
        refine r_bipush (v := 30) C.1 dX10_month_32 (by decide) ?_
        refine r_iadd C.1 dX10_month_34 ?_
        refine r_iconst (v := 1) C.1 dX10_month_35 rfl ?_
        refine r_isub C.1 dX10_month_36 ?_
        obtain ⟨y_7, ey_7, h⟩ := lt_E h
        refine r_istore C.1 [(5, .int y_7), (4, .int y_6), (0, .ref (x_ad x 0)), (1, .int x1), (2, .int x2), (3, .int x3)] dX10_month_37 (by decide) ey_7 rfl ?_
        refine r_iload_n C.1 5 dX10_month_39 rfl rfl ?_
        by_cases c_80 : x3 = (0 : Int32)
        · replace h := ite_T c_80 h
          refine r_tin C.1 c_80 72 dX10_month_40 (by decide) (by decide) rfl (by decide) ?_
          refine r_aload_n C.1 2 dX10_month_72 rfl rfl ?_
          refine gf_X10_26 C dX10_month_73 ?_
          refine r_iload_n C.1 3 dX10_month_76 rfl rfl ?_
          refine r_iload C.1 1 dX10_month_77 rfl ?_
          refine r_iload C.1 0 dX10_month_79 rfl ?_
          refine r_iconst (v := 1) C.1 dX10_month_81 rfl ?_
          obtain ⟨r_9, hc_10, h⟩ := bd_E h
          refine cl_X10_282 C ⟨Nat.le_of_ble_eq_true rfl, Nat.le_of_ble_eq_true rfl⟩ (m_X1_partOf _ _ _ M x1 y_6 y_7 (1 : Int32) hc_10) (Nat.le_of_ble_eq_true rfl) dX10_month_82 ?_
          obtain rfl := Option.some.inj h
          exact r_iret C.1 hr ev eM dX10_month_85
        · replace h := ite_F c_80 h
          by_cases c_81 : x3 = (1 : Int32)
          · replace h := ite_T c_81 h
            refine r_tin C.1 c_81 86 dX10_month_40 (by decide) (by decide) rfl (by decide) ?_
            refine r_aload_n C.1 2 dX10_month_86 rfl rfl ?_
            refine gf_X10_26 C dX10_month_87 ?_
            refine r_iload_n C.1 3 dX10_month_90 rfl rfl ?_
            refine r_iload C.1 1 dX10_month_91 rfl ?_
            refine r_iload C.1 0 dX10_month_93 rfl ?_
            refine r_iconst (v := 2) C.1 dX10_month_95 rfl ?_
            obtain ⟨r_11, hc_12, h⟩ := bd_E h
            refine cl_X10_282 C ⟨Nat.le_of_ble_eq_true rfl, Nat.le_of_ble_eq_true rfl⟩ (m_X1_partOf _ _ _ M x1 y_6 y_7 (2 : Int32) hc_12) (Nat.le_of_ble_eq_true rfl) dX10_month_96 ?_
            obtain rfl := Option.some.inj h
            exact r_iret C.1 hr ev eM dX10_month_99
          · replace h := ite_F c_81 h
            by_cases c_82 : x3 = (2 : Int32)
            · replace h := ite_T c_82 h
              refine r_tin C.1 c_82 100 dX10_month_40 (by decide) (by decide) rfl (by decide) ?_
              exact r_sub [2, 3, 5, 1, 0] rfl (w_X10_month_100 C M x1 x3 y_6 y_7 _ h hr ev eM)
            · replace h := ite_F c_82 h
              by_cases c_83 : x3 = (3 : Int32)
              · replace h := ite_T c_83 h
                refine r_tin C.1 c_83 100 dX10_month_40 (by decide) (by decide) rfl (by decide) ?_
                exact r_sub [2, 3, 5, 1, 0] rfl (w_X10_month_100 C M x1 x3 y_6 y_7 _ h hr ev eM)
              · replace h := ite_F c_83 h
                have qc_80 := ne_toInt c_80
                have qc_81 := ne_toInt c_81
                have qc_82 := ne_toInt c_82
                have qc_83 := ne_toInt c_83
                refine r_tout C.1 155 dX10_month_40 (tout_0_3 qc_80 qc_81 qc_82 qc_83) (by decide) ?_
                refine r_ldc (v := -1000000000) C.1 kw_729 dX10_month_155 ?_
                obtain rfl := Option.some.inj h
                exact r_iret C.1 hr ev eM dX10_month_157
      · replace h := ite_F c_5 h
        exact r_sub [] rfl (w_X10_month_21 C M _ h hr ev eM)
def f_X10_month (M : xM) (x1 : Int32) (x2 : Int32) (x3 : Int32) : Option (Int32 × xM) := b_X10_month_0 M x1 x2 x3
set_option maxRecDepth 20000 in
theorem m_X10_month (l : Launch) (D : va_G) (ad : Nat → Nat) (M : xM) (x1 : Int32) (x2 : Int32) (x3 : Int32)  {r : Int32} {M1 : xM} (h : f_X10_month M x1 x2 x3 = some (r, M1)) : xMetC l yX10_month cX10_month 6 (some .int) ({ frames := 4, cells := 0, slots := 0, locals := 100 } : Room) [.ref (ad 0), .int x1, .int x2, .int x3] D ad M (some (.int r)) M1 := by
  refine xMetC_of (own := RX10) (by decide) rfl (Nat.le_of_ble_eq_true rfl) ?_
  intro x C e1 e2 e3 ev eM hr
  subst e1; subst e2; subst e3
  refine r_sub (L := [(0, .ref (x_ad x 0)), (1, .int x1), (2, .int x2), (3, .int x3)]) (L' := [(0, .ref (x_ad x 0)), (1, .int x1), (2, .int x2), (3, .int x3)]) [0, 1, 2, 3] rfl ?_
  exact w_X10_month_0 C M x1 x2 x3 _ h hr ev eM

def b_X10_extreme_18 (M : xM)  : Option (Int32 × xM) :=
  some ((-1000000000 : Int32), M)
set_option maxRecDepth 20000 in
set_option maxHeartbeats 2000000 in
theorem w_X10_extreme_18 {x : xC} (C : CtC x RX10 cX10_extreme 4 ({ frames := 4, cells := 0, slots := 0, locals := 100 } : Room)) (M : xM)   (o : Int32 × xM) (h : b_X10_extreme_18 M = some o) (hr : (x_me x).sig.returnType = some .int) (ev : x_rv x = some (.int o.1)) (eM : x_M x = o.2) : J x M 18 [] [] := by
  unfold b_X10_extreme_18 at h
  refine r_ldc (v := -1000000000) C.1 kw_729 dX10_extreme_18 ?_
  obtain rfl := Option.some.inj h
  exact r_iret C.1 hr ev eM dX10_extreme_20

def b_X10_extreme_0 (M : xM) (x1 : Int32) (x2 : Int32) (x3 : Int32) : Option (Int32 × xM) :=
  bd (f_X1_hasWard M x1) (fun r_1 => if r_1 = 0 then b_X10_extreme_18 M else bd (f_X10_isYear M x2) (fun r_4 => if r_4 = 0 then b_X10_extreme_18 M else bd (f_X9_look M x1 x2) (fun M_9 => if x3 = (0 : Int32) then bd (f_X10_firstDay M_9 x2) (fun r_11 => bd (f_X9_extremeDay M_9 (0 : Int32) (359 : Int32) (1 : Int32)) (fun r_13 => some (r_11 + r_13, M_9))) else (if x3 = (1 : Int32) then bd (f_X10_firstDay M_9 x2) (fun r_15 => bd (f_X9_extremeDay M_9 (0 : Int32) (359 : Int32) (0 : Int32)) (fun r_17 => some (r_15 + r_17, M_9))) else (if x3 = (2 : Int32) then bd (f_X9_daysBelowNought M_9) (fun r_19 => some (r_19, M_9)) else (if x3 = (3 : Int32) then bd (f_X9_daysIdle M_9) (fun r_21 => some (r_21, M_9)) else (some ((-1000000000 : Int32), M_9))))))))
set_option maxRecDepth 20000 in
set_option maxHeartbeats 2000000 in
theorem w_X10_extreme_0 {x : xC} (C : CtC x RX10 cX10_extreme 4 ({ frames := 4, cells := 0, slots := 0, locals := 100 } : Room)) (M : xM) (x1 : Int32) (x2 : Int32) (x3 : Int32)  (o : Int32 × xM) (h : b_X10_extreme_0 M x1 x2 x3 = some o) (hr : (x_me x).sig.returnType = some .int) (ev : x_rv x = some (.int o.1)) (eM : x_M x = o.2) : J x M 0 [(0, .ref (x_ad x 0)), (1, .int x1), (2, .int x2), (3, .int x3)] [] := by
  unfold b_X10_extreme_0 at h
  refine r_aload_n C.1 0 dX10_extreme_0 rfl rfl ?_
  refine gf_X10_26 C dX10_extreme_1 ?_
  refine r_iload_n C.1 1 dX10_extreme_4 rfl rfl ?_
  obtain ⟨r_1, hc_2, h⟩ := bd_E h
  refine cl_X10_130 C ⟨Nat.le_of_ble_eq_true rfl, Nat.le_of_ble_eq_true rfl⟩ (m_X1_hasWard _ _ _ M x1 hc_2) (Nat.le_of_ble_eq_true rfl) dX10_extreme_5 ?_
  refine r_if_eq C.1 18 dX10_extreme_8 (by decide) (fun c_3 => ?_) (fun c_3 => ?_)
  · replace h := ite_T c_3 h
    exact r_sub [] rfl (w_X10_extreme_18 C M _ h hr ev eM)
  · replace h := ite_F c_3 h
    refine r_iload_n C.1 2 dX10_extreme_11 rfl rfl ?_
    obtain ⟨r_4, hc_5, h⟩ := bd_E h
    refine cl_X10_239 C ⟨Nat.le_of_ble_eq_true rfl, Nat.le_of_ble_eq_true rfl⟩ (m_X10_isYear _ _ _ M x2 hc_5) (Nat.le_of_ble_eq_true rfl) dX10_extreme_12 ?_
    refine r_if_ne C.1 21 dX10_extreme_15 (by decide) (fun c_6 => ?_) (fun c_6 => ?_)
    · replace h := ite_F c_6 h
      refine r_aload_n C.1 0 dX10_extreme_21 rfl rfl ?_
      refine gf_X10_51 C dX10_extreme_22 ?_
      refine r_aload_n C.1 0 dX10_extreme_25 rfl rfl ?_
      refine gf_X10_26 C dX10_extreme_26 ?_
      refine r_iload_n C.1 1 dX10_extreme_29 rfl rfl ?_
      refine r_iload_n C.1 2 dX10_extreme_30 rfl rfl ?_
      obtain ⟨M_9, hc_8, h⟩ := bd_E h
      refine cl_X10_286 C ⟨Nat.le_of_ble_eq_true rfl, Nat.le_of_ble_eq_true rfl⟩ (m_X9_look _ _ _ M x1 x2 hc_8) (Nat.le_of_ble_eq_true rfl) dX10_extreme_31 ?_
      refine r_iload_n C.1 3 dX10_extreme_34 rfl rfl ?_
      by_cases c_100 : x3 = (0 : Int32)
      · replace h := ite_T c_100 h
        refine r_tin C.1 c_100 64 dX10_extreme_35 (by decide) (by decide) rfl (by decide) ?_
        refine r_iload_n C.1 2 dX10_extreme_64 rfl rfl ?_
        obtain ⟨r_11, hc_12, h⟩ := bd_E h
        refine cl_X10_279 C ⟨Nat.le_of_ble_eq_true rfl, Nat.le_of_ble_eq_true rfl⟩ (m_X10_firstDay _ _ _ M_9 x2 hc_12) (Nat.le_of_ble_eq_true rfl) dX10_extreme_65 ?_
        refine r_aload_n C.1 0 dX10_extreme_68 rfl rfl ?_
        refine gf_X10_51 C dX10_extreme_69 ?_
        refine r_iconst (v := 0) C.1 dX10_extreme_72 rfl ?_
        refine r_sipush (v := 359) C.1 dX10_extreme_73 (by decide) ?_
        refine r_iconst (v := 1) C.1 dX10_extreme_76 rfl ?_
        obtain ⟨r_13, hc_14, h⟩ := bd_E h
        refine cl_X10_290 C ⟨Nat.le_of_ble_eq_true rfl, Nat.le_of_ble_eq_true rfl⟩ (m_X9_extremeDay _ _ _ M_9 (0 : Int32) (359 : Int32) (1 : Int32) hc_14) (Nat.le_of_ble_eq_true rfl) dX10_extreme_77 ?_
        refine r_iadd C.1 dX10_extreme_80 ?_
        obtain rfl := Option.some.inj h
        exact r_iret C.1 hr ev eM dX10_extreme_81
      · replace h := ite_F c_100 h
        by_cases c_101 : x3 = (1 : Int32)
        · replace h := ite_T c_101 h
          refine r_tin C.1 c_101 82 dX10_extreme_35 (by decide) (by decide) rfl (by decide) ?_
          refine r_iload_n C.1 2 dX10_extreme_82 rfl rfl ?_
          obtain ⟨r_15, hc_16, h⟩ := bd_E h
          refine cl_X10_279 C ⟨Nat.le_of_ble_eq_true rfl, Nat.le_of_ble_eq_true rfl⟩ (m_X10_firstDay _ _ _ M_9 x2 hc_16) (Nat.le_of_ble_eq_true rfl) dX10_extreme_83 ?_
          refine r_aload_n C.1 0 dX10_extreme_86 rfl rfl ?_
          refine gf_X10_51 C dX10_extreme_87 ?_
          refine r_iconst (v := 0) C.1 dX10_extreme_90 rfl ?_
          refine r_sipush (v := 359) C.1 dX10_extreme_91 (by decide) ?_
          refine r_iconst (v := 0) C.1 dX10_extreme_94 rfl ?_
          obtain ⟨r_17, hc_18, h⟩ := bd_E h
          refine cl_X10_290 C ⟨Nat.le_of_ble_eq_true rfl, Nat.le_of_ble_eq_true rfl⟩ (m_X9_extremeDay _ _ _ M_9 (0 : Int32) (359 : Int32) (0 : Int32) hc_18) (Nat.le_of_ble_eq_true rfl) dX10_extreme_95 ?_
          refine r_iadd C.1 dX10_extreme_98 ?_
          obtain rfl := Option.some.inj h
          exact r_iret C.1 hr ev eM dX10_extreme_99
        · replace h := ite_F c_101 h
          by_cases c_102 : x3 = (2 : Int32)
          · replace h := ite_T c_102 h
            refine r_tin C.1 c_102 100 dX10_extreme_35 (by decide) (by decide) rfl (by decide) ?_
            refine r_aload_n C.1 0 dX10_extreme_100 rfl rfl ?_
            refine gf_X10_51 C dX10_extreme_101 ?_
            obtain ⟨r_19, hc_20, h⟩ := bd_E h
            refine cl_X10_296 C ⟨Nat.le_of_ble_eq_true rfl, Nat.le_of_ble_eq_true rfl⟩ (m_X9_daysBelowNought _ _ _ M_9 hc_20) (Nat.le_of_ble_eq_true rfl) dX10_extreme_104 ?_
            obtain rfl := Option.some.inj h
            exact r_iret C.1 hr ev eM dX10_extreme_107
          · replace h := ite_F c_102 h
            by_cases c_103 : x3 = (3 : Int32)
            · replace h := ite_T c_103 h
              refine r_tin C.1 c_103 108 dX10_extreme_35 (by decide) (by decide) rfl (by decide) ?_
              refine r_aload_n C.1 0 dX10_extreme_108 rfl rfl ?_
              refine gf_X10_51 C dX10_extreme_109 ?_
              obtain ⟨r_21, hc_22, h⟩ := bd_E h
              refine cl_X10_300 C ⟨Nat.le_of_ble_eq_true rfl, Nat.le_of_ble_eq_true rfl⟩ (m_X9_daysIdle _ _ _ M_9 hc_22) (Nat.le_of_ble_eq_true rfl) dX10_extreme_112 ?_
              obtain rfl := Option.some.inj h
              exact r_iret C.1 hr ev eM dX10_extreme_115
            · replace h := ite_F c_103 h
              have qc_100 := ne_toInt c_100
              have qc_101 := ne_toInt c_101
              have qc_102 := ne_toInt c_102
              have qc_103 := ne_toInt c_103
              refine r_tout C.1 116 dX10_extreme_35 (tout_0_3 qc_100 qc_101 qc_102 qc_103) (by decide) ?_
              refine r_ldc (v := -1000000000) C.1 kw_729 dX10_extreme_116 ?_
              obtain rfl := Option.some.inj h
              exact r_iret C.1 hr ev eM dX10_extreme_118
    · replace h := ite_T c_6 h
      exact r_sub [] rfl (w_X10_extreme_18 C M _ h hr ev eM)
def f_X10_extreme (M : xM) (x1 : Int32) (x2 : Int32) (x3 : Int32) : Option (Int32 × xM) := b_X10_extreme_0 M x1 x2 x3
set_option maxRecDepth 20000 in
theorem m_X10_extreme (l : Launch) (D : va_G) (ad : Nat → Nat) (M : xM) (x1 : Int32) (x2 : Int32) (x3 : Int32)  {r : Int32} {M1 : xM} (h : f_X10_extreme M x1 x2 x3 = some (r, M1)) : xMetC l yX10_extreme cX10_extreme 4 (some .int) ({ frames := 4, cells := 0, slots := 0, locals := 100 } : Room) [.ref (ad 0), .int x1, .int x2, .int x3] D ad M (some (.int r)) M1 := by
  refine xMetC_of (own := RX10) (by decide) rfl (Nat.le_of_ble_eq_true rfl) ?_
  intro x C e1 e2 e3 ev eM hr
  subst e1; subst e2; subst e3
  refine r_sub (L := [(0, .ref (x_ad x 0)), (1, .int x1), (2, .int x2), (3, .int x3)]) (L' := [(0, .ref (x_ad x 0)), (1, .int x1), (2, .int x2), (3, .int x3)]) [0, 1, 2, 3] rfl ?_
  exact w_X10_extreme_0 C M x1 x2 x3 _ h hr ev eM

def b_X10_mean_24 (M : xM) (s0 : Int32) : Option (Int32) :=
  some s0
set_option maxRecDepth 20000 in
set_option maxHeartbeats 2000000 in
theorem w_X10_mean_24 {x : xC} (C : CtC x RX10 cX10_mean 2 ({ frames := 3, cells := 0, slots := 0, locals := 71 } : Room)) (M : xM) (s0 : Int32)  (o : Int32) (h : b_X10_mean_24 M s0 = some o) (hr : (x_me x).sig.returnType = some .int) (ev : x_rv x = some (.int o)) (eM : x_M x = M) : J x M 24 [] [.int s0] := by
  unfold b_X10_mean_24 at h
  obtain rfl := Option.some.inj h
  exact r_iret C.1 hr ev eM dX10_mean_24

def b_X10_mean_0 (M : xM) (x1 : Int32) : Option (Int32) :=
  bd (f_X1_hasWard M x1) (fun r_1 => if r_1 = 0 then b_X10_mean_24 M (-1000000000 : Int32) else bd (f_X1_meanOf M x1) (fun r_4 => b_X10_mean_24 M r_4))
set_option maxRecDepth 20000 in
set_option maxHeartbeats 2000000 in
theorem w_X10_mean_0 {x : xC} (C : CtC x RX10 cX10_mean 2 ({ frames := 3, cells := 0, slots := 0, locals := 71 } : Room)) (M : xM) (x1 : Int32)  (o : Int32) (h : b_X10_mean_0 M x1 = some o) (hr : (x_me x).sig.returnType = some .int) (ev : x_rv x = some (.int o)) (eM : x_M x = M) : J x M 0 [(0, .ref (x_ad x 0)), (1, .int x1)] [] := by
  unfold b_X10_mean_0 at h
  refine r_aload_n C.1 0 dX10_mean_0 rfl rfl ?_
  refine gf_X10_26 C dX10_mean_1 ?_
  refine r_iload_n C.1 1 dX10_mean_4 rfl rfl ?_
  obtain ⟨r_1, hc_2, h⟩ := bd_E h
  refine cl_X10_130 C ⟨Nat.le_of_ble_eq_true rfl, Nat.le_of_ble_eq_true rfl⟩ (m_X1_hasWard _ _ _ M x1 hc_2) (Nat.le_of_ble_eq_true rfl) dX10_mean_5 ?_
  refine r_if_eq C.1 22 dX10_mean_8 (by decide) (fun c_3 => ?_) (fun c_3 => ?_)
  · replace h := ite_T c_3 h
    refine r_ldc (v := -1000000000) C.1 kw_729 dX10_mean_22 ?_
    exact r_sub [] rfl (w_X10_mean_24 C M (-1000000000 : Int32) _ h hr ev eM)
  · replace h := ite_F c_3 h
    refine r_aload_n C.1 0 dX10_mean_11 rfl rfl ?_
    refine gf_X10_26 C dX10_mean_12 ?_
    refine r_iload_n C.1 1 dX10_mean_15 rfl rfl ?_
    obtain ⟨r_4, hc_5, h⟩ := bd_E h
    refine cl_X10_303 C ⟨Nat.le_of_ble_eq_true rfl, Nat.le_of_ble_eq_true rfl⟩ (m_X1_meanOf _ _ _ M x1 hc_5) (Nat.le_of_ble_eq_true rfl) dX10_mean_16 ?_
    refine r_goto C.1 24 dX10_mean_19 (by decide) ?_
    exact r_sub [] rfl (w_X10_mean_24 C M r_4 _ h hr ev eM)
def f_X10_mean (M : xM) (x1 : Int32) : Option (Int32) := b_X10_mean_0 M x1
set_option maxRecDepth 20000 in
theorem m_X10_mean (l : Launch) (D : va_G) (ad : Nat → Nat) (M : xM) (x1 : Int32)  {o : Int32} (h : f_X10_mean M x1 = some o) : xMetC l yX10_mean cX10_mean 2 (some .int) ({ frames := 3, cells := 0, slots := 0, locals := 71 } : Room) [.ref (ad 0), .int x1] D ad M (some (.int o)) M := by
  refine xMetC_of (own := RX10) (by decide) rfl (Nat.le_of_ble_eq_true rfl) ?_
  intro x C e1 e2 e3 ev eM hr
  subst e1; subst e2; subst e3
  refine r_sub (L := [(0, .ref (x_ad x 0)), (1, .int x1)]) (L' := [(0, .ref (x_ad x 0)), (1, .int x1)]) [0, 1] rfl ?_
  exact w_X10_mean_0 C M x1 _ h hr ev eM

def b_X10_lasts_18 (M : xM)  : Option (Int32) :=
  some (-1000000000 : Int32)
set_option maxRecDepth 20000 in
set_option maxHeartbeats 2000000 in
theorem w_X10_lasts_18 {x : xC} (C : CtC x RX10 cX10_lasts 5 ({ frames := 3, cells := 0, slots := 0, locals := 71 } : Room)) (M : xM)   (o : Int32) (h : b_X10_lasts_18 M = some o) (hr : (x_me x).sig.returnType = some .int) (ev : x_rv x = some (.int o)) (eM : x_M x = M) : J x M 18 [] [] := by
  unfold b_X10_lasts_18 at h
  refine r_ldc (v := -1000000000) C.1 kw_729 dX10_lasts_18 ?_
  obtain rfl := Option.some.inj h
  exact r_iret C.1 hr ev eM dX10_lasts_20

def b_X10_lasts_76 (M : xM) (s0 : Int32) : Option (Int32) :=
  some s0
set_option maxRecDepth 20000 in
set_option maxHeartbeats 2000000 in
theorem w_X10_lasts_76 {x : xC} (C : CtC x RX10 cX10_lasts 5 ({ frames := 3, cells := 0, slots := 0, locals := 71 } : Room)) (M : xM) (s0 : Int32)  (o : Int32) (h : b_X10_lasts_76 M s0 = some o) (hr : (x_me x).sig.returnType = some .int) (ev : x_rv x = some (.int o)) (eM : x_M x = M) : J x M 76 [] [.int s0] := by
  unfold b_X10_lasts_76 at h
  obtain rfl := Option.some.inj h
  exact r_iret C.1 hr ev eM dX10_lasts_76

def b_X10_lasts_0 (M : xM) (x1 : Int32) (x2 : Int32) : Option (Int32) :=
  bd (f_X1_hasWard M x1) (fun r_1 => if r_1 = 0 then b_X10_lasts_18 M else bd (f_X10_isDay M x2) (fun r_4 => if r_4 = 0 then b_X10_lasts_18 M else bd (f_X1_meanOf M x1) (fun r_7 => if r_7 = (-1000000000 : Int32) then some (-1000000000 : Int32) else bd (f_X1_estateOn M x1 x2) (fun r_10 => if 0 ≤ r_10 then if r_7 < 0 then g0 (-r_7) (b_X10_lasts_76 M (imin (100 : Int32) (r_10 / (-r_7)))) else b_X10_lasts_76 M (100 : Int32) else some (-1 : Int32)))))
set_option maxRecDepth 20000 in
set_option maxHeartbeats 2000000 in
theorem w_X10_lasts_0 {x : xC} (C : CtC x RX10 cX10_lasts 5 ({ frames := 3, cells := 0, slots := 0, locals := 71 } : Room)) (M : xM) (x1 : Int32) (x2 : Int32)  (o : Int32) (h : b_X10_lasts_0 M x1 x2 = some o) (hr : (x_me x).sig.returnType = some .int) (ev : x_rv x = some (.int o)) (eM : x_M x = M) : J x M 0 [(0, .ref (x_ad x 0)), (1, .int x1), (2, .int x2)] [] := by
  unfold b_X10_lasts_0 at h
  refine r_aload_n C.1 0 dX10_lasts_0 rfl rfl ?_
  refine gf_X10_26 C dX10_lasts_1 ?_
  refine r_iload_n C.1 1 dX10_lasts_4 rfl rfl ?_
  obtain ⟨r_1, hc_2, h⟩ := bd_E h
  refine cl_X10_130 C ⟨Nat.le_of_ble_eq_true rfl, Nat.le_of_ble_eq_true rfl⟩ (m_X1_hasWard _ _ _ M x1 hc_2) (Nat.le_of_ble_eq_true rfl) dX10_lasts_5 ?_
  refine r_if_eq C.1 18 dX10_lasts_8 (by decide) (fun c_3 => ?_) (fun c_3 => ?_)
  · replace h := ite_T c_3 h
    exact r_sub [] rfl (w_X10_lasts_18 C M _ h hr ev eM)
  · replace h := ite_F c_3 h
    refine r_iload_n C.1 2 dX10_lasts_11 rfl rfl ?_
    obtain ⟨r_4, hc_5, h⟩ := bd_E h
    refine cl_X10_133 C ⟨Nat.le_of_ble_eq_true rfl, Nat.le_of_ble_eq_true rfl⟩ (m_X10_isDay _ _ _ M x2 hc_5) (Nat.le_of_ble_eq_true rfl) dX10_lasts_12 ?_
    refine r_if_ne C.1 21 dX10_lasts_15 (by decide) (fun c_6 => ?_) (fun c_6 => ?_)
    · replace h := ite_F c_6 h
      refine r_aload_n C.1 0 dX10_lasts_21 rfl rfl ?_
      refine gf_X10_26 C dX10_lasts_22 ?_
      refine r_iload_n C.1 1 dX10_lasts_25 rfl rfl ?_
      obtain ⟨r_7, hc_8, h⟩ := bd_E h
      refine cl_X10_303 C ⟨Nat.le_of_ble_eq_true rfl, Nat.le_of_ble_eq_true rfl⟩ (m_X1_meanOf _ _ _ M x1 hc_8) (Nat.le_of_ble_eq_true rfl) dX10_lasts_26 ?_
      refine r_istore_n C.1 [(3, .int r_7), (0, .ref (x_ad x 0)), (1, .int x1), (2, .int x2)] dX10_lasts_29 rfl (by decide) rfl rfl ?_
      refine r_iload_n C.1 0 dX10_lasts_30 rfl rfl ?_
      refine r_ldc (v := -1000000000) C.1 kw_729 dX10_lasts_31 ?_
      refine r_icmp_ne C.1 39 dX10_lasts_33 (by decide) (fun c_9 => ?_) (fun c_9 => ?_)
      · replace h := ite_F c_9 h
        refine r_aload_n C.1 1 dX10_lasts_39 rfl rfl ?_
        refine gf_X10_26 C dX10_lasts_40 ?_
        refine r_iload_n C.1 2 dX10_lasts_43 rfl rfl ?_
        refine r_iload_n C.1 3 dX10_lasts_44 rfl rfl ?_
        obtain ⟨r_10, hc_11, h⟩ := bd_E h
        refine cl_X10_232 C ⟨Nat.le_of_ble_eq_true rfl, Nat.le_of_ble_eq_true rfl⟩ (m_X1_estateOn _ _ _ M x1 x2 hc_11) (Nat.le_of_ble_eq_true rfl) dX10_lasts_45 ?_
        refine r_istore C.1 [(4, .int r_10), (3, .int r_7), (0, .ref (x_ad x 0)), (1, .int x1), (2, .int x2)] dX10_lasts_48 (by decide) rfl rfl ?_
        refine r_iload C.1 0 dX10_lasts_50 rfl ?_
        refine r_if_ge C.1 57 dX10_lasts_52 (by decide) (fun c_12 => ?_) (fun c_12 => ?_)
        · replace h := ite_T c_12 h
          refine r_iload_n C.1 1 dX10_lasts_57 rfl rfl ?_
          refine r_if_lt C.1 66 dX10_lasts_58 (by decide) (fun c_13 => ?_) (fun c_13 => ?_)
          · replace h := ite_T c_13 h
            refine r_bipush (v := 100) C.1 dX10_lasts_66 (by decide) ?_
            refine r_iload C.1 0 dX10_lasts_68 rfl ?_
            refine r_iload_n C.1 1 dX10_lasts_70 rfl rfl ?_
            refine r_ineg C.1 dX10_lasts_71 ?_
            obtain ⟨z_14, h⟩ := g0_E h
            refine r_idiv C.1 z_14 dX10_lasts_72 ?_
            refine cm_X10_306 C.1 (by decide) (by decide) (Nat.le_of_ble_eq_true rfl) dX10_lasts_73 ?_
            exact r_sub [] rfl (w_X10_lasts_76 C M (imin (100 : Int32) (r_10 / (-r_7))) _ h hr ev eM)
          · replace h := ite_F c_13 h
            refine r_bipush (v := 100) C.1 dX10_lasts_61 (by decide) ?_
            refine r_goto C.1 76 dX10_lasts_63 (by decide) ?_
            exact r_sub [] rfl (w_X10_lasts_76 C M (100 : Int32) _ h hr ev eM)
        · replace h := ite_F c_12 h
          refine r_iconst (v := -1) C.1 dX10_lasts_55 rfl ?_
          obtain rfl := Option.some.inj h
          exact r_iret C.1 hr ev eM dX10_lasts_56
      · replace h := ite_T c_9 h
        refine r_ldc (v := -1000000000) C.1 kw_729 dX10_lasts_36 ?_
        obtain rfl := Option.some.inj h
        exact r_iret C.1 hr ev eM dX10_lasts_38
    · replace h := ite_T c_6 h
      exact r_sub [] rfl (w_X10_lasts_18 C M _ h hr ev eM)
def f_X10_lasts (M : xM) (x1 : Int32) (x2 : Int32) : Option (Int32) := b_X10_lasts_0 M x1 x2
set_option maxRecDepth 20000 in
theorem m_X10_lasts (l : Launch) (D : va_G) (ad : Nat → Nat) (M : xM) (x1 : Int32) (x2 : Int32)  {o : Int32} (h : f_X10_lasts M x1 x2 = some o) : xMetC l yX10_lasts cX10_lasts 5 (some .int) ({ frames := 3, cells := 0, slots := 0, locals := 71 } : Room) [.ref (ad 0), .int x1, .int x2] D ad M (some (.int o)) M := by
  refine xMetC_of (own := RX10) (by decide) rfl (Nat.le_of_ble_eq_true rfl) ?_
  intro x C e1 e2 e3 ev eM hr
  subst e1; subst e2; subst e3
  refine r_sub (L := [(0, .ref (x_ad x 0)), (1, .int x1), (2, .int x2)]) (L' := [(0, .ref (x_ad x 0)), (1, .int x1), (2, .int x2)]) [0, 1, 2] rfl ?_
  exact w_X10_lasts_0 C M x1 x2 _ h hr ev eM

def b_X10_whose_35 (M : xM) (s0 : Int32) : Option (Int32) :=
  some s0
set_option maxRecDepth 20000 in
set_option maxHeartbeats 2000000 in
theorem w_X10_whose_35 {x : xC} (C : CtC x RX10 cX10_whose 3 ({ frames := 1, cells := 0, slots := 0, locals := 23 } : Room)) (M : xM) (s0 : Int32)  (o : Int32) (h : b_X10_whose_35 M s0 = some o) (hr : (x_me x).sig.returnType = some .int) (ev : x_rv x = some (.int o)) (eM : x_M x = M) : J x M 35 [] [.int s0] := by
  unfold b_X10_whose_35 at h
  obtain rfl := Option.some.inj h
  exact r_iret C.1 hr ev eM dX10_whose_35

def b_X10_whose_34 (M : xM)  : Option (Int32) :=
  b_X10_whose_35 M (-1 : Int32)
set_option maxRecDepth 20000 in
set_option maxHeartbeats 2000000 in
theorem w_X10_whose_34 {x : xC} (C : CtC x RX10 cX10_whose 3 ({ frames := 1, cells := 0, slots := 0, locals := 23 } : Room)) (M : xM)   (o : Int32) (h : b_X10_whose_34 M = some o) (hr : (x_me x).sig.returnType = some .int) (ev : x_rv x = some (.int o)) (eM : x_M x = M) : J x M 34 [] [] := by
  unfold b_X10_whose_34 at h
  refine r_iconst (v := -1) C.1 dX10_whose_34 rfl ?_
  exact r_sub [] rfl (w_X10_whose_35 C M (-1 : Int32) _ h hr ev eM)

def b_X10_whose_0 (M : xM) (x1 : Int32) (x2 : Int32) : Option (Int32) :=
  bd (f_X1_hasWard M x1) (fun r_1 => if r_1 = 0 then b_X10_whose_34 M else bd (f_X10_isDay M x2) (fun r_4 => if r_4 = 0 then b_X10_whose_34 M else gd x1 4 (bd (f_X8_guardianOn M (25 + 5 * x1.toNatClampNeg) x2) (fun r_8 => b_X10_whose_35 M r_8))))
set_option maxRecDepth 20000 in
set_option maxHeartbeats 2000000 in
theorem w_X10_whose_0 {x : xC} (C : CtC x RX10 cX10_whose 3 ({ frames := 1, cells := 0, slots := 0, locals := 23 } : Room)) (M : xM) (x1 : Int32) (x2 : Int32)  (o : Int32) (h : b_X10_whose_0 M x1 x2 = some o) (hr : (x_me x).sig.returnType = some .int) (ev : x_rv x = some (.int o)) (eM : x_M x = M) : J x M 0 [(0, .ref (x_ad x 0)), (1, .int x1), (2, .int x2)] [] := by
  unfold b_X10_whose_0 at h
  refine r_aload_n C.1 0 dX10_whose_0 rfl rfl ?_
  refine gf_X10_26 C dX10_whose_1 ?_
  refine r_iload_n C.1 1 dX10_whose_4 rfl rfl ?_
  obtain ⟨r_1, hc_2, h⟩ := bd_E h
  refine cl_X10_130 C ⟨Nat.le_of_ble_eq_true rfl, Nat.le_of_ble_eq_true rfl⟩ (m_X1_hasWard _ _ _ M x1 hc_2) (Nat.le_of_ble_eq_true rfl) dX10_whose_5 ?_
  refine r_if_eq C.1 34 dX10_whose_8 (by decide) (fun c_3 => ?_) (fun c_3 => ?_)
  · replace h := ite_T c_3 h
    exact r_sub [] rfl (w_X10_whose_34 C M _ h hr ev eM)
  · replace h := ite_F c_3 h
    refine r_iload_n C.1 2 dX10_whose_11 rfl rfl ?_
    obtain ⟨r_4, hc_5, h⟩ := bd_E h
    refine cl_X10_133 C ⟨Nat.le_of_ble_eq_true rfl, Nat.le_of_ble_eq_true rfl⟩ (m_X10_isDay _ _ _ M x2 hc_5) (Nat.le_of_ble_eq_true rfl) dX10_whose_12 ?_
    refine r_if_eq C.1 34 dX10_whose_15 (by decide) (fun c_6 => ?_) (fun c_6 => ?_)
    · replace h := ite_T c_6 h
      exact r_sub [] rfl (w_X10_whose_34 C M _ h hr ev eM)
    · replace h := ite_F c_6 h
      refine r_aload_n C.1 0 dX10_whose_18 rfl rfl ?_
      refine gf_X10_26 C dX10_whose_19 ?_
      refine gf_X10_120_17 C dX10_whose_22 ?_
      refine r_iload_n C.1 1 dX10_whose_25 rfl rfl ?_
      obtain ⟨q_7, h⟩ := gd_E h
      refine r_aldq C.1 (cK C (by decide)) (cS C (sh_20)) 2 (cT2 C) q_7 (y := x_ad x (25 + 5 * x1.toNatClampNeg)) rfl dX10_whose_26 ?_
      refine r_iload_n C.1 2 dX10_whose_27 rfl rfl ?_
      obtain ⟨r_8, hc_9, h⟩ := bd_E h
      refine cl_X10_139 C (kW_17 (vp_lt q_7)) ⟨Nat.le_of_ble_eq_true rfl, Nat.le_of_ble_eq_true rfl⟩ (m_X8_guardianOn _ _ _ M (25 + 5 * x1.toNatClampNeg) x2 (kW_17 (vp_lt q_7)) hc_9) (Nat.le_of_ble_eq_true rfl) dX10_whose_28 ?_
      refine r_goto C.1 35 dX10_whose_31 (by decide) ?_
      exact r_sub [] rfl (w_X10_whose_35 C M r_8 _ h hr ev eM)
def f_X10_whose (M : xM) (x1 : Int32) (x2 : Int32) : Option (Int32) := b_X10_whose_0 M x1 x2
set_option maxRecDepth 20000 in
theorem m_X10_whose (l : Launch) (D : va_G) (ad : Nat → Nat) (M : xM) (x1 : Int32) (x2 : Int32)  {o : Int32} (h : f_X10_whose M x1 x2 = some o) : xMetC l yX10_whose cX10_whose 3 (some .int) ({ frames := 1, cells := 0, slots := 0, locals := 23 } : Room) [.ref (ad 0), .int x1, .int x2] D ad M (some (.int o)) M := by
  refine xMetC_of (own := RX10) (by decide) rfl (Nat.le_of_ble_eq_true rfl) ?_
  intro x C e1 e2 e3 ev eM hr
  subst e1; subst e2; subst e3
  refine r_sub (L := [(0, .ref (x_ad x 0)), (1, .int x1), (2, .int x2)]) (L' := [(0, .ref (x_ad x 0)), (1, .int x1), (2, .int x2)]) [0, 1, 2] rfl ?_
  exact w_X10_whose_0 C M x1 x2 _ h hr ev eM

def b_X10_shortOf_0 (M : xM) (x1 : Int32) (x2 : Int32) : Option (Int32 × xM) :=
  bd (f_X4_seek M x1 x2) (fun M_3 => gd (6 : Int32) 7 (gd x1 3 (some (imax (0 : Int32) (((M_3 15 1) * (M_3 18 (6 : Int32).toNatClampNeg)) - (M_3 19 x1.toNatClampNeg)), M_3))))
set_option maxRecDepth 20000 in
set_option maxHeartbeats 2000000 in
theorem w_X10_shortOf_0 {x : xC} (C : CtC x RX10 cX10_shortOf 3 ({ frames := 4, cells := 0, slots := 0, locals := 98 } : Room)) (M : xM) (x1 : Int32) (x2 : Int32)  (o : Int32 × xM) (h : b_X10_shortOf_0 M x1 x2 = some o) (hr : (x_me x).sig.returnType = some .int) (ev : x_rv x = some (.int o.1)) (eM : x_M x = o.2) : J x M 0 [(0, .ref (x_ad x 0)), (1, .int x1), (2, .int x2)] [] := by
  unfold b_X10_shortOf_0 at h
  refine r_aload_n C.1 0 dX10_shortOf_0 rfl rfl ?_
  refine gf_X10_58 C dX10_shortOf_1 ?_
  refine r_aload_n C.1 0 dX10_shortOf_4 rfl rfl ?_
  refine gf_X10_26 C dX10_shortOf_5 ?_
  refine r_iload_n C.1 1 dX10_shortOf_8 rfl rfl ?_
  refine r_iload_n C.1 2 dX10_shortOf_9 rfl rfl ?_
  obtain ⟨M_3, hc_2, h⟩ := bd_E h
  refine cl_X10_311 C ⟨Nat.le_of_ble_eq_true rfl, Nat.le_of_ble_eq_true rfl⟩ (m_X4_seek _ _ _ M x1 x2 hc_2) (Nat.le_of_ble_eq_true rfl) dX10_shortOf_10 ?_
  refine r_iconst (v := 0) C.1 dX10_shortOf_13 rfl ?_
  refine r_aload_n C.1 0 dX10_shortOf_14 rfl rfl ?_
  refine gf_X10_58 C dX10_shortOf_15 ?_
  refine gf_X10_314 C dX10_shortOf_18 ?_
  refine r_aload_n C.1 0 dX10_shortOf_21 rfl rfl ?_
  refine gf_X10_26 C dX10_shortOf_22 ?_
  refine gf_X10_94_17 C dX10_shortOf_25 ?_
  refine r_bipush (v := 6) C.1 dX10_shortOf_28 (by decide) ?_
  obtain ⟨q_4, h⟩ := gd_E h
  refine r_iald C.1 (cK C (by decide)) (cS C (sh_18)) 0 (cT0 C) q_4 dX10_shortOf_30 ?_
  refine r_imul C.1 dX10_shortOf_31 ?_
  refine r_aload_n C.1 0 dX10_shortOf_32 rfl rfl ?_
  refine gf_X10_26 C dX10_shortOf_33 ?_
  refine gf_X10_107_17 C dX10_shortOf_36 ?_
  refine r_iload_n C.1 1 dX10_shortOf_39 rfl rfl ?_
  obtain ⟨q_5, h⟩ := gd_E h
  refine r_iald C.1 (cK C (by decide)) (cS C (sh_19)) 0 (cT0 C) q_5 dX10_shortOf_40 ?_
  refine r_isub C.1 dX10_shortOf_41 ?_
  refine cm_X10_317 C.1 (by decide) (by decide) (Nat.le_of_ble_eq_true rfl) dX10_shortOf_42 ?_
  obtain rfl := Option.some.inj h
  exact r_iret C.1 hr ev eM dX10_shortOf_45
def f_X10_shortOf (M : xM) (x1 : Int32) (x2 : Int32) : Option (Int32 × xM) := b_X10_shortOf_0 M x1 x2
set_option maxRecDepth 20000 in
theorem m_X10_shortOf (l : Launch) (D : va_G) (ad : Nat → Nat) (M : xM) (x1 : Int32) (x2 : Int32)  {r : Int32} {M1 : xM} (h : f_X10_shortOf M x1 x2 = some (r, M1)) : xMetC l yX10_shortOf cX10_shortOf 3 (some .int) ({ frames := 4, cells := 0, slots := 0, locals := 98 } : Room) [.ref (ad 0), .int x1, .int x2] D ad M (some (.int r)) M1 := by
  refine xMetC_of (own := RX10) (by decide) rfl (Nat.le_of_ble_eq_true rfl) ?_
  intro x C e1 e2 e3 ev eM hr
  subst e1; subst e2; subst e3
  refine r_sub (L := [(0, .ref (x_ad x 0)), (1, .int x1), (2, .int x2)]) (L' := [(0, .ref (x_ad x 0)), (1, .int x1), (2, .int x2)]) [0, 1, 2] rfl ?_
  exact w_X10_shortOf_0 C M x1 x2 _ h hr ev eM

def b_X10_bonded_125 (M : xM) (s0 : Int32) : Option (Int32 × xM) :=
  some (s0, M)
set_option maxRecDepth 20000 in
set_option maxHeartbeats 2000000 in
theorem w_X10_bonded_125 {x : xC} (C : CtC x RX10 cX10_bonded 4 ({ frames := 5, cells := 0, slots := 0, locals := 120 } : Room)) (M : xM) (s0 : Int32)  (o : Int32 × xM) (h : b_X10_bonded_125 M s0 = some o) (hr : (x_me x).sig.returnType = some .int) (ev : x_rv x = some (.int o.1)) (eM : x_M x = o.2) : J x M 125 [] [.int s0] := by
  unfold b_X10_bonded_125 at h
  obtain rfl := Option.some.inj h
  exact r_iret C.1 hr ev eM dX10_bonded_125

def b_X10_bonded_18 (M : xM)  : Option (Int32 × xM) :=
  some ((-1000000000 : Int32), M)
set_option maxRecDepth 20000 in
set_option maxHeartbeats 2000000 in
theorem w_X10_bonded_18 {x : xC} (C : CtC x RX10 cX10_bonded 4 ({ frames := 5, cells := 0, slots := 0, locals := 120 } : Room)) (M : xM)   (o : Int32 × xM) (h : b_X10_bonded_18 M = some o) (hr : (x_me x).sig.returnType = some .int) (ev : x_rv x = some (.int o.1)) (eM : x_M x = o.2) : J x M 18 [] [] := by
  unfold b_X10_bonded_18 at h
  refine r_ldc (v := -1000000000) C.1 kw_729 dX10_bonded_18 ?_
  obtain rfl := Option.some.inj h
  exact r_iret C.1 hr ev eM dX10_bonded_20

def b_X10_bonded_0 (M : xM) (x1 : Int32) (x2 : Int32) (x3 : Int32) : Option (Int32 × xM) :=
  bd (f_X1_hasGuardian M x1) (fun r_1 => if r_1 = 0 then b_X10_bonded_18 M else bd (f_X10_isDay M x2) (fun r_4 => if r_4 = 0 then b_X10_bonded_18 M else if x3 = (0 : Int32) then bd (f_X4_seek M x1 x2) (fun M_10 => gd (6 : Int32) 7 (some ((imax (0 : Int32) (M_10 15 1)) * (M_10 18 (6 : Int32).toNatClampNeg), M_10))) else (if x3 = (1 : Int32) then bd2 (f_X10_shortOf M x1 x2) (fun r_12 M_14 => some (r_12, M_14)) else (if x3 = (2 : Int32) then bd (f_X4_seek M x1 x2) (fun M_17 => if 0 ≤ (M_17 15 1) then b_X10_bonded_125 M_17 (M_17 15 0) else b_X10_bonded_125 M_17 (-1 : Int32)) else (some ((-1000000000 : Int32), M))))))
set_option maxRecDepth 20000 in
set_option maxHeartbeats 2000000 in
theorem w_X10_bonded_0 {x : xC} (C : CtC x RX10 cX10_bonded 4 ({ frames := 5, cells := 0, slots := 0, locals := 120 } : Room)) (M : xM) (x1 : Int32) (x2 : Int32) (x3 : Int32)  (o : Int32 × xM) (h : b_X10_bonded_0 M x1 x2 x3 = some o) (hr : (x_me x).sig.returnType = some .int) (ev : x_rv x = some (.int o.1)) (eM : x_M x = o.2) : J x M 0 [(0, .ref (x_ad x 0)), (1, .int x1), (2, .int x2), (3, .int x3)] [] := by
  unfold b_X10_bonded_0 at h
  refine r_aload_n C.1 0 dX10_bonded_0 rfl rfl ?_
  refine gf_X10_26 C dX10_bonded_1 ?_
  refine r_iload_n C.1 1 dX10_bonded_4 rfl rfl ?_
  obtain ⟨r_1, hc_2, h⟩ := bd_E h
  refine cl_X10_114 C ⟨Nat.le_of_ble_eq_true rfl, Nat.le_of_ble_eq_true rfl⟩ (m_X1_hasGuardian _ _ _ M x1 hc_2) (Nat.le_of_ble_eq_true rfl) dX10_bonded_5 ?_
  refine r_if_eq C.1 18 dX10_bonded_8 (by decide) (fun c_3 => ?_) (fun c_3 => ?_)
  · replace h := ite_T c_3 h
    exact r_sub [] rfl (w_X10_bonded_18 C M _ h hr ev eM)
  · replace h := ite_F c_3 h
    refine r_iload_n C.1 2 dX10_bonded_11 rfl rfl ?_
    obtain ⟨r_4, hc_5, h⟩ := bd_E h
    refine cl_X10_133 C ⟨Nat.le_of_ble_eq_true rfl, Nat.le_of_ble_eq_true rfl⟩ (m_X10_isDay _ _ _ M x2 hc_5) (Nat.le_of_ble_eq_true rfl) dX10_bonded_12 ?_
    refine r_if_ne C.1 21 dX10_bonded_15 (by decide) (fun c_6 => ?_) (fun c_6 => ?_)
    · replace h := ite_F c_6 h
      refine r_iload_n C.1 3 dX10_bonded_21 rfl rfl ?_
      by_cases c_70 : x3 = (0 : Int32)
      · replace h := ite_T c_70 h
        refine r_tin C.1 c_70 48 dX10_bonded_22 (by decide) (by decide) rfl (by decide) ?_
        refine r_aload_n C.1 0 dX10_bonded_48 rfl rfl ?_
        refine gf_X10_58 C dX10_bonded_49 ?_
        refine r_aload_n C.1 0 dX10_bonded_52 rfl rfl ?_
        refine gf_X10_26 C dX10_bonded_53 ?_
        refine r_iload_n C.1 1 dX10_bonded_56 rfl rfl ?_
        refine r_iload_n C.1 2 dX10_bonded_57 rfl rfl ?_
        obtain ⟨M_10, hc_9, h⟩ := bd_E h
        refine cl_X10_311 C ⟨Nat.le_of_ble_eq_true rfl, Nat.le_of_ble_eq_true rfl⟩ (m_X4_seek _ _ _ M x1 x2 hc_9) (Nat.le_of_ble_eq_true rfl) dX10_bonded_58 ?_
        refine r_iconst (v := 0) C.1 dX10_bonded_61 rfl ?_
        refine r_aload_n C.1 0 dX10_bonded_62 rfl rfl ?_
        refine gf_X10_58 C dX10_bonded_63 ?_
        refine gf_X10_314 C dX10_bonded_66 ?_
        refine cm_X10_317 C.1 (by decide) (by decide) (Nat.le_of_ble_eq_true rfl) dX10_bonded_69 ?_
        refine r_aload_n C.1 0 dX10_bonded_72 rfl rfl ?_
        refine gf_X10_26 C dX10_bonded_73 ?_
        refine gf_X10_94_17 C dX10_bonded_76 ?_
        refine r_bipush (v := 6) C.1 dX10_bonded_79 (by decide) ?_
        obtain ⟨q_11, h⟩ := gd_E h
        refine r_iald C.1 (cK C (by decide)) (cS C (sh_18)) 0 (cT0 C) q_11 dX10_bonded_81 ?_
        refine r_imul C.1 dX10_bonded_82 ?_
        obtain rfl := Option.some.inj h
        exact r_iret C.1 hr ev eM dX10_bonded_83
      · replace h := ite_F c_70 h
        by_cases c_71 : x3 = (1 : Int32)
        · replace h := ite_T c_71 h
          refine r_tin C.1 c_71 84 dX10_bonded_22 (by decide) (by decide) rfl (by decide) ?_
          refine r_aload_n C.1 0 dX10_bonded_84 rfl rfl ?_
          refine r_iload_n C.1 1 dX10_bonded_85 rfl rfl ?_
          refine r_iload_n C.1 2 dX10_bonded_86 rfl rfl ?_
          obtain ⟨r_12, M_14, hc_13, h⟩ := bd2_E h
          refine cl_X10_320 C ⟨Nat.le_of_ble_eq_true rfl, Nat.le_of_ble_eq_true rfl⟩ (m_X10_shortOf _ _ _ M x1 x2 hc_13) (Nat.le_of_ble_eq_true rfl) dX10_bonded_87 ?_
          obtain rfl := Option.some.inj h
          exact r_iret C.1 hr ev eM dX10_bonded_90
        · replace h := ite_F c_71 h
          by_cases c_72 : x3 = (2 : Int32)
          · replace h := ite_T c_72 h
            refine r_tin C.1 c_72 91 dX10_bonded_22 (by decide) (by decide) rfl (by decide) ?_
            refine r_aload_n C.1 0 dX10_bonded_91 rfl rfl ?_
            refine gf_X10_58 C dX10_bonded_92 ?_
            refine r_aload_n C.1 0 dX10_bonded_95 rfl rfl ?_
            refine gf_X10_26 C dX10_bonded_96 ?_
            refine r_iload_n C.1 1 dX10_bonded_99 rfl rfl ?_
            refine r_iload_n C.1 2 dX10_bonded_100 rfl rfl ?_
            obtain ⟨M_17, hc_16, h⟩ := bd_E h
            refine cl_X10_311 C ⟨Nat.le_of_ble_eq_true rfl, Nat.le_of_ble_eq_true rfl⟩ (m_X4_seek _ _ _ M x1 x2 hc_16) (Nat.le_of_ble_eq_true rfl) dX10_bonded_101 ?_
            refine r_aload_n C.1 0 dX10_bonded_104 rfl rfl ?_
            refine gf_X10_58 C dX10_bonded_105 ?_
            refine gf_X10_314 C dX10_bonded_108 ?_
            refine r_if_ge C.1 118 dX10_bonded_111 (by decide) (fun c_18 => ?_) (fun c_18 => ?_)
            · replace h := ite_T c_18 h
              refine r_aload_n C.1 0 dX10_bonded_118 rfl rfl ?_
              refine gf_X10_58 C dX10_bonded_119 ?_
              refine gf_X10_323 C dX10_bonded_122 ?_
              exact r_sub [] rfl (w_X10_bonded_125 C M_17 (M_17 15 0) _ h hr ev eM)
            · replace h := ite_F c_18 h
              refine r_iconst (v := -1) C.1 dX10_bonded_114 rfl ?_
              refine r_goto C.1 125 dX10_bonded_115 (by decide) ?_
              exact r_sub [] rfl (w_X10_bonded_125 C M_17 (-1 : Int32) _ h hr ev eM)
          · replace h := ite_F c_72 h
            have qc_70 := ne_toInt c_70
            have qc_71 := ne_toInt c_71
            have qc_72 := ne_toInt c_72
            refine r_tout C.1 126 dX10_bonded_22 (tout_0_2 qc_70 qc_71 qc_72) (by decide) ?_
            refine r_ldc (v := -1000000000) C.1 kw_729 dX10_bonded_126 ?_
            obtain rfl := Option.some.inj h
            exact r_iret C.1 hr ev eM dX10_bonded_128
    · replace h := ite_T c_6 h
      exact r_sub [] rfl (w_X10_bonded_18 C M _ h hr ev eM)
def f_X10_bonded (M : xM) (x1 : Int32) (x2 : Int32) (x3 : Int32) : Option (Int32 × xM) := b_X10_bonded_0 M x1 x2 x3
set_option maxRecDepth 20000 in
theorem m_X10_bonded (l : Launch) (D : va_G) (ad : Nat → Nat) (M : xM) (x1 : Int32) (x2 : Int32) (x3 : Int32)  {r : Int32} {M1 : xM} (h : f_X10_bonded M x1 x2 x3 = some (r, M1)) : xMetC l yX10_bonded cX10_bonded 4 (some .int) ({ frames := 5, cells := 0, slots := 0, locals := 120 } : Room) [.ref (ad 0), .int x1, .int x2, .int x3] D ad M (some (.int r)) M1 := by
  refine xMetC_of (own := RX10) (by decide) rfl (Nat.le_of_ble_eq_true rfl) ?_
  intro x C e1 e2 e3 ev eM hr
  subst e1; subst e2; subst e3
  refine r_sub (L := [(0, .ref (x_ad x 0)), (1, .int x1), (2, .int x2), (3, .int x3)]) (L' := [(0, .ref (x_ad x 0)), (1, .int x1), (2, .int x2), (3, .int x3)]) [0, 1, 2, 3] rfl ?_
  exact w_X10_bonded_0 C M x1 x2 x3 _ h hr ev eM

def b_X10_chargePart_124 (M : xM) (s0 : Int32) : Option (Int32 × xM) :=
  some (s0, M)
set_option maxRecDepth 20000 in
set_option maxHeartbeats 2000000 in
theorem w_X10_chargePart_124 {x : xC} (C : CtC x RX10 cX10_chargePart 9 ({ frames := 4, cells := 0, slots := 0, locals := 100 } : Room)) (M : xM) (s0 : Int32)  (o : Int32 × xM) (h : b_X10_chargePart_124 M s0 = some o) (hr : (x_me x).sig.returnType = some .int) (ev : x_rv x = some (.int o.1)) (eM : x_M x = o.2) : J x M 124 [] [.int s0] := by
  unfold b_X10_chargePart_124 at h
  obtain rfl := Option.some.inj h
  exact r_iret C.1 hr ev eM dX10_chargePart_124

def b_X10_chargePart_85 (M : xM) (x1 : Int32) (x2 : Int32) (x3 : Int32) (x4 : Int64) (x6 : Int64) (x8 : Int32) : Option ((Int64 × Int64 × Int32) ⊕ (Int64 × Int64)) :=
  lt (x8 + (1 : Int32)) (fun y_1 => some (.inl (x4, x6, y_1)))
set_option maxRecDepth 20000 in
set_option maxHeartbeats 2000000 in
theorem w_X10_chargePart_85 {x : xC} (C : CtC x RX10 cX10_chargePart 9 ({ frames := 4, cells := 0, slots := 0, locals := 100 } : Room)) (M : xM) (x1 : Int32) (x2 : Int32) (x3 : Int32) (x4 : Int64) (x6 : Int64) (x8 : Int32)  (o : (Int64 × Int64 × Int32) ⊕ (Int64 × Int64)) (h : b_X10_chargePart_85 M x1 x2 x3 x4 x6 x8 = some o) (kh : ∀ s : Int64 × Int64 × Int32, o = .inl s → J x M 22 [(0, .ref (x_ad x 0)), (1, .int x1), (2, .int x2), (3, .int x3), (4, .long s.1), (6, .long s.2.1), (8, .int s.2.2)] []) (ke_0 : ∀ v : Int64 × Int64, o = .inr v → J x M 91 [(0, .ref (x_ad x 0)), (2, .int x2), (3, .int x3), (4, .long v.1), (6, .long v.2)] []) : J x M 85 [(0, .ref (x_ad x 0)), (1, .int x1), (2, .int x2), (3, .int x3), (4, .long x4), (6, .long x6), (8, .int x8)] [] := by
  unfold b_X10_chargePart_85 at h
  obtain ⟨y_1, ey_1, h⟩ := lt_E h
  refine r_iinc C.1 6 [(8, .int y_1), (0, .ref (x_ad x 0)), (1, .int x1), (2, .int x2), (3, .int x3), (4, .long x4), (6, .long x6)] dX10_chargePart_85 rfl ey_1 (by decide) rfl ?_
  refine r_goto C.1 22 dX10_chargePart_88 (by decide) ?_
  exact r_sub [1, 2, 3, 4, 5, 6, 0] rfl (kh _ (Option.some.inj h).symm)

def bl_X10_chargePart_22 (M : xM) (x1 : Int32) (x2 : Int32) (x3 : Int32) (x4 : Int64) (x6 : Int64) (x8 : Int32) : Option ((Int64 × Int64 × Int32) ⊕ (Int64 × Int64)) :=
  if (360 : Int32) ≤ x8 then some (.inr (x4, x6)) else gd x8 360 (lt (x4 + ((M 13 x8.toNatClampNeg).toInt64)) (fun y_3 => gd x2 4 (bd (f_X10_firstDay M x3) (fun r_5 => bd (f_X8_guardianOn M (25 + 5 * x2.toNatClampNeg) (r_5 + x8)) (fun r_7 => if r_7 = x1 then gd x8 360 (lt (x6 + ((M 13 x8.toNatClampNeg).toInt64)) (fun y_11 => b_X10_chargePart_85 M x1 x2 x3 y_3 y_11 x8)) else b_X10_chargePart_85 M x1 x2 x3 y_3 x6 x8)))))
set_option maxRecDepth 20000 in
set_option maxHeartbeats 2000000 in
theorem wl_X10_chargePart_22 {x : xC} (C : CtC x RX10 cX10_chargePart 9 ({ frames := 4, cells := 0, slots := 0, locals := 100 } : Room)) (M : xM) (x1 : Int32) (x2 : Int32) (x3 : Int32) (x4 : Int64) (x6 : Int64) (x8 : Int32)  (o : (Int64 × Int64 × Int32) ⊕ (Int64 × Int64)) (h : bl_X10_chargePart_22 M x1 x2 x3 x4 x6 x8 = some o) (kh : ∀ s : Int64 × Int64 × Int32, o = .inl s → J x M 22 [(0, .ref (x_ad x 0)), (1, .int x1), (2, .int x2), (3, .int x3), (4, .long s.1), (6, .long s.2.1), (8, .int s.2.2)] []) (ke_0 : ∀ v : Int64 × Int64, o = .inr v → J x M 91 [(0, .ref (x_ad x 0)), (2, .int x2), (3, .int x3), (4, .long v.1), (6, .long v.2)] []) : J x M 22 [(0, .ref (x_ad x 0)), (1, .int x1), (2, .int x2), (3, .int x3), (4, .long x4), (6, .long x6), (8, .int x8)] [] := by
  unfold bl_X10_chargePart_22 at h
  refine r_iload C.1 6 dX10_chargePart_22 rfl ?_
  refine r_sipush (v := 360) C.1 dX10_chargePart_24 (by decide) ?_
  refine r_icmp_ge C.1 91 dX10_chargePart_27 (by decide) (fun c_1 => ?_) (fun c_1 => ?_)
  · replace h := ite_T c_1 h
    exact r_sub [0, 2, 3, 4, 5] rfl (ke_0 _ (Option.some.inj h).symm)
  · replace h := ite_F c_1 h
    refine r_lload C.1 4 dX10_chargePart_30 rfl ?_
    refine r_aload_n C.1 0 dX10_chargePart_32 rfl rfl ?_
    refine gf_X10_51 C dX10_chargePart_33 ?_
    refine gf_X10_402 C dX10_chargePart_36 ?_
    refine r_iload C.1 6 dX10_chargePart_39 rfl ?_
    obtain ⟨q_2, h⟩ := gd_E h
    refine r_iald C.1 (cK C (by decide)) (cS C (sh_13)) 0 (cT0 C) q_2 dX10_chargePart_41 ?_
    refine r_i2l C.1 dX10_chargePart_42 ?_
    refine r_ladd C.1 dX10_chargePart_43 ?_
    obtain ⟨y_3, ey_3, h⟩ := lt_E h
    refine r_lstore C.1 [(4, .long y_3), (0, .ref (x_ad x 0)), (1, .int x1), (2, .int x2), (3, .int x3), (6, .long x6), (8, .int x8)] dX10_chargePart_44 (by decide) ey_3 rfl ?_
    refine r_aload_n C.1 1 dX10_chargePart_46 rfl rfl ?_
    refine gf_X10_26 C dX10_chargePart_47 ?_
    refine gf_X10_120_17 C dX10_chargePart_50 ?_
    refine r_iload_n C.1 3 dX10_chargePart_53 rfl rfl ?_
    obtain ⟨q_4, h⟩ := gd_E h
    refine r_aldq C.1 (cK C (by decide)) (cS C (sh_20)) 2 (cT2 C) q_4 (y := x_ad x (25 + 5 * x2.toNatClampNeg)) rfl dX10_chargePart_54 ?_
    refine r_iload_n C.1 4 dX10_chargePart_55 rfl rfl ?_
    obtain ⟨r_5, hc_6, h⟩ := bd_E h
    refine cl_X10_279 C ⟨Nat.le_of_ble_eq_true rfl, Nat.le_of_ble_eq_true rfl⟩ (m_X10_firstDay _ _ _ M x3 hc_6) (Nat.le_of_ble_eq_true rfl) dX10_chargePart_56 ?_
    refine r_iload C.1 6 dX10_chargePart_59 rfl ?_
    refine r_iadd C.1 dX10_chargePart_61 ?_
    obtain ⟨r_7, hc_8, h⟩ := bd_E h
    refine cl_X10_139 C (kW_17 (vp_lt q_4)) ⟨Nat.le_of_ble_eq_true rfl, Nat.le_of_ble_eq_true rfl⟩ (m_X8_guardianOn _ _ _ M (25 + 5 * x2.toNatClampNeg) (r_5 + x8) (kW_17 (vp_lt q_4)) hc_8) (Nat.le_of_ble_eq_true rfl) dX10_chargePart_62 ?_
    refine r_iload_n C.1 2 dX10_chargePart_65 rfl rfl ?_
    refine r_icmp_ne C.1 85 dX10_chargePart_66 (by decide) (fun c_9 => ?_) (fun c_9 => ?_)
    · replace h := ite_F c_9 h
      exact r_sub [1, 2, 3, 4, 0, 5, 6] rfl (w_X10_chargePart_85 C M x1 x2 x3 y_3 x6 x8 _ h kh ke_0)
    · replace h := ite_T c_9 h
      refine r_lload C.1 5 dX10_chargePart_69 rfl ?_
      refine r_aload_n C.1 1 dX10_chargePart_71 rfl rfl ?_
      refine gf_X10_51 C dX10_chargePart_72 ?_
      refine gf_X10_402 C dX10_chargePart_75 ?_
      refine r_iload C.1 6 dX10_chargePart_78 rfl ?_
      obtain ⟨q_10, h⟩ := gd_E h
      refine r_iald C.1 (cK C (by decide)) (cS C (sh_13)) 0 (cT0 C) q_10 dX10_chargePart_80 ?_
      refine r_i2l C.1 dX10_chargePart_81 ?_
      refine r_ladd C.1 dX10_chargePart_82 ?_
      obtain ⟨y_11, ey_11, h⟩ := lt_E h
      refine r_lstore C.1 [(6, .long y_11), (4, .long y_3), (0, .ref (x_ad x 0)), (1, .int x1), (2, .int x2), (3, .int x3), (8, .int x8)] dX10_chargePart_83 (by decide) ey_11 rfl ?_
      exact r_sub [2, 3, 4, 5, 1, 0, 6] rfl (w_X10_chargePart_85 C M x1 x2 x3 y_3 y_11 x8 _ h kh ke_0)

def b_X10_chargePart_22 (M : xM) (x1 : Int32) (x2 : Int32) (x3 : Int32) (x4 : Int64) (x6 : Int64) (x8 : Int32) : Option (Int32 × xM) :=
  bd (loopN (fun s : Int64 × Int64 × Int32 => bl_X10_chargePart_22 M x1 x2 x3 s.1 s.2.1 s.2.2) BG (x4, x6, x8)) (fun v => if 0 < (lg_cmp v.1 (0 : Int64)) then gd x2 4 (gd x3 10 (g0L v.1 (b_X10_chargePart_124 M (((((M ((25 + 5 * x2.toNatClampNeg) + 3) x3.toNatClampNeg).toInt64) * v.2) / v.1).toInt32)))) else b_X10_chargePart_124 M (0 : Int32))
set_option maxRecDepth 20000 in
set_option maxHeartbeats 2000000 in
theorem w_X10_chargePart_22 {x : xC} (C : CtC x RX10 cX10_chargePart 9 ({ frames := 4, cells := 0, slots := 0, locals := 100 } : Room)) (M : xM) (x1 : Int32) (x2 : Int32) (x3 : Int32) (x4 : Int64) (x6 : Int64) (x8 : Int32)  (o : Int32 × xM) (h : b_X10_chargePart_22 M x1 x2 x3 x4 x6 x8 = some o) (hr : (x_me x).sig.returnType = some .int) (ev : x_rv x = some (.int o.1)) (eM : x_M x = o.2) : J x M 22 [(0, .ref (x_ad x 0)), (1, .int x1), (2, .int x2), (3, .int x3), (4, .long x4), (6, .long x6), (8, .int x8)] [] := by
  unfold b_X10_chargePart_22 at h
  obtain ⟨r_0, hr_0, h⟩ := bd_E h
  refine loopN_ind (JJ := fun s => J x M 22 [(0, .ref (x_ad x 0)), (1, .int x1), (2, .int x2), (3, .int x3), (4, .long s.1), (6, .long s.2.1), (8, .int s.2.2)] []) (KX := fun q => q = r_0) ?_ BG (x4, x6, x8) r_0 hr_0 rfl
  intro s o1 hb kk1 kk2
  refine wl_X10_chargePart_22 C M x1 x2 x3 s.1 s.2.1 s.2.2 _ hb kk1 ?_
  · intro v e0
    have e1 := kk2 _ e0
    subst e1
    refine r_lload C.1 3 dX10_chargePart_91 rfl ?_
    refine r_lconst (v := 0) C.1 dX10_chargePart_93 rfl ?_
    refine r_lcmp C.1 dX10_chargePart_94 ?_
    refine r_if_gt C.1 102 dX10_chargePart_95 (by decide) (fun c_1 => ?_) (fun c_1 => ?_)
    · replace h := ite_T c_1 h
      refine r_aload_n C.1 0 dX10_chargePart_102 rfl rfl ?_
      refine gf_X10_26 C dX10_chargePart_103 ?_
      refine gf_X10_120_17 C dX10_chargePart_106 ?_
      refine r_iload_n C.1 1 dX10_chargePart_109 rfl rfl ?_
      obtain ⟨q_2, h⟩ := gd_E h
      refine r_aldq C.1 (cK C (by decide)) (cS C (sh_20)) 2 (cT2 C) q_2 (y := x_ad x (25 + 5 * x2.toNatClampNeg)) rfl dX10_chargePart_110 ?_
      refine gfk_X10_211 C (kW_17 (vp_lt q_2)) dX10_chargePart_111 ?_
      refine r_iload_n C.1 2 dX10_chargePart_114 rfl rfl ?_
      obtain ⟨q_3, h⟩ := gd_E h
      refine r_iald C.1 (cK C (kW3 (kW_17 (vp_lt q_2)))) (cS C (sh_W3 (kW_17 (vp_lt q_2)))) 0 (cT0 C) q_3 dX10_chargePart_115 ?_
      refine r_i2l C.1 dX10_chargePart_116 ?_
      refine r_lload C.1 4 dX10_chargePart_117 rfl ?_
      refine r_lmul C.1 dX10_chargePart_119 ?_
      refine r_lload C.1 3 dX10_chargePart_120 rfl ?_
      obtain ⟨z_4, h⟩ := g0L_E h
      refine r_ldiv C.1 z_4 dX10_chargePart_122 ?_
      refine r_l2i C.1 dX10_chargePart_123 ?_
      exact r_sub [] rfl (w_X10_chargePart_124 C M (((((M ((25 + 5 * x2.toNatClampNeg) + 3) x3.toNatClampNeg).toInt64) * v.2) / v.1).toInt32) _ h hr ev eM)
    · replace h := ite_F c_1 h
      refine r_iconst (v := 0) C.1 dX10_chargePart_98 rfl ?_
      refine r_goto C.1 124 dX10_chargePart_99 (by decide) ?_
      exact r_sub [] rfl (w_X10_chargePart_124 C M (0 : Int32) _ h hr ev eM)

def b_X10_chargePart_0 (M : xM) (x1 : Int32) (x2 : Int32) (x3 : Int32) : Option (Int32 × xM) :=
  bd (f_X9_look M x2 x3) (fun M_3 => b_X10_chargePart_22 M_3 x1 x2 x3 (0 : Int64) (0 : Int64) (0 : Int32))
set_option maxRecDepth 20000 in
set_option maxHeartbeats 2000000 in
theorem w_X10_chargePart_0 {x : xC} (C : CtC x RX10 cX10_chargePart 9 ({ frames := 4, cells := 0, slots := 0, locals := 100 } : Room)) (M : xM) (x1 : Int32) (x2 : Int32) (x3 : Int32)  (o : Int32 × xM) (h : b_X10_chargePart_0 M x1 x2 x3 = some o) (hr : (x_me x).sig.returnType = some .int) (ev : x_rv x = some (.int o.1)) (eM : x_M x = o.2) : J x M 0 [(0, .ref (x_ad x 0)), (1, .int x1), (2, .int x2), (3, .int x3)] [] := by
  unfold b_X10_chargePart_0 at h
  refine r_aload_n C.1 0 dX10_chargePart_0 rfl rfl ?_
  refine gf_X10_51 C dX10_chargePart_1 ?_
  refine r_aload_n C.1 0 dX10_chargePart_4 rfl rfl ?_
  refine gf_X10_26 C dX10_chargePart_5 ?_
  refine r_iload_n C.1 2 dX10_chargePart_8 rfl rfl ?_
  refine r_iload_n C.1 3 dX10_chargePart_9 rfl rfl ?_
  obtain ⟨M_3, hc_2, h⟩ := bd_E h
  refine cl_X10_286 C ⟨Nat.le_of_ble_eq_true rfl, Nat.le_of_ble_eq_true rfl⟩ (m_X9_look _ _ _ M x2 x3 hc_2) (Nat.le_of_ble_eq_true rfl) dX10_chargePart_10 ?_
  refine r_lconst (v := 0) C.1 dX10_chargePart_13 rfl ?_
  refine r_lstore C.1 [(4, .long (0 : Int64)), (0, .ref (x_ad x 0)), (1, .int x1), (2, .int x2), (3, .int x3)] dX10_chargePart_14 (by decide) rfl rfl ?_
  refine r_lconst (v := 0) C.1 dX10_chargePart_16 rfl ?_
  refine r_lstore C.1 [(6, .long (0 : Int64)), (4, .long (0 : Int64)), (0, .ref (x_ad x 0)), (1, .int x1), (2, .int x2), (3, .int x3)] dX10_chargePart_17 (by decide) rfl rfl ?_
  refine r_iconst (v := 0) C.1 dX10_chargePart_19 rfl ?_
  refine r_istore C.1 [(8, .int (0 : Int32)), (6, .long (0 : Int64)), (4, .long (0 : Int64)), (0, .ref (x_ad x 0)), (1, .int x1), (2, .int x2), (3, .int x3)] dX10_chargePart_20 (by decide) rfl rfl ?_
  exact r_sub [3, 4, 5, 6, 2, 1, 0] rfl (w_X10_chargePart_22 C M_3 x1 x2 x3 (0 : Int64) (0 : Int64) (0 : Int32) _ h hr ev eM)
def f_X10_chargePart (M : xM) (x1 : Int32) (x2 : Int32) (x3 : Int32) : Option (Int32 × xM) := b_X10_chargePart_0 M x1 x2 x3
set_option maxRecDepth 20000 in
theorem m_X10_chargePart (l : Launch) (D : va_G) (ad : Nat → Nat) (M : xM) (x1 : Int32) (x2 : Int32) (x3 : Int32)  {r : Int32} {M1 : xM} (h : f_X10_chargePart M x1 x2 x3 = some (r, M1)) : xMetC l yX10_chargePart cX10_chargePart 9 (some .int) ({ frames := 4, cells := 0, slots := 0, locals := 100 } : Room) [.ref (ad 0), .int x1, .int x2, .int x3] D ad M (some (.int r)) M1 := by
  refine xMetC_of (own := RX10) (by decide) rfl (Nat.le_of_ble_eq_true rfl) ?_
  intro x C e1 e2 e3 ev eM hr
  subst e1; subst e2; subst e3
  refine r_sub (L := [(0, .ref (x_ad x 0)), (1, .int x1), (2, .int x2), (3, .int x3)]) (L' := [(0, .ref (x_ad x 0)), (1, .int x1), (2, .int x2), (3, .int x3)]) [0, 1, 2, 3] rfl ?_
  exact w_X10_chargePart_0 C M x1 x2 x3 _ h hr ev eM

def b_X10_commissionTo_50 (M : xM) (s0 : Int32) : Option (Int32) :=
  some s0
set_option maxRecDepth 20000 in
set_option maxHeartbeats 2000000 in
theorem w_X10_commissionTo_50 {x : xC} (C : CtC x RX10 cX10_commissionTo 5 ({ frames := 1, cells := 0, slots := 0, locals := 23 } : Room)) (M : xM) (s0 : Int32)  (o : Int32) (h : b_X10_commissionTo_50 M s0 = some o) (hr : (x_me x).sig.returnType = some .int) (ev : x_rv x = some (.int o)) (eM : x_M x = M) : J x M 50 [] [.int s0] := by
  unfold b_X10_commissionTo_50 at h
  obtain rfl := Option.some.inj h
  exact r_iret C.1 hr ev eM dX10_commissionTo_50

def b_X10_commissionTo_25 (M : xM) (x2 : Int32) (x3 : Int32) (s0 : Int32) : Option (Int32) :=
  if s0 = 0 then b_X10_commissionTo_50 M (0 : Int32) else gd x2 4 (gd x3 10 (b_X10_commissionTo_50 M (M ((25 + 5 * x2.toNatClampNeg) + 4) x3.toNatClampNeg)))
set_option maxRecDepth 20000 in
set_option maxHeartbeats 2000000 in
theorem w_X10_commissionTo_25 {x : xC} (C : CtC x RX10 cX10_commissionTo 5 ({ frames := 1, cells := 0, slots := 0, locals := 23 } : Room)) (M : xM) (x2 : Int32) (x3 : Int32) (s0 : Int32)  (o : Int32) (h : b_X10_commissionTo_25 M x2 x3 s0 = some o) (hr : (x_me x).sig.returnType = some .int) (ev : x_rv x = some (.int o)) (eM : x_M x = M) : J x M 25 [(0, .ref (x_ad x 0)), (2, .int x2), (3, .int x3)] [.int s0] := by
  unfold b_X10_commissionTo_25 at h
  refine r_istore C.1 [(4, .int s0), (0, .ref (x_ad x 0)), (2, .int x2), (3, .int x3)] dX10_commissionTo_25 (by decide) rfl rfl ?_
  refine r_iload C.1 0 dX10_commissionTo_27 rfl ?_
  refine r_if_eq C.1 49 dX10_commissionTo_29 (by decide) (fun c_1 => ?_) (fun c_1 => ?_)
  · replace h := ite_T c_1 h
    refine r_iconst (v := 0) C.1 dX10_commissionTo_49 rfl ?_
    exact r_sub [] rfl (w_X10_commissionTo_50 C M (0 : Int32) _ h hr ev eM)
  · replace h := ite_F c_1 h
    refine r_aload_n C.1 1 dX10_commissionTo_32 rfl rfl ?_
    refine gf_X10_26 C dX10_commissionTo_33 ?_
    refine gf_X10_120_17 C dX10_commissionTo_36 ?_
    refine r_iload_n C.1 2 dX10_commissionTo_39 rfl rfl ?_
    obtain ⟨q_2, h⟩ := gd_E h
    refine r_aldq C.1 (cK C (by decide)) (cS C (sh_20)) 2 (cT2 C) q_2 (y := x_ad x (25 + 5 * x2.toNatClampNeg)) rfl dX10_commissionTo_40 ?_
    refine gfk_X10_217 C (kW_17 (vp_lt q_2)) dX10_commissionTo_41 ?_
    refine r_iload_n C.1 3 dX10_commissionTo_44 rfl rfl ?_
    obtain ⟨q_3, h⟩ := gd_E h
    refine r_iald C.1 (cK C (kW4 (kW_17 (vp_lt q_2)))) (cS C (sh_W4 (kW_17 (vp_lt q_2)))) 0 (cT0 C) q_3 dX10_commissionTo_45 ?_
    refine r_goto C.1 50 dX10_commissionTo_46 (by decide) ?_
    exact r_sub [] rfl (w_X10_commissionTo_50 C M (M ((25 + 5 * x2.toNatClampNeg) + 4) x3.toNatClampNeg) _ h hr ev eM)

def b_X10_commissionTo_0 (M : xM) (x1 : Int32) (x2 : Int32) (x3 : Int32) : Option (Int32) :=
  gd x2 4 (bd (f_X10_lastDay M x3) (fun r_2 => bd (f_X8_guardianOn M (25 + 5 * x2.toNatClampNeg) r_2) (fun r_4 => if r_4 = x1 then b_X10_commissionTo_25 M x2 x3 (1 : Int32) else b_X10_commissionTo_25 M x2 x3 (0 : Int32))))
set_option maxRecDepth 20000 in
set_option maxHeartbeats 2000000 in
theorem w_X10_commissionTo_0 {x : xC} (C : CtC x RX10 cX10_commissionTo 5 ({ frames := 1, cells := 0, slots := 0, locals := 23 } : Room)) (M : xM) (x1 : Int32) (x2 : Int32) (x3 : Int32)  (o : Int32) (h : b_X10_commissionTo_0 M x1 x2 x3 = some o) (hr : (x_me x).sig.returnType = some .int) (ev : x_rv x = some (.int o)) (eM : x_M x = M) : J x M 0 [(0, .ref (x_ad x 0)), (1, .int x1), (2, .int x2), (3, .int x3)] [] := by
  unfold b_X10_commissionTo_0 at h
  refine r_aload_n C.1 0 dX10_commissionTo_0 rfl rfl ?_
  refine gf_X10_26 C dX10_commissionTo_1 ?_
  refine gf_X10_120_17 C dX10_commissionTo_4 ?_
  refine r_iload_n C.1 2 dX10_commissionTo_7 rfl rfl ?_
  obtain ⟨q_1, h⟩ := gd_E h
  refine r_aldq C.1 (cK C (by decide)) (cS C (sh_20)) 2 (cT2 C) q_1 (y := x_ad x (25 + 5 * x2.toNatClampNeg)) rfl dX10_commissionTo_8 ?_
  refine r_iload_n C.1 3 dX10_commissionTo_9 rfl rfl ?_
  obtain ⟨r_2, hc_3, h⟩ := bd_E h
  refine cl_X10_223 C ⟨Nat.le_of_ble_eq_true rfl, Nat.le_of_ble_eq_true rfl⟩ (m_X10_lastDay _ _ _ M x3 hc_3) (Nat.le_of_ble_eq_true rfl) dX10_commissionTo_10 ?_
  obtain ⟨r_4, hc_5, h⟩ := bd_E h
  refine cl_X10_139 C (kW_17 (vp_lt q_1)) ⟨Nat.le_of_ble_eq_true rfl, Nat.le_of_ble_eq_true rfl⟩ (m_X8_guardianOn _ _ _ M (25 + 5 * x2.toNatClampNeg) r_2 (kW_17 (vp_lt q_1)) hc_5) (Nat.le_of_ble_eq_true rfl) dX10_commissionTo_13 ?_
  refine r_iload_n C.1 1 dX10_commissionTo_16 rfl rfl ?_
  refine r_icmp_ne C.1 24 dX10_commissionTo_17 (by decide) (fun c_6 => ?_) (fun c_6 => ?_)
  · replace h := ite_F c_6 h
    refine r_iconst (v := 0) C.1 dX10_commissionTo_24 rfl ?_
    exact r_sub [0, 2, 3] rfl (w_X10_commissionTo_25 C M x2 x3 (0 : Int32) _ h hr ev eM)
  · replace h := ite_T c_6 h
    refine r_iconst (v := 1) C.1 dX10_commissionTo_20 rfl ?_
    refine r_goto C.1 25 dX10_commissionTo_21 (by decide) ?_
    exact r_sub [0, 2, 3] rfl (w_X10_commissionTo_25 C M x2 x3 (1 : Int32) _ h hr ev eM)
def f_X10_commissionTo (M : xM) (x1 : Int32) (x2 : Int32) (x3 : Int32) : Option (Int32) := b_X10_commissionTo_0 M x1 x2 x3
set_option maxRecDepth 20000 in
theorem m_X10_commissionTo (l : Launch) (D : va_G) (ad : Nat → Nat) (M : xM) (x1 : Int32) (x2 : Int32) (x3 : Int32)  {o : Int32} (h : f_X10_commissionTo M x1 x2 x3 = some o) : xMetC l yX10_commissionTo cX10_commissionTo 5 (some .int) ({ frames := 1, cells := 0, slots := 0, locals := 23 } : Room) [.ref (ad 0), .int x1, .int x2, .int x3] D ad M (some (.int o)) M := by
  refine xMetC_of (own := RX10) (by decide) rfl (Nat.le_of_ble_eq_true rfl) ?_
  intro x C e1 e2 e3 ev eM hr
  subst e1; subst e2; subst e3
  refine r_sub (L := [(0, .ref (x_ad x 0)), (1, .int x1), (2, .int x2), (3, .int x3)]) (L' := [(0, .ref (x_ad x 0)), (1, .int x1), (2, .int x2), (3, .int x3)]) [0, 1, 2, 3] rfl ?_
  exact w_X10_commissionTo_0 C M x1 x2 x3 _ h hr ev eM

def b_X10_liable_20 (M : xM)  : Option (Int32 × xM) :=
  some ((-1000000000 : Int32), M)
set_option maxRecDepth 20000 in
set_option maxHeartbeats 2000000 in
theorem w_X10_liable_20 {x : xC} (C : CtC x RX10 cX10_liable 6 ({ frames := 5, cells := 0, slots := 0, locals := 128 } : Room)) (M : xM)   (o : Int32 × xM) (h : b_X10_liable_20 M = some o) (hr : (x_me x).sig.returnType = some .int) (ev : x_rv x = some (.int o.1)) (eM : x_M x = o.2) : J x M 20 [] [] := by
  unfold b_X10_liable_20 at h
  refine r_ldc (v := -1000000000) C.1 kw_729 dX10_liable_20 ?_
  obtain rfl := Option.some.inj h
  exact r_iret C.1 hr ev eM dX10_liable_22

def b_X10_liable_101 (M : xM) (x1 : Int32) (x2 : Int32) (x4 : Int32) (x5 : Int32) (s0 : Int32) (s1 : Int32) : Option ((xM × Int32 × Int32) ⊕ (xM × Int32)) :=
  lt (s1 + s0) (fun y_1 => lt (x5 + (1 : Int32)) (fun y_2 => some (.inl (M, y_1, y_2))))
set_option maxRecDepth 20000 in
set_option maxHeartbeats 2000000 in
theorem w_X10_liable_101 {x : xC} (C : CtC x RX10 cX10_liable 6 ({ frames := 5, cells := 0, slots := 0, locals := 128 } : Room)) (M : xM) (x1 : Int32) (x2 : Int32) (x4 : Int32) (x5 : Int32) (s0 : Int32) (s1 : Int32)  (o : (xM × Int32 × Int32) ⊕ (xM × Int32)) (h : b_X10_liable_101 M x1 x2 x4 x5 s0 s1 = some o) (kh : ∀ s : xM × Int32 × Int32, o = .inl s → J x s.1 56 [(0, .ref (x_ad x 0)), (1, .int x1), (2, .int x2), (3, .int s.2.1), (4, .int x4), (5, .int s.2.2)] []) (ke_0 : ∀ v : xM × Int32, o = .inr v → J x v.1 109 [(0, .ref (x_ad x 0)), (1, .int x1), (2, .int x2), (3, .int v.2), (4, .int x4)] []) : J x M 101 [(0, .ref (x_ad x 0)), (1, .int x1), (2, .int x2), (4, .int x4), (5, .int x5)] [.int s0, .int s1] := by
  unfold b_X10_liable_101 at h
  refine r_iadd C.1 dX10_liable_101 ?_
  obtain ⟨y_1, ey_1, h⟩ := lt_E h
  refine r_istore_n C.1 [(3, .int y_1), (0, .ref (x_ad x 0)), (1, .int x1), (2, .int x2), (4, .int x4), (5, .int x5)] dX10_liable_102 rfl (by decide) ey_1 rfl ?_
  obtain ⟨y_2, ey_2, h⟩ := lt_E h
  refine r_iinc C.1 5 [(5, .int y_2), (3, .int y_1), (0, .ref (x_ad x 0)), (1, .int x1), (2, .int x2), (4, .int x4)] dX10_liable_103 rfl ey_2 (by decide) rfl ?_
  refine r_goto C.1 56 dX10_liable_106 (by decide) ?_
  exact r_sub [2, 3, 4, 1, 5, 0] rfl (kh _ (Option.some.inj h).symm)

def bl_X10_liable_56 (M : xM) (x1 : Int32) (x2 : Int32) (x3 : Int32) (x4 : Int32) (x5 : Int32) : Option ((xM × Int32 × Int32) ⊕ (xM × Int32)) :=
  gd x4 4 (if (M (25 + 5 * x4.toNatClampNeg) 5) ≤ x5 then some (.inr (M, x3)) else if x2 = (1 : Int32) then bd2 (f_X10_chargePart M x1 x4 x5) (fun r_6 M_8 => b_X10_liable_101 M_8 x1 x2 x4 x5 r_6 x3) else bd (f_X10_commissionTo M x1 x4 x5) (fun r_4 => b_X10_liable_101 M x1 x2 x4 x5 r_4 x3))
set_option maxRecDepth 20000 in
set_option maxHeartbeats 2000000 in
theorem wl_X10_liable_56 {x : xC} (C : CtC x RX10 cX10_liable 6 ({ frames := 5, cells := 0, slots := 0, locals := 128 } : Room)) (M : xM) (x1 : Int32) (x2 : Int32) (x3 : Int32) (x4 : Int32) (x5 : Int32)  (o : (xM × Int32 × Int32) ⊕ (xM × Int32)) (h : bl_X10_liable_56 M x1 x2 x3 x4 x5 = some o) (kh : ∀ s : xM × Int32 × Int32, o = .inl s → J x s.1 56 [(0, .ref (x_ad x 0)), (1, .int x1), (2, .int x2), (3, .int s.2.1), (4, .int x4), (5, .int s.2.2)] []) (ke_0 : ∀ v : xM × Int32, o = .inr v → J x v.1 109 [(0, .ref (x_ad x 0)), (1, .int x1), (2, .int x2), (3, .int v.2), (4, .int x4)] []) : J x M 56 [(0, .ref (x_ad x 0)), (1, .int x1), (2, .int x2), (3, .int x3), (4, .int x4), (5, .int x5)] [] := by
  unfold bl_X10_liable_56 at h
  refine r_iload C.1 5 dX10_liable_56 rfl ?_
  refine r_aload_n C.1 0 dX10_liable_58 rfl rfl ?_
  refine gf_X10_26 C dX10_liable_59 ?_
  refine gf_X10_120_17 C dX10_liable_62 ?_
  refine r_iload C.1 4 dX10_liable_65 rfl ?_
  obtain ⟨q_1, h⟩ := gd_E h
  refine r_aldq C.1 (cK C (by decide)) (cS C (sh_20)) 2 (cT2 C) q_1 (y := x_ad x (25 + 5 * x4.toNatClampNeg)) rfl dX10_liable_67 ?_
  refine gfk_X10_208 C (kW_17 (vp_lt q_1)) dX10_liable_68 ?_
  refine r_icmp_ge C.1 109 dX10_liable_71 (by decide) (fun c_2 => ?_) (fun c_2 => ?_)
  · replace h := ite_T c_2 h
    exact r_sub [0, 1, 2, 3, 4] rfl (ke_0 _ (Option.some.inj h).symm)
  · replace h := ite_F c_2 h
    refine r_iload_n C.1 3 dX10_liable_74 rfl rfl ?_
    refine r_iload_n C.1 2 dX10_liable_75 rfl rfl ?_
    refine r_iconst (v := 1) C.1 dX10_liable_76 rfl ?_
    refine r_icmp_ne C.1 92 dX10_liable_77 (by decide) (fun c_3 => ?_) (fun c_3 => ?_)
    · replace h := ite_F c_3 h
      refine r_aload_n C.1 0 dX10_liable_92 rfl rfl ?_
      refine r_iload_n C.1 1 dX10_liable_93 rfl rfl ?_
      refine r_iload C.1 4 dX10_liable_94 rfl ?_
      refine r_iload C.1 5 dX10_liable_96 rfl ?_
      obtain ⟨r_4, hc_5, h⟩ := bd_E h
      refine cl_X10_330 C ⟨Nat.le_of_ble_eq_true rfl, Nat.le_of_ble_eq_true rfl⟩ (m_X10_commissionTo _ _ _ M x1 x4 x5 hc_5) (Nat.le_of_ble_eq_true rfl) dX10_liable_98 ?_
      exact r_sub [0, 1, 2, 4, 5] rfl (w_X10_liable_101 C M x1 x2 x4 x5 r_4 x3 _ h kh ke_0)
    · replace h := ite_T c_3 h
      refine r_aload_n C.1 0 dX10_liable_80 rfl rfl ?_
      refine r_iload_n C.1 1 dX10_liable_81 rfl rfl ?_
      refine r_iload C.1 4 dX10_liable_82 rfl ?_
      refine r_iload C.1 5 dX10_liable_84 rfl ?_
      obtain ⟨r_6, M_8, hc_7, h⟩ := bd2_E h
      refine cl_X10_327 C ⟨Nat.le_of_ble_eq_true rfl, Nat.le_of_ble_eq_true rfl⟩ (m_X10_chargePart _ _ _ M x1 x4 x5 hc_7) (Nat.le_of_ble_eq_true rfl) dX10_liable_86 ?_
      refine r_goto C.1 101 dX10_liable_89 (by decide) ?_
      exact r_sub [0, 1, 2, 4, 5] rfl (w_X10_liable_101 C M_8 x1 x2 x4 x5 r_6 x3 _ h kh ke_0)

def b_X10_liable_56 (M : xM) (x1 : Int32) (x2 : Int32) (x3 : Int32) (x4 : Int32) (x5 : Int32) : Option ((xM × Int32 × Int32) ⊕ (xM × Int32)) :=
  bd (loopN (fun s : xM × Int32 × Int32 => bl_X10_liable_56 s.1 x1 x2 s.2.1 x4 s.2.2) BG (M, x3, x5)) (fun v => lt (x4 + (1 : Int32)) (fun y_1 => some (.inl (v.1, v.2, y_1))))
set_option maxRecDepth 20000 in
set_option maxHeartbeats 2000000 in
theorem w_X10_liable_56 {x : xC} (C : CtC x RX10 cX10_liable 6 ({ frames := 5, cells := 0, slots := 0, locals := 128 } : Room)) (M : xM) (x1 : Int32) (x2 : Int32) (x3 : Int32) (x4 : Int32) (x5 : Int32)  (o : (xM × Int32 × Int32) ⊕ (xM × Int32)) (h : b_X10_liable_56 M x1 x2 x3 x4 x5 = some o) (kh : ∀ s : xM × Int32 × Int32, o = .inl s → J x s.1 41 [(0, .ref (x_ad x 0)), (1, .int x1), (2, .int x2), (3, .int s.2.1), (4, .int s.2.2)] []) (ke_0 : ∀ v : xM × Int32, o = .inr v → J x v.1 115 [(3, .int v.2)] []) : J x M 56 [(0, .ref (x_ad x 0)), (1, .int x1), (2, .int x2), (3, .int x3), (4, .int x4), (5, .int x5)] [] := by
  unfold b_X10_liable_56 at h
  obtain ⟨r_0, hr_0, h⟩ := bd_E h
  refine loopN_ind (JJ := fun s => J x s.1 56 [(0, .ref (x_ad x 0)), (1, .int x1), (2, .int x2), (3, .int s.2.1), (4, .int x4), (5, .int s.2.2)] []) (KX := fun q => q = r_0) ?_ BG (M, x3, x5) r_0 hr_0 rfl
  intro s o1 hb kk1 kk2
  refine wl_X10_liable_56 C s.1 x1 x2 s.2.1 x4 s.2.2 _ hb kk1 ?_
  · intro v e0
    have e1 := kk2 _ e0
    subst e1
    obtain ⟨y_1, ey_1, h⟩ := lt_E h
    refine r_iinc C.1 4 [(4, .int y_1), (0, .ref (x_ad x 0)), (1, .int x1), (2, .int x2), (3, .int v.2)] dX10_liable_109 rfl ey_1 (by decide) rfl ?_
    refine r_goto C.1 41 dX10_liable_112 (by decide) ?_
    exact r_sub [1, 2, 3, 4, 0] rfl (kh _ (Option.some.inj h).symm)

def bl_X10_liable_41 (M : xM) (x1 : Int32) (x2 : Int32) (x3 : Int32) (x4 : Int32) : Option ((xM × Int32 × Int32) ⊕ (xM × Int32)) :=
  if (M 17 3) ≤ x4 then some (.inr (M, x3)) else b_X10_liable_56 M x1 x2 x3 x4 (0 : Int32)
set_option maxRecDepth 20000 in
set_option maxHeartbeats 2000000 in
theorem wl_X10_liable_41 {x : xC} (C : CtC x RX10 cX10_liable 6 ({ frames := 5, cells := 0, slots := 0, locals := 128 } : Room)) (M : xM) (x1 : Int32) (x2 : Int32) (x3 : Int32) (x4 : Int32)  (o : (xM × Int32 × Int32) ⊕ (xM × Int32)) (h : bl_X10_liable_41 M x1 x2 x3 x4 = some o) (kh : ∀ s : xM × Int32 × Int32, o = .inl s → J x s.1 41 [(0, .ref (x_ad x 0)), (1, .int x1), (2, .int x2), (3, .int s.2.1), (4, .int s.2.2)] []) (ke_0 : ∀ v : xM × Int32, o = .inr v → J x v.1 115 [(3, .int v.2)] []) : J x M 41 [(0, .ref (x_ad x 0)), (1, .int x1), (2, .int x2), (3, .int x3), (4, .int x4)] [] := by
  unfold bl_X10_liable_41 at h
  refine r_iload C.1 4 dX10_liable_41 rfl ?_
  refine r_aload_n C.1 0 dX10_liable_43 rfl rfl ?_
  refine gf_X10_26 C dX10_liable_44 ?_
  refine gf_X10_117_17 C dX10_liable_47 ?_
  refine r_icmp_ge C.1 115 dX10_liable_50 (by decide) (fun c_1 => ?_) (fun c_1 => ?_)
  · replace h := ite_T c_1 h
    exact r_sub [3] rfl (ke_0 _ (Option.some.inj h).symm)
  · replace h := ite_F c_1 h
    refine r_iconst (v := 0) C.1 dX10_liable_53 rfl ?_
    refine r_istore C.1 [(5, .int (0 : Int32)), (0, .ref (x_ad x 0)), (1, .int x1), (2, .int x2), (3, .int x3), (4, .int x4)] dX10_liable_54 (by decide) rfl rfl ?_
    exact r_sub [1, 2, 3, 4, 5, 0] rfl (w_X10_liable_56 C M x1 x2 x3 x4 (0 : Int32) _ h kh ke_0)

def b_X10_liable_41 (M : xM) (x1 : Int32) (x2 : Int32) (x3 : Int32) (x4 : Int32) : Option (Int32 × xM) :=
  bd (loopN (fun s : xM × Int32 × Int32 => bl_X10_liable_41 s.1 x1 x2 s.2.1 s.2.2) BG (M, x3, x4)) (fun v => some (v.2, v.1))
set_option maxRecDepth 20000 in
set_option maxHeartbeats 2000000 in
theorem w_X10_liable_41 {x : xC} (C : CtC x RX10 cX10_liable 6 ({ frames := 5, cells := 0, slots := 0, locals := 128 } : Room)) (M : xM) (x1 : Int32) (x2 : Int32) (x3 : Int32) (x4 : Int32)  (o : Int32 × xM) (h : b_X10_liable_41 M x1 x2 x3 x4 = some o) (hr : (x_me x).sig.returnType = some .int) (ev : x_rv x = some (.int o.1)) (eM : x_M x = o.2) : J x M 41 [(0, .ref (x_ad x 0)), (1, .int x1), (2, .int x2), (3, .int x3), (4, .int x4)] [] := by
  unfold b_X10_liable_41 at h
  obtain ⟨r_0, hr_0, h⟩ := bd_E h
  refine loopN_ind (JJ := fun s => J x s.1 41 [(0, .ref (x_ad x 0)), (1, .int x1), (2, .int x2), (3, .int s.2.1), (4, .int s.2.2)] []) (KX := fun q => q = r_0) ?_ BG (M, x3, x4) r_0 hr_0 rfl
  intro s o1 hb kk1 kk2
  refine wl_X10_liable_41 C s.1 x1 x2 s.2.1 s.2.2 _ hb kk1 ?_
  · intro v e0
    have e1 := kk2 _ e0
    subst e1
    refine r_iload_n C.1 0 dX10_liable_115 rfl rfl ?_
    obtain rfl := Option.some.inj h
    exact r_iret C.1 hr ev eM dX10_liable_116

def b_X10_liable_0 (M : xM) (x1 : Int32) (x2 : Int32) : Option (Int32 × xM) :=
  bd (f_X1_hasGuardian M x1) (fun r_1 => if r_1 = 0 then b_X10_liable_20 M else if x2 < 0 then b_X10_liable_20 M else if x2 ≤ (2 : Int32) then if x2 = 0 then bd (f_X1_disallowedUnder M x1) (fun r_7 => some (r_7, M)) else b_X10_liable_41 M x1 x2 (0 : Int32) (0 : Int32) else b_X10_liable_20 M)
set_option maxRecDepth 20000 in
set_option maxHeartbeats 2000000 in
theorem w_X10_liable_0 {x : xC} (C : CtC x RX10 cX10_liable 6 ({ frames := 5, cells := 0, slots := 0, locals := 128 } : Room)) (M : xM) (x1 : Int32) (x2 : Int32)  (o : Int32 × xM) (h : b_X10_liable_0 M x1 x2 = some o) (hr : (x_me x).sig.returnType = some .int) (ev : x_rv x = some (.int o.1)) (eM : x_M x = o.2) : J x M 0 [(0, .ref (x_ad x 0)), (1, .int x1), (2, .int x2)] [] := by
  unfold b_X10_liable_0 at h
  refine r_aload_n C.1 0 dX10_liable_0 rfl rfl ?_
  refine gf_X10_26 C dX10_liable_1 ?_
  refine r_iload_n C.1 1 dX10_liable_4 rfl rfl ?_
  obtain ⟨r_1, hc_2, h⟩ := bd_E h
  refine cl_X10_114 C ⟨Nat.le_of_ble_eq_true rfl, Nat.le_of_ble_eq_true rfl⟩ (m_X1_hasGuardian _ _ _ M x1 hc_2) (Nat.le_of_ble_eq_true rfl) dX10_liable_5 ?_
  refine r_if_eq C.1 20 dX10_liable_8 (by decide) (fun c_3 => ?_) (fun c_3 => ?_)
  · replace h := ite_T c_3 h
    exact r_sub [] rfl (w_X10_liable_20 C M _ h hr ev eM)
  · replace h := ite_F c_3 h
    refine r_iload_n C.1 2 dX10_liable_11 rfl rfl ?_
    refine r_if_lt C.1 20 dX10_liable_12 (by decide) (fun c_4 => ?_) (fun c_4 => ?_)
    · replace h := ite_T c_4 h
      exact r_sub [] rfl (w_X10_liable_20 C M _ h hr ev eM)
    · replace h := ite_F c_4 h
      refine r_iload_n C.1 2 dX10_liable_15 rfl rfl ?_
      refine r_iconst (v := 2) C.1 dX10_liable_16 rfl ?_
      refine r_icmp_le C.1 23 dX10_liable_17 (by decide) (fun c_5 => ?_) (fun c_5 => ?_)
      · replace h := ite_T c_5 h
        refine r_iload_n C.1 2 dX10_liable_23 rfl rfl ?_
        refine r_if_ne C.1 36 dX10_liable_24 (by decide) (fun c_6 => ?_) (fun c_6 => ?_)
        · replace h := ite_F c_6 h
          refine r_iconst (v := 0) C.1 dX10_liable_36 rfl ?_
          refine r_istore_n C.1 [(3, .int (0 : Int32)), (0, .ref (x_ad x 0)), (1, .int x1), (2, .int x2)] dX10_liable_37 rfl (by decide) rfl rfl ?_
          refine r_iconst (v := 0) C.1 dX10_liable_38 rfl ?_
          refine r_istore C.1 [(4, .int (0 : Int32)), (3, .int (0 : Int32)), (0, .ref (x_ad x 0)), (1, .int x1), (2, .int x2)] dX10_liable_39 (by decide) rfl rfl ?_
          exact r_sub [2, 3, 4, 1, 0] rfl (w_X10_liable_41 C M x1 x2 (0 : Int32) (0 : Int32) _ h hr ev eM)
        · replace h := ite_T c_6 h
          refine r_aload_n C.1 0 dX10_liable_27 rfl rfl ?_
          refine gf_X10_26 C dX10_liable_28 ?_
          refine r_iload_n C.1 1 dX10_liable_31 rfl rfl ?_
          obtain ⟨r_7, hc_8, h⟩ := bd_E h
          refine cl_X10_324 C ⟨Nat.le_of_ble_eq_true rfl, Nat.le_of_ble_eq_true rfl⟩ (m_X1_disallowedUnder _ _ _ M x1 hc_8) (Nat.le_of_ble_eq_true rfl) dX10_liable_32 ?_
          obtain rfl := Option.some.inj h
          exact r_iret C.1 hr ev eM dX10_liable_35
      · replace h := ite_F c_5 h
        exact r_sub [] rfl (w_X10_liable_20 C M _ h hr ev eM)
def f_X10_liable (M : xM) (x1 : Int32) (x2 : Int32) : Option (Int32 × xM) := b_X10_liable_0 M x1 x2
set_option maxRecDepth 20000 in
theorem m_X10_liable (l : Launch) (D : va_G) (ad : Nat → Nat) (M : xM) (x1 : Int32) (x2 : Int32)  {r : Int32} {M1 : xM} (h : f_X10_liable M x1 x2 = some (r, M1)) : xMetC l yX10_liable cX10_liable 6 (some .int) ({ frames := 5, cells := 0, slots := 0, locals := 128 } : Room) [.ref (ad 0), .int x1, .int x2] D ad M (some (.int r)) M1 := by
  refine xMetC_of (own := RX10) (by decide) rfl (Nat.le_of_ble_eq_true rfl) ?_
  intro x C e1 e2 e3 ev eM hr
  subst e1; subst e2; subst e3
  refine r_sub (L := [(0, .ref (x_ad x 0)), (1, .int x1), (2, .int x2)]) (L' := [(0, .ref (x_ad x 0)), (1, .int x1), (2, .int x2)]) [0, 1, 2] rfl ?_
  exact w_X10_liable_0 C M x1 x2 _ h hr ev eM

def b_X10_fromRow_26 (M : xM) (s0 : Int32) : Option (Int32) :=
  some s0
set_option maxRecDepth 20000 in
set_option maxHeartbeats 2000000 in
theorem w_X10_fromRow_26 {x : xC} (C : CtC x RX10 cX10_fromRow 3 ({ frames := 0, cells := 0, slots := 0, locals := 0 } : Room)) (M : xM) (s0 : Int32)  (o : Int32) (h : b_X10_fromRow_26 M s0 = some o) (hr : (x_me x).sig.returnType = some .int) (ev : x_rv x = some (.int o)) (eM : x_M x = M) : J x M 26 [] [.int s0] := by
  unfold b_X10_fromRow_26 at h
  obtain rfl := Option.some.inj h
  exact r_iret C.1 hr ev eM dX10_fromRow_26

def b_X10_fromRow_16 (M : xM)  : Option (Int32) :=
  b_X10_fromRow_26 M (-1 : Int32)
set_option maxRecDepth 20000 in
set_option maxHeartbeats 2000000 in
theorem w_X10_fromRow_16 {x : xC} (C : CtC x RX10 cX10_fromRow 3 ({ frames := 0, cells := 0, slots := 0, locals := 0 } : Room)) (M : xM)   (o : Int32) (h : b_X10_fromRow_16 M = some o) (hr : (x_me x).sig.returnType = some .int) (ev : x_rv x = some (.int o)) (eM : x_M x = M) : J x M 16 [] [] := by
  unfold b_X10_fromRow_16 at h
  refine r_iconst (v := -1) C.1 dX10_fromRow_16 rfl ?_
  refine r_goto C.1 26 dX10_fromRow_17 (by decide) ?_
  exact r_sub [] rfl (w_X10_fromRow_26 C M (-1 : Int32) _ h hr ev eM)

def b_X10_fromRow_0 (M : xM) (x1 : Int32) (x2 : Int32) : Option (Int32) :=
  if x2 = (-1 : Int32) then some x1 else if x2 < 0 then b_X10_fromRow_16 M else if x2 < x1 then gd x2 40 (b_X10_fromRow_26 M (M 16 x2.toNatClampNeg)) else b_X10_fromRow_16 M
set_option maxRecDepth 20000 in
set_option maxHeartbeats 2000000 in
theorem w_X10_fromRow_0 {x : xC} (C : CtC x RX10 cX10_fromRow 3 ({ frames := 0, cells := 0, slots := 0, locals := 0 } : Room)) (M : xM) (x1 : Int32) (x2 : Int32)  (o : Int32) (h : b_X10_fromRow_0 M x1 x2 = some o) (hr : (x_me x).sig.returnType = some .int) (ev : x_rv x = some (.int o)) (eM : x_M x = M) : J x M 0 [(0, .ref (x_ad x 0)), (1, .int x1), (2, .int x2)] [] := by
  unfold b_X10_fromRow_0 at h
  refine r_iload_n C.1 2 dX10_fromRow_0 rfl rfl ?_
  refine r_iconst (v := -1) C.1 dX10_fromRow_1 rfl ?_
  refine r_icmp_ne C.1 7 dX10_fromRow_2 (by decide) (fun c_1 => ?_) (fun c_1 => ?_)
  · replace h := ite_F c_1 h
    refine r_iload_n C.1 2 dX10_fromRow_7 rfl rfl ?_
    refine r_if_lt C.1 16 dX10_fromRow_8 (by decide) (fun c_2 => ?_) (fun c_2 => ?_)
    · replace h := ite_T c_2 h
      exact r_sub [] rfl (w_X10_fromRow_16 C M _ h hr ev eM)
    · replace h := ite_F c_2 h
      refine r_iload_n C.1 2 dX10_fromRow_11 rfl rfl ?_
      refine r_iload_n C.1 1 dX10_fromRow_12 rfl rfl ?_
      refine r_icmp_lt C.1 20 dX10_fromRow_13 (by decide) (fun c_3 => ?_) (fun c_3 => ?_)
      · replace h := ite_T c_3 h
        refine r_aload_n C.1 0 dX10_fromRow_20 rfl rfl ?_
        refine gf_X10_62 C dX10_fromRow_21 ?_
        refine r_iload_n C.1 2 dX10_fromRow_24 rfl rfl ?_
        obtain ⟨q_4, h⟩ := gd_E h
        refine r_iald C.1 (cK C (by decide)) (cS C (sh_16)) 0 (cT0 C) q_4 dX10_fromRow_25 ?_
        exact r_sub [] rfl (w_X10_fromRow_26 C M (M 16 x2.toNatClampNeg) _ h hr ev eM)
      · replace h := ite_F c_3 h
        exact r_sub [] rfl (w_X10_fromRow_16 C M _ h hr ev eM)
  · replace h := ite_T c_1 h
    refine r_iload_n C.1 1 dX10_fromRow_5 rfl rfl ?_
    obtain rfl := Option.some.inj h
    exact r_iret C.1 hr ev eM dX10_fromRow_6
def f_X10_fromRow (M : xM) (x1 : Int32) (x2 : Int32) : Option (Int32) := b_X10_fromRow_0 M x1 x2
set_option maxRecDepth 20000 in
theorem m_X10_fromRow (l : Launch) (D : va_G) (ad : Nat → Nat) (M : xM) (x1 : Int32) (x2 : Int32)  {o : Int32} (h : f_X10_fromRow M x1 x2 = some o) : xMetC l yX10_fromRow cX10_fromRow 3 (some .int) ({ frames := 0, cells := 0, slots := 0, locals := 0 } : Room) [.ref (ad 0), .int x1, .int x2] D ad M (some (.int o)) M := by
  refine xMetC_of (own := RX10) (by decide) rfl (Nat.le_of_ble_eq_true rfl) ?_
  intro x C e1 e2 e3 ev eM hr
  subst e1; subst e2; subst e3
  refine r_sub (L := [(0, .ref (x_ad x 0)), (1, .int x1), (2, .int x2)]) (L' := [(0, .ref (x_ad x 0)), (1, .int x1), (2, .int x2)]) [0, 1, 2] rfl ?_
  exact w_X10_fromRow_0 C M x1 x2 _ h hr ev eM

def b_X10_dispute_0 (M : xM) (x1 : Int32) : Option (Int32 × xM) :=
  bd2 (f_X1_fillDisputes M (-1 : Int32)) (fun r_1 M_3 => bd (f_X10_fromRow M_3 r_1 x1) (fun r_4 => some (r_4, M_3)))
set_option maxRecDepth 20000 in
set_option maxHeartbeats 2000000 in
theorem w_X10_dispute_0 {x : xC} (C : CtC x RX10 cX10_dispute 2 ({ frames := 2, cells := 0, slots := 0, locals := 47 } : Room)) (M : xM) (x1 : Int32)  (o : Int32 × xM) (h : b_X10_dispute_0 M x1 = some o) (hr : (x_me x).sig.returnType = some .int) (ev : x_rv x = some (.int o.1)) (eM : x_M x = o.2) : J x M 0 [(0, .ref (x_ad x 0)), (1, .int x1)] [] := by
  unfold b_X10_dispute_0 at h
  refine r_aload_n C.1 0 dX10_dispute_0 rfl rfl ?_
  refine r_aload_n C.1 0 dX10_dispute_1 rfl rfl ?_
  refine gf_X10_26 C dX10_dispute_2 ?_
  refine r_iconst (v := -1) C.1 dX10_dispute_5 rfl ?_
  refine r_aload_n C.1 0 dX10_dispute_6 rfl rfl ?_
  refine gf_X10_62 C dX10_dispute_7 ?_
  obtain ⟨r_1, M_3, hc_2, h⟩ := bd2_E h
  refine cl_X10_333 C ⟨Nat.le_of_ble_eq_true rfl, Nat.le_of_ble_eq_true rfl⟩ (m_X1_fillDisputes _ _ _ M (-1 : Int32) hc_2) (Nat.le_of_ble_eq_true rfl) dX10_dispute_10 ?_
  refine r_iload_n C.1 1 dX10_dispute_13 rfl rfl ?_
  obtain ⟨r_4, hc_5, h⟩ := bd_E h
  refine cl_X10_337 C ⟨Nat.le_of_ble_eq_true rfl, Nat.le_of_ble_eq_true rfl⟩ (m_X10_fromRow _ _ _ M_3 r_1 x1 hc_5) (Nat.le_of_ble_eq_true rfl) dX10_dispute_14 ?_
  obtain rfl := Option.some.inj h
  exact r_iret C.1 hr ev eM dX10_dispute_17
def f_X10_dispute (M : xM) (x1 : Int32) : Option (Int32 × xM) := b_X10_dispute_0 M x1
set_option maxRecDepth 20000 in
theorem m_X10_dispute (l : Launch) (D : va_G) (ad : Nat → Nat) (M : xM) (x1 : Int32)  {r : Int32} {M1 : xM} (h : f_X10_dispute M x1 = some (r, M1)) : xMetC l yX10_dispute cX10_dispute 2 (some .int) ({ frames := 2, cells := 0, slots := 0, locals := 47 } : Room) [.ref (ad 0), .int x1] D ad M (some (.int r)) M1 := by
  refine xMetC_of (own := RX10) (by decide) rfl (Nat.le_of_ble_eq_true rfl) ?_
  intro x C e1 e2 e3 ev eM hr
  subst e1; subst e2; subst e3
  refine r_sub (L := [(0, .ref (x_ad x 0)), (1, .int x1)]) (L' := [(0, .ref (x_ad x 0)), (1, .int x1)]) [0, 1] rfl ?_
  exact w_X10_dispute_0 C M x1 _ h hr ev eM

def b_X10_holder_24 (M : xM) (s0 : Int32) : Option (Int32) :=
  some s0
set_option maxRecDepth 20000 in
set_option maxHeartbeats 2000000 in
theorem w_X10_holder_24 {x : xC} (C : CtC x RX10 cX10_holder 2 ({ frames := 1, cells := 0, slots := 0, locals := 22 } : Room)) (M : xM) (s0 : Int32)  (o : Int32) (h : b_X10_holder_24 M s0 = some o) (hr : (x_me x).sig.returnType = some .int) (ev : x_rv x = some (.int o)) (eM : x_M x = M) : J x M 24 [] [.int s0] := by
  unfold b_X10_holder_24 at h
  obtain rfl := Option.some.inj h
  exact r_iret C.1 hr ev eM dX10_holder_24

def b_X10_holder_12 (M : xM)  : Option (Int32) :=
  b_X10_holder_24 M (-1 : Int32)
set_option maxRecDepth 20000 in
set_option maxHeartbeats 2000000 in
theorem w_X10_holder_12 {x : xC} (C : CtC x RX10 cX10_holder 2 ({ frames := 1, cells := 0, slots := 0, locals := 22 } : Room)) (M : xM)   (o : Int32) (h : b_X10_holder_12 M = some o) (hr : (x_me x).sig.returnType = some .int) (ev : x_rv x = some (.int o)) (eM : x_M x = M) : J x M 12 [] [] := by
  unfold b_X10_holder_12 at h
  refine r_iconst (v := -1) C.1 dX10_holder_12 rfl ?_
  refine r_goto C.1 24 dX10_holder_13 (by decide) ?_
  exact r_sub [] rfl (w_X10_holder_24 C M (-1 : Int32) _ h hr ev eM)

def b_X10_holder_0 (M : xM) (x1 : Int32) : Option (Int32) :=
  if x1 < (1 : Int32) then b_X10_holder_12 M else if x1 ≤ (999 : Int32) then bd (f_X1_holderOf M x1) (fun r_3 => b_X10_holder_24 M r_3) else b_X10_holder_12 M
set_option maxRecDepth 20000 in
set_option maxHeartbeats 2000000 in
theorem w_X10_holder_0 {x : xC} (C : CtC x RX10 cX10_holder 2 ({ frames := 1, cells := 0, slots := 0, locals := 22 } : Room)) (M : xM) (x1 : Int32)  (o : Int32) (h : b_X10_holder_0 M x1 = some o) (hr : (x_me x).sig.returnType = some .int) (ev : x_rv x = some (.int o)) (eM : x_M x = M) : J x M 0 [(0, .ref (x_ad x 0)), (1, .int x1)] [] := by
  unfold b_X10_holder_0 at h
  refine r_iload_n C.1 1 dX10_holder_0 rfl rfl ?_
  refine r_iconst (v := 1) C.1 dX10_holder_1 rfl ?_
  refine r_icmp_lt C.1 12 dX10_holder_2 (by decide) (fun c_1 => ?_) (fun c_1 => ?_)
  · replace h := ite_T c_1 h
    exact r_sub [] rfl (w_X10_holder_12 C M _ h hr ev eM)
  · replace h := ite_F c_1 h
    refine r_iload_n C.1 1 dX10_holder_5 rfl rfl ?_
    refine r_sipush (v := 999) C.1 dX10_holder_6 (by decide) ?_
    refine r_icmp_le C.1 16 dX10_holder_9 (by decide) (fun c_2 => ?_) (fun c_2 => ?_)
    · replace h := ite_T c_2 h
      refine r_aload_n C.1 0 dX10_holder_16 rfl rfl ?_
      refine gf_X10_26 C dX10_holder_17 ?_
      refine r_iload_n C.1 1 dX10_holder_20 rfl rfl ?_
      obtain ⟨r_3, hc_4, h⟩ := bd_E h
      refine cl_X10_340 C ⟨Nat.le_of_ble_eq_true rfl, Nat.le_of_ble_eq_true rfl⟩ (m_X1_holderOf _ _ _ M x1 hc_4) (Nat.le_of_ble_eq_true rfl) dX10_holder_21 ?_
      exact r_sub [] rfl (w_X10_holder_24 C M r_3 _ h hr ev eM)
    · replace h := ite_F c_2 h
      exact r_sub [] rfl (w_X10_holder_12 C M _ h hr ev eM)
def f_X10_holder (M : xM) (x1 : Int32) : Option (Int32) := b_X10_holder_0 M x1
set_option maxRecDepth 20000 in
theorem m_X10_holder (l : Launch) (D : va_G) (ad : Nat → Nat) (M : xM) (x1 : Int32)  {o : Int32} (h : f_X10_holder M x1 = some o) : xMetC l yX10_holder cX10_holder 2 (some .int) ({ frames := 1, cells := 0, slots := 0, locals := 22 } : Room) [.ref (ad 0), .int x1] D ad M (some (.int o)) M := by
  refine xMetC_of (own := RX10) (by decide) rfl (Nat.le_of_ble_eq_true rfl) ?_
  intro x C e1 e2 e3 ev eM hr
  subst e1; subst e2; subst e3
  refine r_sub (L := [(0, .ref (x_ad x 0)), (1, .int x1)]) (L' := [(0, .ref (x_ad x 0)), (1, .int x1)]) [0, 1] rfl ?_
  exact w_X10_holder_0 C M x1 _ h hr ev eM

def b_X10_again_0 (M : xM) (x1 : Int32) : Option (Int32 × xM) :=
  bd2 (f_X1_fillSpoilt M) (fun r_1 M_3 => bd (f_X10_fromRow M_3 r_1 x1) (fun r_4 => some (r_4, M_3)))
set_option maxRecDepth 20000 in
set_option maxHeartbeats 2000000 in
theorem w_X10_again_0 {x : xC} (C : CtC x RX10 cX10_again 2 ({ frames := 2, cells := 0, slots := 0, locals := 43 } : Room)) (M : xM) (x1 : Int32)  (o : Int32 × xM) (h : b_X10_again_0 M x1 = some o) (hr : (x_me x).sig.returnType = some .int) (ev : x_rv x = some (.int o.1)) (eM : x_M x = o.2) : J x M 0 [(0, .ref (x_ad x 0)), (1, .int x1)] [] := by
  unfold b_X10_again_0 at h
  refine r_aload_n C.1 0 dX10_again_0 rfl rfl ?_
  refine r_aload_n C.1 0 dX10_again_1 rfl rfl ?_
  refine gf_X10_26 C dX10_again_2 ?_
  refine r_aload_n C.1 0 dX10_again_5 rfl rfl ?_
  refine gf_X10_62 C dX10_again_6 ?_
  obtain ⟨r_1, M_3, hc_2, h⟩ := bd2_E h
  refine cl_X10_343 C ⟨Nat.le_of_ble_eq_true rfl, Nat.le_of_ble_eq_true rfl⟩ (m_X1_fillSpoilt _ _ _ M hc_2) (Nat.le_of_ble_eq_true rfl) dX10_again_9 ?_
  refine r_iload_n C.1 1 dX10_again_12 rfl rfl ?_
  obtain ⟨r_4, hc_5, h⟩ := bd_E h
  refine cl_X10_337 C ⟨Nat.le_of_ble_eq_true rfl, Nat.le_of_ble_eq_true rfl⟩ (m_X10_fromRow _ _ _ M_3 r_1 x1 hc_5) (Nat.le_of_ble_eq_true rfl) dX10_again_13 ?_
  obtain rfl := Option.some.inj h
  exact r_iret C.1 hr ev eM dX10_again_16
def f_X10_again (M : xM) (x1 : Int32) : Option (Int32 × xM) := b_X10_again_0 M x1
set_option maxRecDepth 20000 in
theorem m_X10_again (l : Launch) (D : va_G) (ad : Nat → Nat) (M : xM) (x1 : Int32)  {r : Int32} {M1 : xM} (h : f_X10_again M x1 = some (r, M1)) : xMetC l yX10_again cX10_again 2 (some .int) ({ frames := 2, cells := 0, slots := 0, locals := 43 } : Room) [.ref (ad 0), .int x1] D ad M (some (.int r)) M1 := by
  refine xMetC_of (own := RX10) (by decide) rfl (Nat.le_of_ble_eq_true rfl) ?_
  intro x C e1 e2 e3 ev eM hr
  subst e1; subst e2; subst e3
  refine r_sub (L := [(0, .ref (x_ad x 0)), (1, .int x1)]) (L' := [(0, .ref (x_ad x 0)), (1, .int x1)]) [0, 1] rfl ?_
  exact w_X10_again_0 C M x1 _ h hr ev eM

def b_X10_needed_22 (M : xM)  : Option (Int32 × xM) :=
  some ((-1000000000 : Int32), M)
set_option maxRecDepth 20000 in
set_option maxHeartbeats 2000000 in
theorem w_X10_needed_22 {x : xC} (C : CtC x RX10 cX10_needed 6 ({ frames := 2, cells := 0, slots := 0, locals := 48 } : Room)) (M : xM)   (o : Int32 × xM) (h : b_X10_needed_22 M = some o) (hr : (x_me x).sig.returnType = some .int) (ev : x_rv x = some (.int o.1)) (eM : x_M x = o.2) : J x M 22 [] [] := by
  unfold b_X10_needed_22 at h
  refine r_ldc (v := -1000000000) C.1 kw_729 dX10_needed_22 ?_
  obtain rfl := Option.some.inj h
  exact r_iret C.1 hr ev eM dX10_needed_24

def b_X10_needed_96 (M : xM) (x5 : Int32) : Option (Int32 × xM) :=
  some (x5, M)
set_option maxRecDepth 20000 in
set_option maxHeartbeats 2000000 in
theorem w_X10_needed_96 {x : xC} (C : CtC x RX10 cX10_needed 6 ({ frames := 2, cells := 0, slots := 0, locals := 48 } : Room)) (M : xM) (x5 : Int32)  (o : Int32 × xM) (h : b_X10_needed_96 M x5 = some o) (hr : (x_me x).sig.returnType = some .int) (ev : x_rv x = some (.int o.1)) (eM : x_M x = o.2) : J x M 96 [(5, .int x5)] [] := by
  unfold b_X10_needed_96 at h
  refine r_iload C.1 0 dX10_needed_96 rfl ?_
  obtain rfl := Option.some.inj h
  exact r_iret C.1 hr ev eM dX10_needed_98

def bl_X10_needed_56 (M : xM) (x2 : Int32) (x3 : Int32) (x4 : Int32) (x5 : Int32) : Option ((Int32 × Int32) ⊕ (Int32)) :=
  if x4 ≤ x5 then some (.inr x5) else if x3 ≤ x2 then some (.inr x5) else gd x5 40 (gd (M 16 x5.toNatClampNeg) 40 (bd (f_X2_part M (45 + (M 16 x5.toNatClampNeg).toNatClampNeg) (3 : Int32)) (fun r_5 => lt (x3 - r_5) (fun y_7 => lt (x5 + (1 : Int32)) (fun y_8 => some (.inl (y_7, y_8)))))))
set_option maxRecDepth 20000 in
set_option maxHeartbeats 2000000 in
theorem wl_X10_needed_56 {x : xC} (C : CtC x RX10 cX10_needed 6 ({ frames := 2, cells := 0, slots := 0, locals := 48 } : Room)) (M : xM) (x2 : Int32) (x3 : Int32) (x4 : Int32) (x5 : Int32)  (o : (Int32 × Int32) ⊕ (Int32)) (h : bl_X10_needed_56 M x2 x3 x4 x5 = some o) (kh : ∀ s : Int32 × Int32, o = .inl s → J x M 56 [(0, .ref (x_ad x 0)), (2, .int x2), (3, .int s.1), (4, .int x4), (5, .int s.2)] []) (ke_0 : ∀ v : Int32, o = .inr v → J x M 96 [(5, .int v)] []) : J x M 56 [(0, .ref (x_ad x 0)), (2, .int x2), (3, .int x3), (4, .int x4), (5, .int x5)] [] := by
  unfold bl_X10_needed_56 at h
  refine r_iload C.1 4 dX10_needed_56 rfl ?_
  refine r_iload C.1 3 dX10_needed_58 rfl ?_
  refine r_icmp_ge C.1 96 dX10_needed_60 (by decide) (fun c_1 => ?_) (fun c_1 => ?_)
  · replace h := ite_T c_1 h
    exact r_sub [4] rfl (ke_0 _ (Option.some.inj h).symm)
  · replace h := ite_F c_1 h
    refine r_iload_n C.1 2 dX10_needed_63 rfl rfl ?_
    refine r_iload_n C.1 1 dX10_needed_64 rfl rfl ?_
    refine r_icmp_le C.1 96 dX10_needed_65 (by decide) (fun c_2 => ?_) (fun c_2 => ?_)
    · replace h := ite_T c_2 h
      exact r_sub [4] rfl (ke_0 _ (Option.some.inj h).symm)
    · replace h := ite_F c_2 h
      refine r_iload_n C.1 2 dX10_needed_68 rfl rfl ?_
      refine r_aload_n C.1 0 dX10_needed_69 rfl rfl ?_
      refine gf_X10_26 C dX10_needed_70 ?_
      refine gf_X10_188_17 C dX10_needed_73 ?_
      refine r_aload_n C.1 0 dX10_needed_76 rfl rfl ?_
      refine gf_X10_62 C dX10_needed_77 ?_
      refine r_iload C.1 4 dX10_needed_80 rfl ?_
      obtain ⟨q_3, h⟩ := gd_E h
      refine r_iald C.1 (cK C (by decide)) (cS C (sh_16)) 0 (cT0 C) q_3 dX10_needed_82 ?_
      obtain ⟨q_4, h⟩ := gd_E h
      refine r_aldq C.1 (cK C (by decide)) (cS C (sh_21)) 3 (cT3 C) q_4 (y := x_ad x (45 + (M 16 x5.toNatClampNeg).toNatClampNeg)) rfl dX10_needed_83 ?_
      refine r_iconst (v := 3) C.1 dX10_needed_84 rfl ?_
      obtain ⟨r_5, hc_6, h⟩ := bd_E h
      refine cl_X10_202 C (kE_17 (vp_lt q_4)) ⟨Nat.le_of_ble_eq_true rfl, Nat.le_of_ble_eq_true rfl⟩ (m_X2_part _ _ _ M (45 + (M 16 x5.toNatClampNeg).toNatClampNeg) (3 : Int32) (kE_17 (vp_lt q_4)) hc_6) (Nat.le_of_ble_eq_true rfl) dX10_needed_85 ?_
      refine r_isub C.1 dX10_needed_88 ?_
      obtain ⟨y_7, ey_7, h⟩ := lt_E h
      refine r_istore_n C.1 [(3, .int y_7), (0, .ref (x_ad x 0)), (2, .int x2), (4, .int x4), (5, .int x5)] dX10_needed_89 rfl (by decide) ey_7 rfl ?_
      obtain ⟨y_8, ey_8, h⟩ := lt_E h
      refine r_iinc C.1 4 [(5, .int y_8), (3, .int y_7), (0, .ref (x_ad x 0)), (2, .int x2), (4, .int x4)] dX10_needed_90 rfl ey_8 (by decide) rfl ?_
      refine r_goto C.1 56 dX10_needed_93 (by decide) ?_
      exact r_sub [2, 3, 1, 4, 0] rfl (kh _ (Option.some.inj h).symm)

def b_X10_needed_56 (M : xM) (x2 : Int32) (x3 : Int32) (x4 : Int32) (x5 : Int32) : Option (Int32 × xM) :=
  bd (loopN (fun s : Int32 × Int32 => bl_X10_needed_56 M x2 s.1 x4 s.2) BG (x3, x5)) (fun v => b_X10_needed_96 M v)
set_option maxRecDepth 20000 in
set_option maxHeartbeats 2000000 in
theorem w_X10_needed_56 {x : xC} (C : CtC x RX10 cX10_needed 6 ({ frames := 2, cells := 0, slots := 0, locals := 48 } : Room)) (M : xM) (x2 : Int32) (x3 : Int32) (x4 : Int32) (x5 : Int32)  (o : Int32 × xM) (h : b_X10_needed_56 M x2 x3 x4 x5 = some o) (hr : (x_me x).sig.returnType = some .int) (ev : x_rv x = some (.int o.1)) (eM : x_M x = o.2) : J x M 56 [(0, .ref (x_ad x 0)), (2, .int x2), (3, .int x3), (4, .int x4), (5, .int x5)] [] := by
  unfold b_X10_needed_56 at h
  obtain ⟨r_0, hr_0, h⟩ := bd_E h
  refine loopN_ind (JJ := fun s => J x M 56 [(0, .ref (x_ad x 0)), (2, .int x2), (3, .int s.1), (4, .int x4), (5, .int s.2)] []) (KX := fun q => q = r_0) ?_ BG (x3, x5) r_0 hr_0 rfl
  intro s o1 hb kk1 kk2
  refine wl_X10_needed_56 C M x2 s.1 x4 s.2 _ hb kk1 ?_
  · intro v e0
    have e1 := kk2 _ e0
    subst e1
    exact r_sub [0] rfl (w_X10_needed_96 C M v _ h hr ev eM)

def b_X10_needed_0 (M : xM) (x1 : Int32) (x2 : Int32) : Option (Int32 × xM) :=
  bd (f_X1_hasWard M x1) (fun r_1 => if r_1 = 0 then b_X10_needed_22 M else if x2 < 0 then b_X10_needed_22 M else if x2 ≤ (9999999 : Int32) then bd (f_X1_partOf M x1 (0 : Int32) (3599 : Int32) (3 : Int32)) (fun r_6 => bd2 (f_X1_fillDisputes M x1) (fun r_8 M_10 => b_X10_needed_56 M_10 x2 r_6 r_8 (0 : Int32))) else b_X10_needed_22 M)
set_option maxRecDepth 20000 in
set_option maxHeartbeats 2000000 in
theorem w_X10_needed_0 {x : xC} (C : CtC x RX10 cX10_needed 6 ({ frames := 2, cells := 0, slots := 0, locals := 48 } : Room)) (M : xM) (x1 : Int32) (x2 : Int32)  (o : Int32 × xM) (h : b_X10_needed_0 M x1 x2 = some o) (hr : (x_me x).sig.returnType = some .int) (ev : x_rv x = some (.int o.1)) (eM : x_M x = o.2) : J x M 0 [(0, .ref (x_ad x 0)), (1, .int x1), (2, .int x2)] [] := by
  unfold b_X10_needed_0 at h
  refine r_aload_n C.1 0 dX10_needed_0 rfl rfl ?_
  refine gf_X10_26 C dX10_needed_1 ?_
  refine r_iload_n C.1 1 dX10_needed_4 rfl rfl ?_
  obtain ⟨r_1, hc_2, h⟩ := bd_E h
  refine cl_X10_130 C ⟨Nat.le_of_ble_eq_true rfl, Nat.le_of_ble_eq_true rfl⟩ (m_X1_hasWard _ _ _ M x1 hc_2) (Nat.le_of_ble_eq_true rfl) dX10_needed_5 ?_
  refine r_if_eq C.1 22 dX10_needed_8 (by decide) (fun c_3 => ?_) (fun c_3 => ?_)
  · replace h := ite_T c_3 h
    exact r_sub [] rfl (w_X10_needed_22 C M _ h hr ev eM)
  · replace h := ite_F c_3 h
    refine r_iload_n C.1 2 dX10_needed_11 rfl rfl ?_
    refine r_if_lt C.1 22 dX10_needed_12 (by decide) (fun c_4 => ?_) (fun c_4 => ?_)
    · replace h := ite_T c_4 h
      exact r_sub [] rfl (w_X10_needed_22 C M _ h hr ev eM)
    · replace h := ite_F c_4 h
      refine r_iload_n C.1 2 dX10_needed_15 rfl rfl ?_
      refine r_ldcw (v := 9999999) C.1 kw_887 dX10_needed_16 ?_
      refine r_icmp_le C.1 25 dX10_needed_19 (by decide) (fun c_5 => ?_) (fun c_5 => ?_)
      · replace h := ite_T c_5 h
        refine r_aload_n C.1 0 dX10_needed_25 rfl rfl ?_
        refine gf_X10_26 C dX10_needed_26 ?_
        refine r_iload_n C.1 1 dX10_needed_29 rfl rfl ?_
        refine r_iconst (v := 0) C.1 dX10_needed_30 rfl ?_
        refine r_sipush (v := 3599) C.1 dX10_needed_31 (by decide) ?_
        refine r_iconst (v := 3) C.1 dX10_needed_34 rfl ?_
        obtain ⟨r_6, hc_7, h⟩ := bd_E h
        refine cl_X10_282 C ⟨Nat.le_of_ble_eq_true rfl, Nat.le_of_ble_eq_true rfl⟩ (m_X1_partOf _ _ _ M x1 (0 : Int32) (3599 : Int32) (3 : Int32) hc_7) (Nat.le_of_ble_eq_true rfl) dX10_needed_35 ?_
        refine r_istore_n C.1 [(3, .int r_6), (0, .ref (x_ad x 0)), (1, .int x1), (2, .int x2)] dX10_needed_38 rfl (by decide) rfl rfl ?_
        refine r_aload_n C.1 1 dX10_needed_39 rfl rfl ?_
        refine gf_X10_26 C dX10_needed_40 ?_
        refine r_iload_n C.1 2 dX10_needed_43 rfl rfl ?_
        refine r_aload_n C.1 1 dX10_needed_44 rfl rfl ?_
        refine gf_X10_62 C dX10_needed_45 ?_
        obtain ⟨r_8, M_10, hc_9, h⟩ := bd2_E h
        refine cl_X10_333 C ⟨Nat.le_of_ble_eq_true rfl, Nat.le_of_ble_eq_true rfl⟩ (m_X1_fillDisputes _ _ _ M x1 hc_9) (Nat.le_of_ble_eq_true rfl) dX10_needed_48 ?_
        refine r_istore C.1 [(4, .int r_8), (3, .int r_6), (0, .ref (x_ad x 0)), (1, .int x1), (2, .int x2)] dX10_needed_51 (by decide) rfl rfl ?_
        refine r_iconst (v := 0) C.1 dX10_needed_53 rfl ?_
        refine r_istore C.1 [(5, .int (0 : Int32)), (4, .int r_8), (3, .int r_6), (0, .ref (x_ad x 0)), (1, .int x1), (2, .int x2)] dX10_needed_54 (by decide) rfl rfl ?_
        exact r_sub [3, 5, 2, 1, 0] rfl (w_X10_needed_56 C M_10 x2 r_6 r_8 (0 : Int32) _ h hr ev eM)
      · replace h := ite_F c_5 h
        exact r_sub [] rfl (w_X10_needed_22 C M _ h hr ev eM)
def f_X10_needed (M : xM) (x1 : Int32) (x2 : Int32) : Option (Int32 × xM) := b_X10_needed_0 M x1 x2
set_option maxRecDepth 20000 in
theorem m_X10_needed (l : Launch) (D : va_G) (ad : Nat → Nat) (M : xM) (x1 : Int32) (x2 : Int32)  {r : Int32} {M1 : xM} (h : f_X10_needed M x1 x2 = some (r, M1)) : xMetC l yX10_needed cX10_needed 6 (some .int) ({ frames := 2, cells := 0, slots := 0, locals := 48 } : Room) [.ref (ad 0), .int x1, .int x2] D ad M (some (.int r)) M1 := by
  refine xMetC_of (own := RX10) (by decide) rfl (Nat.le_of_ble_eq_true rfl) ?_
  intro x C e1 e2 e3 ev eM hr
  subst e1; subst e2; subst e3
  refine r_sub (L := [(0, .ref (x_ad x 0)), (1, .int x1), (2, .int x2)]) (L' := [(0, .ref (x_ad x 0)), (1, .int x1), (2, .int x2)]) [0, 1, 2] rfl ?_
  exact w_X10_needed_0 C M x1 x2 _ h hr ev eM

def b_X10_ranksAhead_35 (M : xM) (s0 : Int32) : Option (Int32) :=
  gz s0 (some s0)
set_option maxRecDepth 20000 in
set_option maxHeartbeats 2000000 in
theorem w_X10_ranksAhead_35 {x : xC} (C : CtC x RX10 cX10_ranksAhead 3 ({ frames := 0, cells := 0, slots := 0, locals := 0 } : Room)) (M : xM) (s0 : Int32)  (o : Int32) (h : b_X10_ranksAhead_35 M s0 = some o) (hr : (x_me x).sig.returnType = some .boolean) (ev : x_rv x = some (.int o)) (eM : x_M x = M) : J x M 35 [] [.int s0] := by
  unfold b_X10_ranksAhead_35 at h
  obtain ⟨z_1, h⟩ := gz_E h
  obtain rfl := Option.some.inj h
  exact r_zret C.1 hr (nz_n z_1) ev eM dX10_ranksAhead_35

def b_X10_ranksAhead_83 (M : xM) (s0 : Int32) : Option (Int32) :=
  gz s0 (some s0)
set_option maxRecDepth 20000 in
set_option maxHeartbeats 2000000 in
theorem w_X10_ranksAhead_83 {x : xC} (C : CtC x RX10 cX10_ranksAhead 3 ({ frames := 0, cells := 0, slots := 0, locals := 0 } : Room)) (M : xM) (s0 : Int32)  (o : Int32) (h : b_X10_ranksAhead_83 M s0 = some o) (hr : (x_me x).sig.returnType = some .boolean) (ev : x_rv x = some (.int o)) (eM : x_M x = M) : J x M 83 [] [.int s0] := by
  unfold b_X10_ranksAhead_83 at h
  obtain ⟨z_1, h⟩ := gz_E h
  obtain rfl := Option.some.inj h
  exact r_zret C.1 hr (nz_n z_1) ev eM dX10_ranksAhead_83

def b_X10_ranksAhead_94 (M : xM) (s0 : Int32) : Option (Int32) :=
  gz s0 (some s0)
set_option maxRecDepth 20000 in
set_option maxHeartbeats 2000000 in
theorem w_X10_ranksAhead_94 {x : xC} (C : CtC x RX10 cX10_ranksAhead 3 ({ frames := 0, cells := 0, slots := 0, locals := 0 } : Room)) (M : xM) (s0 : Int32)  (o : Int32) (h : b_X10_ranksAhead_94 M s0 = some o) (hr : (x_me x).sig.returnType = some .boolean) (ev : x_rv x = some (.int o)) (eM : x_M x = M) : J x M 94 [] [.int s0] := by
  unfold b_X10_ranksAhead_94 at h
  obtain ⟨z_1, h⟩ := gz_E h
  obtain rfl := Option.some.inj h
  exact r_zret C.1 hr (nz_n z_1) ev eM dX10_ranksAhead_94

def b_X10_ranksAhead_0 (M : xM) (x1 : Int32) (x2 : Int32) : Option (Int32) :=
  gd x1 40 (gd x2 40 (if (M 16 x1.toNatClampNeg) = (M 16 x2.toNatClampNeg) then gd x1 3 (gd x2 3 (if (M 19 x1.toNatClampNeg) = (M 19 x2.toNatClampNeg) then if x2 ≤ x1 then b_X10_ranksAhead_94 M (0 : Int32) else b_X10_ranksAhead_94 M (1 : Int32) else gd x1 3 (gd x2 3 (if (M 19 x2.toNatClampNeg) ≤ (M 19 x1.toNatClampNeg) then b_X10_ranksAhead_83 M (0 : Int32) else b_X10_ranksAhead_83 M (1 : Int32))))) else gd x1 40 (gd x2 40 (if (M 16 x1.toNatClampNeg) ≤ (M 16 x2.toNatClampNeg) then b_X10_ranksAhead_35 M (0 : Int32) else b_X10_ranksAhead_35 M (1 : Int32)))))
set_option maxRecDepth 20000 in
set_option maxHeartbeats 2000000 in
theorem w_X10_ranksAhead_0 {x : xC} (C : CtC x RX10 cX10_ranksAhead 3 ({ frames := 0, cells := 0, slots := 0, locals := 0 } : Room)) (M : xM) (x1 : Int32) (x2 : Int32)  (o : Int32) (h : b_X10_ranksAhead_0 M x1 x2 = some o) (hr : (x_me x).sig.returnType = some .boolean) (ev : x_rv x = some (.int o)) (eM : x_M x = M) : J x M 0 [(0, .ref (x_ad x 0)), (1, .int x1), (2, .int x2)] [] := by
  unfold b_X10_ranksAhead_0 at h
  refine r_aload_n C.1 0 dX10_ranksAhead_0 rfl rfl ?_
  refine gf_X10_62 C dX10_ranksAhead_1 ?_
  refine r_iload_n C.1 1 dX10_ranksAhead_4 rfl rfl ?_
  obtain ⟨q_1, h⟩ := gd_E h
  refine r_iald C.1 (cK C (by decide)) (cS C (sh_16)) 0 (cT0 C) q_1 dX10_ranksAhead_5 ?_
  refine r_aload_n C.1 0 dX10_ranksAhead_6 rfl rfl ?_
  refine gf_X10_62 C dX10_ranksAhead_7 ?_
  refine r_iload_n C.1 2 dX10_ranksAhead_10 rfl rfl ?_
  obtain ⟨q_2, h⟩ := gd_E h
  refine r_iald C.1 (cK C (by decide)) (cS C (sh_16)) 0 (cT0 C) q_2 dX10_ranksAhead_11 ?_
  refine r_icmp_eq C.1 36 dX10_ranksAhead_12 (by decide) (fun c_3 => ?_) (fun c_3 => ?_)
  · replace h := ite_T c_3 h
    refine r_aload_n C.1 0 dX10_ranksAhead_36 rfl rfl ?_
    refine gf_X10_26 C dX10_ranksAhead_37 ?_
    refine gf_X10_107_17 C dX10_ranksAhead_40 ?_
    refine r_iload_n C.1 1 dX10_ranksAhead_43 rfl rfl ?_
    obtain ⟨q_4, h⟩ := gd_E h
    refine r_iald C.1 (cK C (by decide)) (cS C (sh_19)) 0 (cT0 C) q_4 dX10_ranksAhead_44 ?_
    refine r_aload_n C.1 0 dX10_ranksAhead_45 rfl rfl ?_
    refine gf_X10_26 C dX10_ranksAhead_46 ?_
    refine gf_X10_107_17 C dX10_ranksAhead_49 ?_
    refine r_iload_n C.1 2 dX10_ranksAhead_52 rfl rfl ?_
    obtain ⟨q_5, h⟩ := gd_E h
    refine r_iald C.1 (cK C (by decide)) (cS C (sh_19)) 0 (cT0 C) q_5 dX10_ranksAhead_53 ?_
    refine r_icmp_eq C.1 84 dX10_ranksAhead_54 (by decide) (fun c_6 => ?_) (fun c_6 => ?_)
    · replace h := ite_T c_6 h
      refine r_iload_n C.1 1 dX10_ranksAhead_84 rfl rfl ?_
      refine r_iload_n C.1 2 dX10_ranksAhead_85 rfl rfl ?_
      refine r_icmp_ge C.1 93 dX10_ranksAhead_86 (by decide) (fun c_7 => ?_) (fun c_7 => ?_)
      · replace h := ite_T c_7 h
        refine r_iconst (v := 0) C.1 dX10_ranksAhead_93 rfl ?_
        exact r_sub [] rfl (w_X10_ranksAhead_94 C M (0 : Int32) _ h hr ev eM)
      · replace h := ite_F c_7 h
        refine r_iconst (v := 1) C.1 dX10_ranksAhead_89 rfl ?_
        refine r_goto C.1 94 dX10_ranksAhead_90 (by decide) ?_
        exact r_sub [] rfl (w_X10_ranksAhead_94 C M (1 : Int32) _ h hr ev eM)
    · replace h := ite_F c_6 h
      refine r_aload_n C.1 0 dX10_ranksAhead_57 rfl rfl ?_
      refine gf_X10_26 C dX10_ranksAhead_58 ?_
      refine gf_X10_107_17 C dX10_ranksAhead_61 ?_
      refine r_iload_n C.1 1 dX10_ranksAhead_64 rfl rfl ?_
      obtain ⟨q_8, h⟩ := gd_E h
      refine r_iald C.1 (cK C (by decide)) (cS C (sh_19)) 0 (cT0 C) q_8 dX10_ranksAhead_65 ?_
      refine r_aload_n C.1 0 dX10_ranksAhead_66 rfl rfl ?_
      refine gf_X10_26 C dX10_ranksAhead_67 ?_
      refine gf_X10_107_17 C dX10_ranksAhead_70 ?_
      refine r_iload_n C.1 2 dX10_ranksAhead_73 rfl rfl ?_
      obtain ⟨q_9, h⟩ := gd_E h
      refine r_iald C.1 (cK C (by decide)) (cS C (sh_19)) 0 (cT0 C) q_9 dX10_ranksAhead_74 ?_
      refine r_icmp_ge C.1 82 dX10_ranksAhead_75 (by decide) (fun c_10 => ?_) (fun c_10 => ?_)
      · replace h := ite_T c_10 h
        refine r_iconst (v := 0) C.1 dX10_ranksAhead_82 rfl ?_
        exact r_sub [] rfl (w_X10_ranksAhead_83 C M (0 : Int32) _ h hr ev eM)
      · replace h := ite_F c_10 h
        refine r_iconst (v := 1) C.1 dX10_ranksAhead_78 rfl ?_
        refine r_goto C.1 83 dX10_ranksAhead_79 (by decide) ?_
        exact r_sub [] rfl (w_X10_ranksAhead_83 C M (1 : Int32) _ h hr ev eM)
  · replace h := ite_F c_3 h
    refine r_aload_n C.1 0 dX10_ranksAhead_15 rfl rfl ?_
    refine gf_X10_62 C dX10_ranksAhead_16 ?_
    refine r_iload_n C.1 1 dX10_ranksAhead_19 rfl rfl ?_
    obtain ⟨q_11, h⟩ := gd_E h
    refine r_iald C.1 (cK C (by decide)) (cS C (sh_16)) 0 (cT0 C) q_11 dX10_ranksAhead_20 ?_
    refine r_aload_n C.1 0 dX10_ranksAhead_21 rfl rfl ?_
    refine gf_X10_62 C dX10_ranksAhead_22 ?_
    refine r_iload_n C.1 2 dX10_ranksAhead_25 rfl rfl ?_
    obtain ⟨q_12, h⟩ := gd_E h
    refine r_iald C.1 (cK C (by decide)) (cS C (sh_16)) 0 (cT0 C) q_12 dX10_ranksAhead_26 ?_
    refine r_icmp_le C.1 34 dX10_ranksAhead_27 (by decide) (fun c_13 => ?_) (fun c_13 => ?_)
    · replace h := ite_T c_13 h
      refine r_iconst (v := 0) C.1 dX10_ranksAhead_34 rfl ?_
      exact r_sub [] rfl (w_X10_ranksAhead_35 C M (0 : Int32) _ h hr ev eM)
    · replace h := ite_F c_13 h
      refine r_iconst (v := 1) C.1 dX10_ranksAhead_30 rfl ?_
      refine r_goto C.1 35 dX10_ranksAhead_31 (by decide) ?_
      exact r_sub [] rfl (w_X10_ranksAhead_35 C M (1 : Int32) _ h hr ev eM)
def f_X10_ranksAhead (M : xM) (x1 : Int32) (x2 : Int32) : Option (Int32) := b_X10_ranksAhead_0 M x1 x2
set_option maxRecDepth 20000 in
theorem m_X10_ranksAhead (l : Launch) (D : va_G) (ad : Nat → Nat) (M : xM) (x1 : Int32) (x2 : Int32)  {o : Int32} (h : f_X10_ranksAhead M x1 x2 = some o) : xMetC l yX10_ranksAhead cX10_ranksAhead 3 (some .boolean) ({ frames := 0, cells := 0, slots := 0, locals := 0 } : Room) [.ref (ad 0), .int x1, .int x2] D ad M (some (.int o)) M := by
  refine xMetC_of (own := RX10) (by decide) rfl (Nat.le_of_ble_eq_true rfl) ?_
  intro x C e1 e2 e3 ev eM hr
  subst e1; subst e2; subst e3
  refine r_sub (L := [(0, .ref (x_ad x 0)), (1, .int x1), (2, .int x2)]) (L' := [(0, .ref (x_ad x 0)), (1, .int x1), (2, .int x2)]) [0, 1, 2] rfl ?_
  exact w_X10_ranksAhead_0 C M x1 x2 _ h hr ev eM

def b_X10_ranked_22 (M : xM)  : Option (Int32 × xM) :=
  some ((-1 : Int32), M)
set_option maxRecDepth 20000 in
set_option maxHeartbeats 2000000 in
theorem w_X10_ranked_22 {x : xC} (C : CtC x RX10 cX10_ranked 6 ({ frames := 5, cells := 0, slots := 0, locals := 120 } : Room)) (M : xM)   (o : Int32 × xM) (h : b_X10_ranked_22 M = some o) (hr : (x_me x).sig.returnType = some .int) (ev : x_rv x = some (.int o.1)) (eM : x_M x = o.2) : J x M 22 [] [] := by
  unfold b_X10_ranked_22 at h
  refine r_iconst (v := -1) C.1 dX10_ranked_22 rfl ?_
  obtain rfl := Option.some.inj h
  exact r_iret C.1 hr ev eM dX10_ranked_23

def b_X10_ranked_105 (M : xM) (x2 : Int32) (x3 : Int32) (x4 : Int32) (x5 : Int32) : Option ((Int32 × Int32) ⊕ (Int32)) :=
  lt (x5 + (1 : Int32)) (fun y_1 => some (.inl (x4, y_1)))
set_option maxRecDepth 20000 in
set_option maxHeartbeats 2000000 in
theorem w_X10_ranked_105 {x : xC} (C : CtC x RX10 cX10_ranked 6 ({ frames := 5, cells := 0, slots := 0, locals := 120 } : Room)) (M : xM) (x2 : Int32) (x3 : Int32) (x4 : Int32) (x5 : Int32)  (o : (Int32 × Int32) ⊕ (Int32)) (h : b_X10_ranked_105 M x2 x3 x4 x5 = some o) (kh : ∀ s : Int32 × Int32, o = .inl s → J x M 74 [(0, .ref (x_ad x 0)), (2, .int x2), (3, .int x3), (4, .int s.1), (5, .int s.2)] []) (ke_0 : ∀ v : Int32, o = .inr v → J x M 111 [(0, .ref (x_ad x 0)), (2, .int x2), (3, .int x3), (4, .int v)] []) : J x M 105 [(0, .ref (x_ad x 0)), (2, .int x2), (3, .int x3), (4, .int x4), (5, .int x5)] [] := by
  unfold b_X10_ranked_105 at h
  obtain ⟨y_1, ey_1, h⟩ := lt_E h
  refine r_iinc C.1 4 [(5, .int y_1), (0, .ref (x_ad x 0)), (2, .int x2), (3, .int x3), (4, .int x4)] dX10_ranked_105 rfl ey_1 (by decide) rfl ?_
  refine r_goto C.1 74 dX10_ranked_108 (by decide) ?_
  exact r_sub [1, 2, 3, 4, 0] rfl (kh _ (Option.some.inj h).symm)

def bl_X10_ranked_74 (M : xM) (x2 : Int32) (x3 : Int32) (x4 : Int32) (x5 : Int32) : Option ((Int32 × Int32) ⊕ (Int32)) :=
  if (M 17 1) ≤ x5 then some (.inr x4) else if x5 = x3 then b_X10_ranked_105 M x2 x3 x4 x5 else bd (f_X10_ranksAhead M x5 x3) (fun r_3 => if r_3 = 0 then b_X10_ranked_105 M x2 x3 x4 x5 else lt (x4 + (1 : Int32)) (fun y_6 => b_X10_ranked_105 M x2 x3 y_6 x5))
set_option maxRecDepth 20000 in
set_option maxHeartbeats 2000000 in
theorem wl_X10_ranked_74 {x : xC} (C : CtC x RX10 cX10_ranked 6 ({ frames := 5, cells := 0, slots := 0, locals := 120 } : Room)) (M : xM) (x2 : Int32) (x3 : Int32) (x4 : Int32) (x5 : Int32)  (o : (Int32 × Int32) ⊕ (Int32)) (h : bl_X10_ranked_74 M x2 x3 x4 x5 = some o) (kh : ∀ s : Int32 × Int32, o = .inl s → J x M 74 [(0, .ref (x_ad x 0)), (2, .int x2), (3, .int x3), (4, .int s.1), (5, .int s.2)] []) (ke_0 : ∀ v : Int32, o = .inr v → J x M 111 [(0, .ref (x_ad x 0)), (2, .int x2), (3, .int x3), (4, .int v)] []) : J x M 74 [(0, .ref (x_ad x 0)), (2, .int x2), (3, .int x3), (4, .int x4), (5, .int x5)] [] := by
  unfold bl_X10_ranked_74 at h
  refine r_iload C.1 4 dX10_ranked_74 rfl ?_
  refine r_aload_n C.1 0 dX10_ranked_76 rfl rfl ?_
  refine gf_X10_26 C dX10_ranked_77 ?_
  refine gf_X10_104_17 C dX10_ranked_80 ?_
  refine r_icmp_ge C.1 111 dX10_ranked_83 (by decide) (fun c_1 => ?_) (fun c_1 => ?_)
  · replace h := ite_T c_1 h
    exact r_sub [0, 1, 2, 3] rfl (ke_0 _ (Option.some.inj h).symm)
  · replace h := ite_F c_1 h
    refine r_iload C.1 4 dX10_ranked_86 rfl ?_
    refine r_iload_n C.1 2 dX10_ranked_88 rfl rfl ?_
    refine r_icmp_eq C.1 105 dX10_ranked_89 (by decide) (fun c_2 => ?_) (fun c_2 => ?_)
    · replace h := ite_T c_2 h
      exact r_sub [0, 1, 2, 3, 4] rfl (w_X10_ranked_105 C M x2 x3 x4 x5 _ h kh ke_0)
    · replace h := ite_F c_2 h
      refine r_aload_n C.1 0 dX10_ranked_92 rfl rfl ?_
      refine r_iload C.1 4 dX10_ranked_93 rfl ?_
      refine r_iload_n C.1 2 dX10_ranked_95 rfl rfl ?_
      obtain ⟨r_3, hc_4, h⟩ := bd_E h
      refine cl_X10_348 C ⟨Nat.le_of_ble_eq_true rfl, Nat.le_of_ble_eq_true rfl⟩ (m_X10_ranksAhead _ _ _ M x5 x3 hc_4) (Nat.le_of_ble_eq_true rfl) dX10_ranked_96 ?_
      refine r_if_eq C.1 105 dX10_ranked_99 (by decide) (fun c_5 => ?_) (fun c_5 => ?_)
      · replace h := ite_T c_5 h
        exact r_sub [0, 1, 2, 3, 4] rfl (w_X10_ranked_105 C M x2 x3 x4 x5 _ h kh ke_0)
      · replace h := ite_F c_5 h
        obtain ⟨y_6, ey_6, h⟩ := lt_E h
        refine r_iinc C.1 3 [(4, .int y_6), (0, .ref (x_ad x 0)), (2, .int x2), (3, .int x3), (5, .int x5)] dX10_ranked_102 rfl ey_6 (by decide) rfl ?_
        exact r_sub [1, 2, 3, 0, 4] rfl (w_X10_ranked_105 C M x2 x3 y_6 x5 _ h kh ke_0)

def b_X10_ranked_74 (M : xM) (x2 : Int32) (x3 : Int32) (x4 : Int32) (x5 : Int32) : Option ((Int32) ⊕ ((Int32) ⊕ (Unit))) :=
  bd (loopN (fun s : Int32 × Int32 => bl_X10_ranked_74 M x2 x3 s.1 s.2) BG (x4, x5)) (fun v => if v = x2 then some (.inr (.inl x3)) else lt (x3 + (1 : Int32)) (fun y_2 => some (.inl y_2)))
set_option maxRecDepth 20000 in
set_option maxHeartbeats 2000000 in
theorem w_X10_ranked_74 {x : xC} (C : CtC x RX10 cX10_ranked 6 ({ frames := 5, cells := 0, slots := 0, locals := 120 } : Room)) (M : xM) (x2 : Int32) (x3 : Int32) (x4 : Int32) (x5 : Int32)  (o : (Int32) ⊕ ((Int32) ⊕ (Unit))) (h : b_X10_ranked_74 M x2 x3 x4 x5 = some o) (kh : ∀ s : Int32, o = .inl s → J x M 57 [(0, .ref (x_ad x 0)), (2, .int x2), (3, .int s)] []) (ke_0 : ∀ v : Int32, o = .inr (.inl v) → J x M 117 [(3, .int v)] []) (ke_1 : ∀ v : Unit, o = .inr (.inr v) → J x M 125 [] []) : J x M 74 [(0, .ref (x_ad x 0)), (2, .int x2), (3, .int x3), (4, .int x4), (5, .int x5)] [] := by
  unfold b_X10_ranked_74 at h
  obtain ⟨r_0, hr_0, h⟩ := bd_E h
  refine loopN_ind (JJ := fun s => J x M 74 [(0, .ref (x_ad x 0)), (2, .int x2), (3, .int x3), (4, .int s.1), (5, .int s.2)] []) (KX := fun q => q = r_0) ?_ BG (x4, x5) r_0 hr_0 rfl
  intro s o1 hb kk1 kk2
  refine wl_X10_ranked_74 C M x2 x3 s.1 s.2 _ hb kk1 ?_
  · intro v e0
    have e1 := kk2 _ e0
    subst e1
    refine r_iload C.1 3 dX10_ranked_111 rfl ?_
    refine r_iload_n C.1 1 dX10_ranked_113 rfl rfl ?_
    refine r_icmp_ne C.1 119 dX10_ranked_114 (by decide) (fun c_1 => ?_) (fun c_1 => ?_)
    · replace h := ite_F c_1 h
      obtain ⟨y_2, ey_2, h⟩ := lt_E h
      refine r_iinc C.1 2 [(3, .int y_2), (0, .ref (x_ad x 0)), (2, .int x2), (4, .int v)] dX10_ranked_119 rfl ey_2 (by decide) rfl ?_
      refine r_goto C.1 57 dX10_ranked_122 (by decide) ?_
      exact r_sub [1, 2, 0] rfl (kh _ (Option.some.inj h).symm)
    · replace h := ite_T c_1 h
      exact r_sub [2] rfl (ke_0 _ (Option.some.inj h).symm)

def bl_X10_ranked_57 (M : xM) (x2 : Int32) (x3 : Int32) : Option ((Int32) ⊕ ((Int32) ⊕ (Unit))) :=
  if (M 17 1) ≤ x3 then some (.inr (.inr ())) else b_X10_ranked_74 M x2 x3 (0 : Int32) (0 : Int32)
set_option maxRecDepth 20000 in
set_option maxHeartbeats 2000000 in
theorem wl_X10_ranked_57 {x : xC} (C : CtC x RX10 cX10_ranked 6 ({ frames := 5, cells := 0, slots := 0, locals := 120 } : Room)) (M : xM) (x2 : Int32) (x3 : Int32)  (o : (Int32) ⊕ ((Int32) ⊕ (Unit))) (h : bl_X10_ranked_57 M x2 x3 = some o) (kh : ∀ s : Int32, o = .inl s → J x M 57 [(0, .ref (x_ad x 0)), (2, .int x2), (3, .int s)] []) (ke_0 : ∀ v : Int32, o = .inr (.inl v) → J x M 117 [(3, .int v)] []) (ke_1 : ∀ v : Unit, o = .inr (.inr v) → J x M 125 [] []) : J x M 57 [(0, .ref (x_ad x 0)), (2, .int x2), (3, .int x3)] [] := by
  unfold bl_X10_ranked_57 at h
  refine r_iload_n C.1 2 dX10_ranked_57 rfl rfl ?_
  refine r_aload_n C.1 0 dX10_ranked_58 rfl rfl ?_
  refine gf_X10_26 C dX10_ranked_59 ?_
  refine gf_X10_104_17 C dX10_ranked_62 ?_
  refine r_icmp_ge C.1 125 dX10_ranked_65 (by decide) (fun c_1 => ?_) (fun c_1 => ?_)
  · replace h := ite_T c_1 h
    exact r_sub [] rfl (ke_1 _ (Option.some.inj h).symm)
  · replace h := ite_F c_1 h
    refine r_iconst (v := 0) C.1 dX10_ranked_68 rfl ?_
    refine r_istore C.1 [(4, .int (0 : Int32)), (0, .ref (x_ad x 0)), (2, .int x2), (3, .int x3)] dX10_ranked_69 (by decide) rfl rfl ?_
    refine r_iconst (v := 0) C.1 dX10_ranked_71 rfl ?_
    refine r_istore C.1 [(5, .int (0 : Int32)), (4, .int (0 : Int32)), (0, .ref (x_ad x 0)), (2, .int x2), (3, .int x3)] dX10_ranked_72 (by decide) rfl rfl ?_
    exact r_sub [2, 3, 4, 1, 0] rfl (w_X10_ranked_74 C M x2 x3 (0 : Int32) (0 : Int32) _ h kh ke_0 ke_1)

def b_X10_ranked_57 (M : xM) (x2 : Int32) (x3 : Int32) : Option (Int32 × xM) :=
  bd (loopN (fun s : Int32 => bl_X10_ranked_57 M x2 s) BG x3) (fun r => sm r (fun v => some (v, M)) (fun v => some ((-1 : Int32), M)))
set_option maxRecDepth 20000 in
set_option maxHeartbeats 2000000 in
theorem w_X10_ranked_57 {x : xC} (C : CtC x RX10 cX10_ranked 6 ({ frames := 5, cells := 0, slots := 0, locals := 120 } : Room)) (M : xM) (x2 : Int32) (x3 : Int32)  (o : Int32 × xM) (h : b_X10_ranked_57 M x2 x3 = some o) (hr : (x_me x).sig.returnType = some .int) (ev : x_rv x = some (.int o.1)) (eM : x_M x = o.2) : J x M 57 [(0, .ref (x_ad x 0)), (2, .int x2), (3, .int x3)] [] := by
  unfold b_X10_ranked_57 at h
  obtain ⟨r_0, hr_0, h⟩ := bd_E h
  refine loopN_ind (JJ := fun s => J x M 57 [(0, .ref (x_ad x 0)), (2, .int x2), (3, .int s)] []) (KX := fun q => q = r_0) ?_ BG x3 r_0 hr_0 rfl
  intro s o1 hb kk1 kk2
  refine wl_X10_ranked_57 C M x2 s _ hb kk1 ?_ ?_
  · intro v e0
    have e1 := kk2 _ e0
    subst e1
    replace h := sm_l h
    refine r_iload_n C.1 0 dX10_ranked_117 rfl rfl ?_
    obtain rfl := Option.some.inj h
    exact r_iret C.1 hr ev eM dX10_ranked_118
  · intro v e0
    have e1 := kk2 _ e0
    subst e1
    replace h := sm_r h
    refine r_iconst (v := -1) C.1 dX10_ranked_125 rfl ?_
    obtain rfl := Option.some.inj h
    exact r_iret C.1 hr ev eM dX10_ranked_126

def bl_X10_ranked_26 (M : xM) (x1 : Int32) (x2 : Int32) (x3 : Int32) : Option ((xM × Int32) ⊕ (xM)) :=
  if (M 17 1) ≤ x3 then some (.inr M) else bd2 (f_X10_shortOf M x3 x1) (fun r_2 M_4 => gd x3 40 (lt (uM M_4 16 x3.toNatClampNeg r_2) (fun M_6 => lt (x3 + (1 : Int32)) (fun y_7 => some (.inl (M_6, y_7))))))
set_option maxRecDepth 20000 in
set_option maxHeartbeats 2000000 in
theorem wl_X10_ranked_26 {x : xC} (C : CtC x RX10 cX10_ranked 6 ({ frames := 5, cells := 0, slots := 0, locals := 120 } : Room)) (M : xM) (x1 : Int32) (x2 : Int32) (x3 : Int32)  (o : (xM × Int32) ⊕ (xM)) (h : bl_X10_ranked_26 M x1 x2 x3 = some o) (kh : ∀ s : xM × Int32, o = .inl s → J x s.1 26 [(0, .ref (x_ad x 0)), (1, .int x1), (2, .int x2), (3, .int s.2)] []) (ke_0 : ∀ v : xM, o = .inr v → J x v 55 [(0, .ref (x_ad x 0)), (2, .int x2)] []) : J x M 26 [(0, .ref (x_ad x 0)), (1, .int x1), (2, .int x2), (3, .int x3)] [] := by
  unfold bl_X10_ranked_26 at h
  refine r_iload_n C.1 3 dX10_ranked_26 rfl rfl ?_
  refine r_aload_n C.1 0 dX10_ranked_27 rfl rfl ?_
  refine gf_X10_26 C dX10_ranked_28 ?_
  refine gf_X10_104_17 C dX10_ranked_31 ?_
  refine r_icmp_ge C.1 55 dX10_ranked_34 (by decide) (fun c_1 => ?_) (fun c_1 => ?_)
  · replace h := ite_T c_1 h
    exact r_sub [0, 2] rfl (ke_0 _ (Option.some.inj h).symm)
  · replace h := ite_F c_1 h
    refine r_aload_n C.1 0 dX10_ranked_37 rfl rfl ?_
    refine gf_X10_62 C dX10_ranked_38 ?_
    refine r_iload_n C.1 3 dX10_ranked_41 rfl rfl ?_
    refine r_aload_n C.1 0 dX10_ranked_42 rfl rfl ?_
    refine r_iload_n C.1 3 dX10_ranked_43 rfl rfl ?_
    refine r_iload_n C.1 1 dX10_ranked_44 rfl rfl ?_
    obtain ⟨r_2, M_4, hc_3, h⟩ := bd2_E h
    refine cl_X10_320 C ⟨Nat.le_of_ble_eq_true rfl, Nat.le_of_ble_eq_true rfl⟩ (m_X10_shortOf _ _ _ M x3 x1 hc_3) (Nat.le_of_ble_eq_true rfl) dX10_ranked_45 ?_
    obtain ⟨q_5, h⟩ := gd_E h
    obtain ⟨M_6, eM_6, h⟩ := lt_E h
    refine r_iast C.1 (cK C (by decide)) (cS C (sh_16)) 0 (cT0 C) q_5 eM_6 dX10_ranked_48 ?_
    obtain ⟨y_7, ey_7, h⟩ := lt_E h
    refine r_iinc C.1 3 [(3, .int y_7), (0, .ref (x_ad x 0)), (1, .int x1), (2, .int x2)] dX10_ranked_49 rfl ey_7 (by decide) rfl ?_
    refine r_goto C.1 26 dX10_ranked_52 (by decide) ?_
    exact r_sub [1, 2, 3, 0] rfl (kh _ (Option.some.inj h).symm)

def b_X10_ranked_26 (M : xM) (x1 : Int32) (x2 : Int32) (x3 : Int32) : Option (Int32 × xM) :=
  bd (loopN (fun s : xM × Int32 => bl_X10_ranked_26 s.1 x1 x2 s.2) BG (M, x3)) (fun v => b_X10_ranked_57 v x2 (0 : Int32))
set_option maxRecDepth 20000 in
set_option maxHeartbeats 2000000 in
theorem w_X10_ranked_26 {x : xC} (C : CtC x RX10 cX10_ranked 6 ({ frames := 5, cells := 0, slots := 0, locals := 120 } : Room)) (M : xM) (x1 : Int32) (x2 : Int32) (x3 : Int32)  (o : Int32 × xM) (h : b_X10_ranked_26 M x1 x2 x3 = some o) (hr : (x_me x).sig.returnType = some .int) (ev : x_rv x = some (.int o.1)) (eM : x_M x = o.2) : J x M 26 [(0, .ref (x_ad x 0)), (1, .int x1), (2, .int x2), (3, .int x3)] [] := by
  unfold b_X10_ranked_26 at h
  obtain ⟨r_0, hr_0, h⟩ := bd_E h
  refine loopN_ind (JJ := fun s => J x s.1 26 [(0, .ref (x_ad x 0)), (1, .int x1), (2, .int x2), (3, .int s.2)] []) (KX := fun q => q = r_0) ?_ BG (M, x3) r_0 hr_0 rfl
  intro s o1 hb kk1 kk2
  refine wl_X10_ranked_26 C s.1 x1 x2 s.2 _ hb kk1 ?_
  · intro v e0
    have e1 := kk2 _ e0
    subst e1
    refine r_iconst (v := 0) C.1 dX10_ranked_55 rfl ?_
    refine r_istore_n C.1 [(3, .int (0 : Int32)), (0, .ref (x_ad x 0)), (2, .int x2)] dX10_ranked_56 rfl (by decide) rfl rfl ?_
    exact r_sub [1, 2, 0] rfl (w_X10_ranked_57 C v x2 (0 : Int32) _ h hr ev eM)

def b_X10_ranked_0 (M : xM) (x1 : Int32) (x2 : Int32) : Option (Int32 × xM) :=
  bd (f_X10_isDay M x1) (fun r_1 => if r_1 = 0 then b_X10_ranked_22 M else if x2 < 0 then b_X10_ranked_22 M else if x2 < (M 17 1) then b_X10_ranked_26 M x1 x2 (0 : Int32) else b_X10_ranked_22 M)
set_option maxRecDepth 20000 in
set_option maxHeartbeats 2000000 in
theorem w_X10_ranked_0 {x : xC} (C : CtC x RX10 cX10_ranked 6 ({ frames := 5, cells := 0, slots := 0, locals := 120 } : Room)) (M : xM) (x1 : Int32) (x2 : Int32)  (o : Int32 × xM) (h : b_X10_ranked_0 M x1 x2 = some o) (hr : (x_me x).sig.returnType = some .int) (ev : x_rv x = some (.int o.1)) (eM : x_M x = o.2) : J x M 0 [(0, .ref (x_ad x 0)), (1, .int x1), (2, .int x2)] [] := by
  unfold b_X10_ranked_0 at h
  refine r_iload_n C.1 1 dX10_ranked_0 rfl rfl ?_
  obtain ⟨r_1, hc_2, h⟩ := bd_E h
  refine cl_X10_133 C ⟨Nat.le_of_ble_eq_true rfl, Nat.le_of_ble_eq_true rfl⟩ (m_X10_isDay _ _ _ M x1 hc_2) (Nat.le_of_ble_eq_true rfl) dX10_ranked_1 ?_
  refine r_if_eq C.1 22 dX10_ranked_4 (by decide) (fun c_3 => ?_) (fun c_3 => ?_)
  · replace h := ite_T c_3 h
    exact r_sub [] rfl (w_X10_ranked_22 C M _ h hr ev eM)
  · replace h := ite_F c_3 h
    refine r_iload_n C.1 2 dX10_ranked_7 rfl rfl ?_
    refine r_if_lt C.1 22 dX10_ranked_8 (by decide) (fun c_4 => ?_) (fun c_4 => ?_)
    · replace h := ite_T c_4 h
      exact r_sub [] rfl (w_X10_ranked_22 C M _ h hr ev eM)
    · replace h := ite_F c_4 h
      refine r_iload_n C.1 2 dX10_ranked_11 rfl rfl ?_
      refine r_aload_n C.1 0 dX10_ranked_12 rfl rfl ?_
      refine gf_X10_26 C dX10_ranked_13 ?_
      refine gf_X10_104_17 C dX10_ranked_16 ?_
      refine r_icmp_lt C.1 24 dX10_ranked_19 (by decide) (fun c_5 => ?_) (fun c_5 => ?_)
      · replace h := ite_T c_5 h
        refine r_iconst (v := 0) C.1 dX10_ranked_24 rfl ?_
        refine r_istore_n C.1 [(3, .int (0 : Int32)), (0, .ref (x_ad x 0)), (1, .int x1), (2, .int x2)] dX10_ranked_25 rfl (by decide) rfl rfl ?_
        exact r_sub [1, 2, 3, 0] rfl (w_X10_ranked_26 C M x1 x2 (0 : Int32) _ h hr ev eM)
      · replace h := ite_F c_5 h
        exact r_sub [] rfl (w_X10_ranked_22 C M _ h hr ev eM)
def f_X10_ranked (M : xM) (x1 : Int32) (x2 : Int32) : Option (Int32 × xM) := b_X10_ranked_0 M x1 x2
set_option maxRecDepth 20000 in
theorem m_X10_ranked (l : Launch) (D : va_G) (ad : Nat → Nat) (M : xM) (x1 : Int32) (x2 : Int32)  {r : Int32} {M1 : xM} (h : f_X10_ranked M x1 x2 = some (r, M1)) : xMetC l yX10_ranked cX10_ranked 6 (some .int) ({ frames := 5, cells := 0, slots := 0, locals := 120 } : Room) [.ref (ad 0), .int x1, .int x2] D ad M (some (.int r)) M1 := by
  refine xMetC_of (own := RX10) (by decide) rfl (Nat.le_of_ble_eq_true rfl) ?_
  intro x C e1 e2 e3 ev eM hr
  subst e1; subst e2; subst e3
  refine r_sub (L := [(0, .ref (x_ad x 0)), (1, .int x1), (2, .int x2)]) (L' := [(0, .ref (x_ad x 0)), (1, .int x1), (2, .int x2)]) [0, 1, 2] rfl ?_
  exact w_X10_ranked_0 C M x1 x2 _ h hr ev eM

def b_X10_missing_47 (M : xM)  : Option (Int32 × xM) :=
  some ((-1 : Int32), M)
set_option maxRecDepth 20000 in
set_option maxHeartbeats 2000000 in
theorem w_X10_missing_47 {x : xC} (C : CtC x RX10 cX10_missing 6 ({ frames := 1, cells := 0, slots := 0, locals := 24 } : Room)) (M : xM)   (o : Int32 × xM) (h : b_X10_missing_47 M = some o) (hr : (x_me x).sig.returnType = some .int) (ev : x_rv x = some (.int o.1)) (eM : x_M x = o.2) : J x M 47 [] [] := by
  unfold b_X10_missing_47 at h
  refine r_iconst (v := -1) C.1 dX10_missing_47 rfl ?_
  obtain rfl := Option.some.inj h
  exact r_iret C.1 hr ev eM dX10_missing_48

def b_X10_missing_84 (M : xM) (x4 : Int32) : Option (Int32 × xM) :=
  some (x4, M)
set_option maxRecDepth 20000 in
set_option maxHeartbeats 2000000 in
theorem w_X10_missing_84 {x : xC} (C : CtC x RX10 cX10_missing 6 ({ frames := 1, cells := 0, slots := 0, locals := 24 } : Room)) (M : xM) (x4 : Int32)  (o : Int32 × xM) (h : b_X10_missing_84 M x4 = some o) (hr : (x_me x).sig.returnType = some .int) (ev : x_rv x = some (.int o.1)) (eM : x_M x = o.2) : J x M 84 [(4, .int x4)] [] := by
  unfold b_X10_missing_84 at h
  refine r_iload C.1 0 dX10_missing_84 rfl ?_
  obtain rfl := Option.some.inj h
  exact r_iret C.1 hr ev eM dX10_missing_86

def bl_X10_missing_57 (M : xM) (x2 : Int32) (x4 : Int32) (x5 : Int32) : Option ((Int32 × Int32) ⊕ (Int32)) :=
  if x2 ≤ x5 then some (.inr x4) else gd x5 40 (if x4 < (M 16 x5.toNatClampNeg) then some (.inr x4) else lt (x4 + (1 : Int32)) (fun y_4 => lt (x5 + (1 : Int32)) (fun y_5 => some (.inl (y_4, y_5)))))
set_option maxRecDepth 20000 in
set_option maxHeartbeats 2000000 in
theorem wl_X10_missing_57 {x : xC} (C : CtC x RX10 cX10_missing 6 ({ frames := 1, cells := 0, slots := 0, locals := 24 } : Room)) (M : xM) (x2 : Int32) (x4 : Int32) (x5 : Int32)  (o : (Int32 × Int32) ⊕ (Int32)) (h : bl_X10_missing_57 M x2 x4 x5 = some o) (kh : ∀ s : Int32 × Int32, o = .inl s → J x M 57 [(0, .ref (x_ad x 0)), (2, .int x2), (4, .int s.1), (5, .int s.2)] []) (ke_0 : ∀ v : Int32, o = .inr v → J x M 84 [(4, .int v)] []) : J x M 57 [(0, .ref (x_ad x 0)), (2, .int x2), (4, .int x4), (5, .int x5)] [] := by
  unfold bl_X10_missing_57 at h
  refine r_iload C.1 3 dX10_missing_57 rfl ?_
  refine r_iload_n C.1 1 dX10_missing_59 rfl rfl ?_
  refine r_icmp_ge C.1 84 dX10_missing_60 (by decide) (fun c_1 => ?_) (fun c_1 => ?_)
  · replace h := ite_T c_1 h
    exact r_sub [2] rfl (ke_0 _ (Option.some.inj h).symm)
  · replace h := ite_F c_1 h
    refine r_aload_n C.1 0 dX10_missing_63 rfl rfl ?_
    refine gf_X10_62 C dX10_missing_64 ?_
    refine r_iload C.1 3 dX10_missing_67 rfl ?_
    obtain ⟨q_2, h⟩ := gd_E h
    refine r_iald C.1 (cK C (by decide)) (cS C (sh_16)) 0 (cT0 C) q_2 dX10_missing_69 ?_
    refine r_iload C.1 2 dX10_missing_70 rfl ?_
    refine r_icmp_gt C.1 84 dX10_missing_72 (by decide) (fun c_3 => ?_) (fun c_3 => ?_)
    · replace h := ite_T c_3 h
      exact r_sub [2] rfl (ke_0 _ (Option.some.inj h).symm)
    · replace h := ite_F c_3 h
      obtain ⟨y_4, ey_4, h⟩ := lt_E h
      refine r_iinc C.1 2 [(4, .int y_4), (0, .ref (x_ad x 0)), (2, .int x2), (5, .int x5)] dX10_missing_75 rfl ey_4 (by decide) rfl ?_
      obtain ⟨y_5, ey_5, h⟩ := lt_E h
      refine r_iinc C.1 3 [(5, .int y_5), (4, .int y_4), (0, .ref (x_ad x 0)), (2, .int x2)] dX10_missing_78 rfl ey_5 (by decide) rfl ?_
      refine r_goto C.1 57 dX10_missing_81 (by decide) ?_
      exact r_sub [2, 3, 1, 0] rfl (kh _ (Option.some.inj h).symm)

def b_X10_missing_57 (M : xM) (x2 : Int32) (x4 : Int32) (x5 : Int32) : Option (Int32 × xM) :=
  bd (loopN (fun s : Int32 × Int32 => bl_X10_missing_57 M x2 s.1 s.2) BG (x4, x5)) (fun v => b_X10_missing_84 M v)
set_option maxRecDepth 20000 in
set_option maxHeartbeats 2000000 in
theorem w_X10_missing_57 {x : xC} (C : CtC x RX10 cX10_missing 6 ({ frames := 1, cells := 0, slots := 0, locals := 24 } : Room)) (M : xM) (x2 : Int32) (x4 : Int32) (x5 : Int32)  (o : Int32 × xM) (h : b_X10_missing_57 M x2 x4 x5 = some o) (hr : (x_me x).sig.returnType = some .int) (ev : x_rv x = some (.int o.1)) (eM : x_M x = o.2) : J x M 57 [(0, .ref (x_ad x 0)), (2, .int x2), (4, .int x4), (5, .int x5)] [] := by
  unfold b_X10_missing_57 at h
  obtain ⟨r_0, hr_0, h⟩ := bd_E h
  refine loopN_ind (JJ := fun s => J x M 57 [(0, .ref (x_ad x 0)), (2, .int x2), (4, .int s.1), (5, .int s.2)] []) (KX := fun q => q = r_0) ?_ BG (x4, x5) r_0 hr_0 rfl
  intro s o1 hb kk1 kk2
  refine wl_X10_missing_57 C M x2 s.1 s.2 _ hb kk1 ?_
  · intro v e0
    have e1 := kk2 _ e0
    subst e1
    exact r_sub [0] rfl (w_X10_missing_84 C M v _ h hr ev eM)

def b_X10_missing_30 (M : xM) (x1 : Int32) (x2 : Int32) (s0 : Int32) : Option (Int32 × xM) :=
  if x1 = (-1 : Int32) then some (s0, M) else if x1 < 0 then b_X10_missing_47 M else if x1 < s0 then lt (x1 + (1 : Int32)) (fun y_4 => b_X10_missing_57 M x2 y_4 (0 : Int32)) else b_X10_missing_47 M
set_option maxRecDepth 20000 in
set_option maxHeartbeats 2000000 in
theorem w_X10_missing_30 {x : xC} (C : CtC x RX10 cX10_missing 6 ({ frames := 1, cells := 0, slots := 0, locals := 24 } : Room)) (M : xM) (x1 : Int32) (x2 : Int32) (s0 : Int32)  (o : Int32 × xM) (h : b_X10_missing_30 M x1 x2 s0 = some o) (hr : (x_me x).sig.returnType = some .int) (ev : x_rv x = some (.int o.1)) (eM : x_M x = o.2) : J x M 30 [(0, .ref (x_ad x 0)), (1, .int x1), (2, .int x2)] [.int s0] := by
  unfold b_X10_missing_30 at h
  refine r_istore_n C.1 [(3, .int s0), (0, .ref (x_ad x 0)), (1, .int x1), (2, .int x2)] dX10_missing_30 rfl (by decide) rfl rfl ?_
  refine r_iload_n C.1 2 dX10_missing_31 rfl rfl ?_
  refine r_iconst (v := -1) C.1 dX10_missing_32 rfl ?_
  refine r_icmp_ne C.1 38 dX10_missing_33 (by decide) (fun c_1 => ?_) (fun c_1 => ?_)
  · replace h := ite_F c_1 h
    refine r_iload_n C.1 2 dX10_missing_38 rfl rfl ?_
    refine r_if_lt C.1 47 dX10_missing_39 (by decide) (fun c_2 => ?_) (fun c_2 => ?_)
    · replace h := ite_T c_2 h
      exact r_sub [] rfl (w_X10_missing_47 C M _ h hr ev eM)
    · replace h := ite_F c_2 h
      refine r_iload_n C.1 2 dX10_missing_42 rfl rfl ?_
      refine r_iload_n C.1 0 dX10_missing_43 rfl rfl ?_
      refine r_icmp_lt C.1 49 dX10_missing_44 (by decide) (fun c_3 => ?_) (fun c_3 => ?_)
      · replace h := ite_T c_3 h
        refine r_iload_n C.1 2 dX10_missing_49 rfl rfl ?_
        refine r_iconst (v := 1) C.1 dX10_missing_50 rfl ?_
        refine r_iadd C.1 dX10_missing_51 ?_
        obtain ⟨y_4, ey_4, h⟩ := lt_E h
        refine r_istore C.1 [(4, .int y_4), (3, .int s0), (0, .ref (x_ad x 0)), (1, .int x1), (2, .int x2)] dX10_missing_52 (by decide) ey_4 rfl ?_
        refine r_iconst (v := 0) C.1 dX10_missing_54 rfl ?_
        refine r_istore C.1 [(5, .int (0 : Int32)), (4, .int y_4), (3, .int s0), (0, .ref (x_ad x 0)), (1, .int x1), (2, .int x2)] dX10_missing_55 (by decide) rfl rfl ?_
        exact r_sub [3, 5, 1, 0] rfl (w_X10_missing_57 C M x2 y_4 (0 : Int32) _ h hr ev eM)
      · replace h := ite_F c_3 h
        exact r_sub [] rfl (w_X10_missing_47 C M _ h hr ev eM)
  · replace h := ite_T c_1 h
    refine r_iload_n C.1 0 dX10_missing_36 rfl rfl ?_
    obtain rfl := Option.some.inj h
    exact r_iret C.1 hr ev eM dX10_missing_37

def b_X10_missing_0 (M : xM) (x1 : Int32) : Option (Int32 × xM) :=
  bd2 (f_X1_fillVouchers M) (fun r_1 M_3 => if r_1 = 0 then b_X10_missing_30 M_3 x1 r_1 (0 : Int32) else gd (r_1 - (1 : Int32)) 40 (b_X10_missing_30 M_3 x1 r_1 ((M_3 16 (r_1 - (1 : Int32)).toNatClampNeg) - r_1)))
set_option maxRecDepth 20000 in
set_option maxHeartbeats 2000000 in
theorem w_X10_missing_0 {x : xC} (C : CtC x RX10 cX10_missing 6 ({ frames := 1, cells := 0, slots := 0, locals := 24 } : Room)) (M : xM) (x1 : Int32)  (o : Int32 × xM) (h : b_X10_missing_0 M x1 = some o) (hr : (x_me x).sig.returnType = some .int) (ev : x_rv x = some (.int o.1)) (eM : x_M x = o.2) : J x M 0 [(0, .ref (x_ad x 0)), (1, .int x1)] [] := by
  unfold b_X10_missing_0 at h
  refine r_aload_n C.1 0 dX10_missing_0 rfl rfl ?_
  refine gf_X10_26 C dX10_missing_1 ?_
  refine r_aload_n C.1 0 dX10_missing_4 rfl rfl ?_
  refine gf_X10_62 C dX10_missing_5 ?_
  obtain ⟨r_1, M_3, hc_2, h⟩ := bd2_E h
  refine cl_X10_352 C ⟨Nat.le_of_ble_eq_true rfl, Nat.le_of_ble_eq_true rfl⟩ (m_X1_fillVouchers _ _ _ M hc_2) (Nat.le_of_ble_eq_true rfl) dX10_missing_8 ?_
  refine r_istore_n C.1 [(2, .int r_1), (0, .ref (x_ad x 0)), (1, .int x1)] dX10_missing_11 rfl (by decide) rfl rfl ?_
  refine r_iload_n C.1 0 dX10_missing_12 rfl rfl ?_
  refine r_if_ne C.1 20 dX10_missing_13 (by decide) (fun c_4 => ?_) (fun c_4 => ?_)
  · replace h := ite_F c_4 h
    refine r_aload_n C.1 1 dX10_missing_20 rfl rfl ?_
    refine gf_X10_62 C dX10_missing_21 ?_
    refine r_iload_n C.1 0 dX10_missing_24 rfl rfl ?_
    refine r_iconst (v := 1) C.1 dX10_missing_25 rfl ?_
    refine r_isub C.1 dX10_missing_26 ?_
    obtain ⟨q_5, h⟩ := gd_E h
    refine r_iald C.1 (cK C (by decide)) (cS C (sh_16)) 0 (cT0 C) q_5 dX10_missing_27 ?_
    refine r_iload_n C.1 0 dX10_missing_28 rfl rfl ?_
    refine r_isub C.1 dX10_missing_29 ?_
    exact r_sub [1, 2, 0] rfl (w_X10_missing_30 C M_3 x1 r_1 ((M_3 16 (r_1 - (1 : Int32)).toNatClampNeg) - r_1) _ h hr ev eM)
  · replace h := ite_T c_4 h
    refine r_iconst (v := 0) C.1 dX10_missing_16 rfl ?_
    refine r_goto C.1 30 dX10_missing_17 (by decide) ?_
    exact r_sub [1, 2, 0] rfl (w_X10_missing_30 C M_3 x1 r_1 (0 : Int32) _ h hr ev eM)
def f_X10_missing (M : xM) (x1 : Int32) : Option (Int32 × xM) := b_X10_missing_0 M x1
set_option maxRecDepth 20000 in
theorem m_X10_missing (l : Launch) (D : va_G) (ad : Nat → Nat) (M : xM) (x1 : Int32)  {r : Int32} {M1 : xM} (h : f_X10_missing M x1 = some (r, M1)) : xMetC l yX10_missing cX10_missing 6 (some .int) ({ frames := 1, cells := 0, slots := 0, locals := 24 } : Room) [.ref (ad 0), .int x1] D ad M (some (.int r)) M1 := by
  refine xMetC_of (own := RX10) (by decide) rfl (Nat.le_of_ble_eq_true rfl) ?_
  intro x C e1 e2 e3 ev eM hr
  subst e1; subst e2; subst e3
  refine r_sub (L := [(0, .ref (x_ad x 0)), (1, .int x1)]) (L' := [(0, .ref (x_ad x 0)), (1, .int x1)]) [0, 1] rfl ?_
  exact w_X10_missing_0 C M x1 _ h hr ev eM

def b_X10_savedBy_0 (M : xM) (x1 : Int32) (x2 : Int32) (x3 : Int32) : Option (Int32 × xM) :=
  gd (4 : Int32) 7 (lt (M 18 (4 : Int32).toNatClampNeg) (fun y_2 => lt (x2 / (360 : Int32)) (fun y_3 => bd (f_X9_look M x1 y_3) (fun M_6 => bd (f_X9_chargeAt M_6 y_2) (fun r_7 => bd (f_X9_lookWithMoreOut M_6 x1 y_3 x2 x3) (fun M_11 => bd (f_X9_chargeAt M_11 y_2) (fun r_12 => some (r_7 - r_12, M_11))))))))
set_option maxRecDepth 20000 in
set_option maxHeartbeats 2000000 in
theorem w_X10_savedBy_0 {x : xC} (C : CtC x RX10 cX10_savedBy 7 ({ frames := 4, cells := 0, slots := 0, locals := 100 } : Room)) (M : xM) (x1 : Int32) (x2 : Int32) (x3 : Int32)  (o : Int32 × xM) (h : b_X10_savedBy_0 M x1 x2 x3 = some o) (hr : (x_me x).sig.returnType = some .int) (ev : x_rv x = some (.int o.1)) (eM : x_M x = o.2) : J x M 0 [(0, .ref (x_ad x 0)), (1, .int x1), (2, .int x2), (3, .int x3)] [] := by
  unfold b_X10_savedBy_0 at h
  refine r_aload_n C.1 0 dX10_savedBy_0 rfl rfl ?_
  refine gf_X10_26 C dX10_savedBy_1 ?_
  refine gf_X10_94_17 C dX10_savedBy_4 ?_
  refine r_iconst (v := 4) C.1 dX10_savedBy_7 rfl ?_
  obtain ⟨q_1, h⟩ := gd_E h
  refine r_iald C.1 (cK C (by decide)) (cS C (sh_18)) 0 (cT0 C) q_1 dX10_savedBy_8 ?_
  obtain ⟨y_2, ey_2, h⟩ := lt_E h
  refine r_istore C.1 [(4, .int y_2), (0, .ref (x_ad x 0)), (1, .int x1), (2, .int x2), (3, .int x3)] dX10_savedBy_9 (by decide) ey_2 rfl ?_
  refine r_iload_n C.1 3 dX10_savedBy_11 rfl rfl ?_
  refine r_sipush (v := 360) C.1 dX10_savedBy_12 (by decide) ?_
  refine r_idiv C.1 (by decide) dX10_savedBy_15 ?_
  obtain ⟨y_3, ey_3, h⟩ := lt_E h
  refine r_istore C.1 [(5, .int y_3), (4, .int y_2), (0, .ref (x_ad x 0)), (1, .int x1), (2, .int x2), (3, .int x3)] dX10_savedBy_16 (by decide) ey_3 rfl ?_
  refine r_aload_n C.1 2 dX10_savedBy_18 rfl rfl ?_
  refine gf_X10_51 C dX10_savedBy_19 ?_
  refine r_aload_n C.1 2 dX10_savedBy_22 rfl rfl ?_
  refine gf_X10_26 C dX10_savedBy_23 ?_
  refine r_iload_n C.1 3 dX10_savedBy_26 rfl rfl ?_
  refine r_iload C.1 0 dX10_savedBy_27 rfl ?_
  obtain ⟨M_6, hc_5, h⟩ := bd_E h
  refine cl_X10_286 C ⟨Nat.le_of_ble_eq_true rfl, Nat.le_of_ble_eq_true rfl⟩ (m_X9_look _ _ _ M x1 y_3 hc_5) (Nat.le_of_ble_eq_true rfl) dX10_savedBy_29 ?_
  refine r_aload_n C.1 2 dX10_savedBy_32 rfl rfl ?_
  refine gf_X10_51 C dX10_savedBy_33 ?_
  refine r_iload C.1 1 dX10_savedBy_36 rfl ?_
  obtain ⟨r_7, hc_8, h⟩ := bd_E h
  refine cl_X10_405 C ⟨Nat.le_of_ble_eq_true rfl, Nat.le_of_ble_eq_true rfl⟩ (m_X9_chargeAt _ _ _ M_6 y_2 hc_8) (Nat.le_of_ble_eq_true rfl) dX10_savedBy_38 ?_
  refine r_istore C.1 [(6, .int r_7), (5, .int y_3), (4, .int y_2), (0, .ref (x_ad x 0)), (1, .int x1), (2, .int x2), (3, .int x3)] dX10_savedBy_41 (by decide) rfl rfl ?_
  refine r_aload_n C.1 3 dX10_savedBy_43 rfl rfl ?_
  refine gf_X10_51 C dX10_savedBy_44 ?_
  refine r_aload_n C.1 3 dX10_savedBy_47 rfl rfl ?_
  refine gf_X10_26 C dX10_savedBy_48 ?_
  refine r_iload_n C.1 4 dX10_savedBy_51 rfl rfl ?_
  refine r_iload C.1 1 dX10_savedBy_52 rfl ?_
  refine r_iload_n C.1 5 dX10_savedBy_54 rfl rfl ?_
  refine r_iload_n C.1 6 dX10_savedBy_55 rfl rfl ?_
  obtain ⟨M_11, hc_10, h⟩ := bd_E h
  refine cl_X10_410 C ⟨Nat.le_of_ble_eq_true rfl, Nat.le_of_ble_eq_true rfl⟩ (m_X9_lookWithMoreOut _ _ _ M_6 x1 y_3 x2 x3 hc_10) (Nat.le_of_ble_eq_true rfl) dX10_savedBy_56 ?_
  refine r_iload C.1 0 dX10_savedBy_59 rfl ?_
  refine r_aload_n C.1 3 dX10_savedBy_61 rfl rfl ?_
  refine gf_X10_51 C dX10_savedBy_62 ?_
  refine r_iload C.1 2 dX10_savedBy_65 rfl ?_
  obtain ⟨r_12, hc_13, h⟩ := bd_E h
  refine cl_X10_405 C ⟨Nat.le_of_ble_eq_true rfl, Nat.le_of_ble_eq_true rfl⟩ (m_X9_chargeAt _ _ _ M_11 y_2 hc_13) (Nat.le_of_ble_eq_true rfl) dX10_savedBy_67 ?_
  refine r_isub C.1 dX10_savedBy_70 ?_
  obtain rfl := Option.some.inj h
  exact r_iret C.1 hr ev eM dX10_savedBy_71
def f_X10_savedBy (M : xM) (x1 : Int32) (x2 : Int32) (x3 : Int32) : Option (Int32 × xM) := b_X10_savedBy_0 M x1 x2 x3
set_option maxRecDepth 20000 in
theorem m_X10_savedBy (l : Launch) (D : va_G) (ad : Nat → Nat) (M : xM) (x1 : Int32) (x2 : Int32) (x3 : Int32)  {r : Int32} {M1 : xM} (h : f_X10_savedBy M x1 x2 x3 = some (r, M1)) : xMetC l yX10_savedBy cX10_savedBy 7 (some .int) ({ frames := 4, cells := 0, slots := 0, locals := 100 } : Room) [.ref (ad 0), .int x1, .int x2, .int x3] D ad M (some (.int r)) M1 := by
  refine xMetC_of (own := RX10) (by decide) rfl (Nat.le_of_ble_eq_true rfl) ?_
  intro x C e1 e2 e3 ev eM hr
  subst e1; subst e2; subst e3
  refine r_sub (L := [(0, .ref (x_ad x 0)), (1, .int x1), (2, .int x2), (3, .int x3)]) (L' := [(0, .ref (x_ad x 0)), (1, .int x1), (2, .int x2), (3, .int x3)]) [0, 1, 2, 3] rfl ?_
  exact w_X10_savedBy_0 C M x1 x2 x3 _ h hr ev eM

def b_X10_saved_45 (M : xM)  : Option (Int32 × xM) :=
  some ((-1000000000 : Int32), M)
set_option maxRecDepth 20000 in
set_option maxHeartbeats 2000000 in
theorem w_X10_saved_45 {x : xC} (C : CtC x RX10 cX10_saved 4 ({ frames := 5, cells := 0, slots := 0, locals := 126 } : Room)) (M : xM)   (o : Int32 × xM) (h : b_X10_saved_45 M = some o) (hr : (x_me x).sig.returnType = some .int) (ev : x_rv x = some (.int o.1)) (eM : x_M x = o.2) : J x M 45 [] [] := by
  unfold b_X10_saved_45 at h
  refine r_ldc (v := -1000000000) C.1 kw_729 dX10_saved_45 ?_
  obtain rfl := Option.some.inj h
  exact r_iret C.1 hr ev eM dX10_saved_47

def b_X10_saved_0 (M : xM) (x1 : Int32) (x2 : Int32) (x3 : Int32) : Option (Int32 × xM) :=
  bd (f_X1_hasWard M x1) (fun r_1 => if r_1 = 0 then b_X10_saved_45 M else bd (f_X10_isDay M x2) (fun r_4 => if r_4 = 0 then b_X10_saved_45 M else bd (f_X10_isAmount M x3) (fun r_7 => if r_7 = 0 then b_X10_saved_45 M else gd x1 4 (if (M (25 + 5 * x1.toNatClampNeg) 5) ≤ (x2 / (360 : Int32)) then bd2 (f_X10_savedBy M x1 x2 x3) (fun r_12 M_14 => some (r_12, M_14)) else b_X10_saved_45 M))))
set_option maxRecDepth 20000 in
set_option maxHeartbeats 2000000 in
theorem w_X10_saved_0 {x : xC} (C : CtC x RX10 cX10_saved 4 ({ frames := 5, cells := 0, slots := 0, locals := 126 } : Room)) (M : xM) (x1 : Int32) (x2 : Int32) (x3 : Int32)  (o : Int32 × xM) (h : b_X10_saved_0 M x1 x2 x3 = some o) (hr : (x_me x).sig.returnType = some .int) (ev : x_rv x = some (.int o.1)) (eM : x_M x = o.2) : J x M 0 [(0, .ref (x_ad x 0)), (1, .int x1), (2, .int x2), (3, .int x3)] [] := by
  unfold b_X10_saved_0 at h
  refine r_aload_n C.1 0 dX10_saved_0 rfl rfl ?_
  refine gf_X10_26 C dX10_saved_1 ?_
  refine r_iload_n C.1 1 dX10_saved_4 rfl rfl ?_
  obtain ⟨r_1, hc_2, h⟩ := bd_E h
  refine cl_X10_130 C ⟨Nat.le_of_ble_eq_true rfl, Nat.le_of_ble_eq_true rfl⟩ (m_X1_hasWard _ _ _ M x1 hc_2) (Nat.le_of_ble_eq_true rfl) dX10_saved_5 ?_
  refine r_if_eq C.1 45 dX10_saved_8 (by decide) (fun c_3 => ?_) (fun c_3 => ?_)
  · replace h := ite_T c_3 h
    exact r_sub [] rfl (w_X10_saved_45 C M _ h hr ev eM)
  · replace h := ite_F c_3 h
    refine r_iload_n C.1 2 dX10_saved_11 rfl rfl ?_
    obtain ⟨r_4, hc_5, h⟩ := bd_E h
    refine cl_X10_133 C ⟨Nat.le_of_ble_eq_true rfl, Nat.le_of_ble_eq_true rfl⟩ (m_X10_isDay _ _ _ M x2 hc_5) (Nat.le_of_ble_eq_true rfl) dX10_saved_12 ?_
    refine r_if_eq C.1 45 dX10_saved_15 (by decide) (fun c_6 => ?_) (fun c_6 => ?_)
    · replace h := ite_T c_6 h
      exact r_sub [] rfl (w_X10_saved_45 C M _ h hr ev eM)
    · replace h := ite_F c_6 h
      refine r_iload_n C.1 3 dX10_saved_18 rfl rfl ?_
      obtain ⟨r_7, hc_8, h⟩ := bd_E h
      refine cl_X10_151 C ⟨Nat.le_of_ble_eq_true rfl, Nat.le_of_ble_eq_true rfl⟩ (m_X10_isAmount _ _ _ M x3 hc_8) (Nat.le_of_ble_eq_true rfl) dX10_saved_19 ?_
      refine r_if_eq C.1 45 dX10_saved_22 (by decide) (fun c_9 => ?_) (fun c_9 => ?_)
      · replace h := ite_T c_9 h
        exact r_sub [] rfl (w_X10_saved_45 C M _ h hr ev eM)
      · replace h := ite_F c_9 h
        refine r_iload_n C.1 2 dX10_saved_25 rfl rfl ?_
        refine r_sipush (v := 360) C.1 dX10_saved_26 (by decide) ?_
        refine r_idiv C.1 (by decide) dX10_saved_29 ?_
        refine r_aload_n C.1 0 dX10_saved_30 rfl rfl ?_
        refine gf_X10_26 C dX10_saved_31 ?_
        refine gf_X10_120_17 C dX10_saved_34 ?_
        refine r_iload_n C.1 1 dX10_saved_37 rfl rfl ?_
        obtain ⟨q_10, h⟩ := gd_E h
        refine r_aldq C.1 (cK C (by decide)) (cS C (sh_20)) 2 (cT2 C) q_10 (y := x_ad x (25 + 5 * x1.toNatClampNeg)) rfl dX10_saved_38 ?_
        refine gfk_X10_208 C (kW_17 (vp_lt q_10)) dX10_saved_39 ?_
        refine r_icmp_ge C.1 48 dX10_saved_42 (by decide) (fun c_11 => ?_) (fun c_11 => ?_)
        · replace h := ite_T c_11 h
          refine r_aload_n C.1 0 dX10_saved_48 rfl rfl ?_
          refine r_iload_n C.1 1 dX10_saved_49 rfl rfl ?_
          refine r_iload_n C.1 2 dX10_saved_50 rfl rfl ?_
          refine r_iload_n C.1 3 dX10_saved_51 rfl rfl ?_
          obtain ⟨r_12, M_14, hc_13, h⟩ := bd2_E h
          refine cl_X10_355 C ⟨Nat.le_of_ble_eq_true rfl, Nat.le_of_ble_eq_true rfl⟩ (m_X10_savedBy _ _ _ M x1 x2 x3 hc_13) (Nat.le_of_ble_eq_true rfl) dX10_saved_52 ?_
          obtain rfl := Option.some.inj h
          exact r_iret C.1 hr ev eM dX10_saved_55
        · replace h := ite_F c_11 h
          exact r_sub [] rfl (w_X10_saved_45 C M _ h hr ev eM)
def f_X10_saved (M : xM) (x1 : Int32) (x2 : Int32) (x3 : Int32) : Option (Int32 × xM) := b_X10_saved_0 M x1 x2 x3
set_option maxRecDepth 20000 in
theorem m_X10_saved (l : Launch) (D : va_G) (ad : Nat → Nat) (M : xM) (x1 : Int32) (x2 : Int32) (x3 : Int32)  {r : Int32} {M1 : xM} (h : f_X10_saved M x1 x2 x3 = some (r, M1)) : xMetC l yX10_saved cX10_saved 4 (some .int) ({ frames := 5, cells := 0, slots := 0, locals := 126 } : Room) [.ref (ad 0), .int x1, .int x2, .int x3] D ad M (some (.int r)) M1 := by
  refine xMetC_of (own := RX10) (by decide) rfl (Nat.le_of_ble_eq_true rfl) ?_
  intro x C e1 e2 e3 ev eM hr
  subst e1; subst e2; subst e3
  refine r_sub (L := [(0, .ref (x_ad x 0)), (1, .int x1), (2, .int x2), (3, .int x3)]) (L' := [(0, .ref (x_ad x 0)), (1, .int x1), (2, .int x2), (3, .int x3)]) [0, 1, 2, 3] rfl ?_
  exact w_X10_saved_0 C M x1 x2 x3 _ h hr ev eM

def b_X10_bestDay_52 (M : xM)  : Option (Int32 × xM) :=
  some ((-1000000000 : Int32), M)
set_option maxRecDepth 20000 in
set_option maxHeartbeats 2000000 in
theorem w_X10_bestDay_52 {x : xC} (C : CtC x RX10 cX10_bestDay 6 ({ frames := 5, cells := 0, slots := 0, locals := 126 } : Room)) (M : xM)   (o : Int32 × xM) (h : b_X10_bestDay_52 M = some o) (hr : (x_me x).sig.returnType = some .int) (ev : x_rv x = some (.int o.1)) (eM : x_M x = o.2) : J x M 52 [] [] := by
  unfold b_X10_bestDay_52 at h
  refine r_ldc (v := -1000000000) C.1 kw_729 dX10_bestDay_52 ?_
  obtain rfl := Option.some.inj h
  exact r_iret C.1 hr ev eM dX10_bestDay_54

def b_X10_bestDay_79 (M : xM) (s0 : Int32) : Option (Int32 × xM) :=
  some (s0, M)
set_option maxRecDepth 20000 in
set_option maxHeartbeats 2000000 in
theorem w_X10_bestDay_79 {x : xC} (C : CtC x RX10 cX10_bestDay 6 ({ frames := 5, cells := 0, slots := 0, locals := 126 } : Room)) (M : xM) (s0 : Int32)  (o : Int32 × xM) (h : b_X10_bestDay_79 M s0 = some o) (hr : (x_me x).sig.returnType = some .int) (ev : x_rv x = some (.int o.1)) (eM : x_M x = o.2) : J x M 79 [] [.int s0] := by
  unfold b_X10_bestDay_79 at h
  obtain rfl := Option.some.inj h
  exact r_iret C.1 hr ev eM dX10_bestDay_79

def b_X10_bestDay_0 (M : xM) (x1 : Int32) (x2 : Int32) (x3 : Int32) (x4 : Int32) : Option (Int32 × xM) :=
  bd (f_X1_hasWard M x1) (fun r_1 => if r_1 = 0 then b_X10_bestDay_52 M else bd (f_X10_isYear M x2) (fun r_4 => if r_4 = 0 then b_X10_bestDay_52 M else bd (f_X10_isAmount M x3) (fun r_7 => if r_7 = 0 then b_X10_bestDay_52 M else if x4 < 0 then b_X10_bestDay_52 M else if (1 : Int32) < x4 then b_X10_bestDay_52 M else gd x1 4 (if (M (25 + 5 * x1.toNatClampNeg) 5) ≤ x2 then bd (f_X10_firstDay M x2) (fun r_14 => if x4 = 0 then b_X10_bestDay_79 M r_14 else bd2 (f_X10_savedBy M x1 r_14 x3) (fun r_17 M_19 => b_X10_bestDay_79 M_19 r_17)) else b_X10_bestDay_52 M))))
set_option maxRecDepth 20000 in
set_option maxHeartbeats 2000000 in
theorem w_X10_bestDay_0 {x : xC} (C : CtC x RX10 cX10_bestDay 6 ({ frames := 5, cells := 0, slots := 0, locals := 126 } : Room)) (M : xM) (x1 : Int32) (x2 : Int32) (x3 : Int32) (x4 : Int32)  (o : Int32 × xM) (h : b_X10_bestDay_0 M x1 x2 x3 x4 = some o) (hr : (x_me x).sig.returnType = some .int) (ev : x_rv x = some (.int o.1)) (eM : x_M x = o.2) : J x M 0 [(0, .ref (x_ad x 0)), (1, .int x1), (2, .int x2), (3, .int x3), (4, .int x4)] [] := by
  unfold b_X10_bestDay_0 at h
  refine r_aload_n C.1 0 dX10_bestDay_0 rfl rfl ?_
  refine gf_X10_26 C dX10_bestDay_1 ?_
  refine r_iload_n C.1 1 dX10_bestDay_4 rfl rfl ?_
  obtain ⟨r_1, hc_2, h⟩ := bd_E h
  refine cl_X10_130 C ⟨Nat.le_of_ble_eq_true rfl, Nat.le_of_ble_eq_true rfl⟩ (m_X1_hasWard _ _ _ M x1 hc_2) (Nat.le_of_ble_eq_true rfl) dX10_bestDay_5 ?_
  refine r_if_eq C.1 52 dX10_bestDay_8 (by decide) (fun c_3 => ?_) (fun c_3 => ?_)
  · replace h := ite_T c_3 h
    exact r_sub [] rfl (w_X10_bestDay_52 C M _ h hr ev eM)
  · replace h := ite_F c_3 h
    refine r_iload_n C.1 2 dX10_bestDay_11 rfl rfl ?_
    obtain ⟨r_4, hc_5, h⟩ := bd_E h
    refine cl_X10_239 C ⟨Nat.le_of_ble_eq_true rfl, Nat.le_of_ble_eq_true rfl⟩ (m_X10_isYear _ _ _ M x2 hc_5) (Nat.le_of_ble_eq_true rfl) dX10_bestDay_12 ?_
    refine r_if_eq C.1 52 dX10_bestDay_15 (by decide) (fun c_6 => ?_) (fun c_6 => ?_)
    · replace h := ite_T c_6 h
      exact r_sub [] rfl (w_X10_bestDay_52 C M _ h hr ev eM)
    · replace h := ite_F c_6 h
      refine r_iload_n C.1 3 dX10_bestDay_18 rfl rfl ?_
      obtain ⟨r_7, hc_8, h⟩ := bd_E h
      refine cl_X10_151 C ⟨Nat.le_of_ble_eq_true rfl, Nat.le_of_ble_eq_true rfl⟩ (m_X10_isAmount _ _ _ M x3 hc_8) (Nat.le_of_ble_eq_true rfl) dX10_bestDay_19 ?_
      refine r_if_eq C.1 52 dX10_bestDay_22 (by decide) (fun c_9 => ?_) (fun c_9 => ?_)
      · replace h := ite_T c_9 h
        exact r_sub [] rfl (w_X10_bestDay_52 C M _ h hr ev eM)
      · replace h := ite_F c_9 h
        refine r_iload C.1 4 dX10_bestDay_25 rfl ?_
        refine r_if_lt C.1 52 dX10_bestDay_27 (by decide) (fun c_10 => ?_) (fun c_10 => ?_)
        · replace h := ite_T c_10 h
          exact r_sub [] rfl (w_X10_bestDay_52 C M _ h hr ev eM)
        · replace h := ite_F c_10 h
          refine r_iload C.1 4 dX10_bestDay_30 rfl ?_
          refine r_iconst (v := 1) C.1 dX10_bestDay_32 rfl ?_
          refine r_icmp_gt C.1 52 dX10_bestDay_33 (by decide) (fun c_11 => ?_) (fun c_11 => ?_)
          · replace h := ite_T c_11 h
            exact r_sub [] rfl (w_X10_bestDay_52 C M _ h hr ev eM)
          · replace h := ite_F c_11 h
            refine r_iload_n C.1 2 dX10_bestDay_36 rfl rfl ?_
            refine r_aload_n C.1 0 dX10_bestDay_37 rfl rfl ?_
            refine gf_X10_26 C dX10_bestDay_38 ?_
            refine gf_X10_120_17 C dX10_bestDay_41 ?_
            refine r_iload_n C.1 1 dX10_bestDay_44 rfl rfl ?_
            obtain ⟨q_12, h⟩ := gd_E h
            refine r_aldq C.1 (cK C (by decide)) (cS C (sh_20)) 2 (cT2 C) q_12 (y := x_ad x (25 + 5 * x1.toNatClampNeg)) rfl dX10_bestDay_45 ?_
            refine gfk_X10_208 C (kW_17 (vp_lt q_12)) dX10_bestDay_46 ?_
            refine r_icmp_ge C.1 55 dX10_bestDay_49 (by decide) (fun c_13 => ?_) (fun c_13 => ?_)
            · replace h := ite_T c_13 h
              refine r_iload_n C.1 2 dX10_bestDay_55 rfl rfl ?_
              obtain ⟨r_14, hc_15, h⟩ := bd_E h
              refine cl_X10_279 C ⟨Nat.le_of_ble_eq_true rfl, Nat.le_of_ble_eq_true rfl⟩ (m_X10_firstDay _ _ _ M x2 hc_15) (Nat.le_of_ble_eq_true rfl) dX10_bestDay_56 ?_
              refine r_istore C.1 [(5, .int r_14), (0, .ref (x_ad x 0)), (1, .int x1), (2, .int x2), (3, .int x3), (4, .int x4)] dX10_bestDay_59 (by decide) rfl rfl ?_
              refine r_iload C.1 5 dX10_bestDay_61 rfl ?_
              refine r_if_ne C.1 71 dX10_bestDay_63 (by decide) (fun c_16 => ?_) (fun c_16 => ?_)
              · replace h := ite_F c_16 h
                refine r_aload_n C.1 1 dX10_bestDay_71 rfl rfl ?_
                refine r_iload_n C.1 2 dX10_bestDay_72 rfl rfl ?_
                refine r_iload C.1 0 dX10_bestDay_73 rfl ?_
                refine r_iload_n C.1 4 dX10_bestDay_75 rfl rfl ?_
                obtain ⟨r_17, M_19, hc_18, h⟩ := bd2_E h
                refine cl_X10_355 C ⟨Nat.le_of_ble_eq_true rfl, Nat.le_of_ble_eq_true rfl⟩ (m_X10_savedBy _ _ _ M x1 r_14 x3 hc_18) (Nat.le_of_ble_eq_true rfl) dX10_bestDay_76 ?_
                exact r_sub [] rfl (w_X10_bestDay_79 C M_19 r_17 _ h hr ev eM)
              · replace h := ite_T c_16 h
                refine r_iload C.1 0 dX10_bestDay_66 rfl ?_
                refine r_goto C.1 79 dX10_bestDay_68 (by decide) ?_
                exact r_sub [] rfl (w_X10_bestDay_79 C M r_14 _ h hr ev eM)
            · replace h := ite_F c_13 h
              exact r_sub [] rfl (w_X10_bestDay_52 C M _ h hr ev eM)
def f_X10_bestDay (M : xM) (x1 : Int32) (x2 : Int32) (x3 : Int32) (x4 : Int32) : Option (Int32 × xM) := b_X10_bestDay_0 M x1 x2 x3 x4
set_option maxRecDepth 20000 in
theorem m_X10_bestDay (l : Launch) (D : va_G) (ad : Nat → Nat) (M : xM) (x1 : Int32) (x2 : Int32) (x3 : Int32) (x4 : Int32)  {r : Int32} {M1 : xM} (h : f_X10_bestDay M x1 x2 x3 x4 = some (r, M1)) : xMetC l yX10_bestDay cX10_bestDay 6 (some .int) ({ frames := 5, cells := 0, slots := 0, locals := 126 } : Room) [.ref (ad 0), .int x1, .int x2, .int x3, .int x4] D ad M (some (.int r)) M1 := by
  refine xMetC_of (own := RX10) (by decide) rfl (Nat.le_of_ble_eq_true rfl) ?_
  intro x C e1 e2 e3 ev eM hr
  subst e1; subst e2; subst e3
  refine r_sub (L := [(0, .ref (x_ad x 0)), (1, .int x1), (2, .int x2), (3, .int x3), (4, .int x4)]) (L' := [(0, .ref (x_ad x 0)), (1, .int x1), (2, .int x2), (3, .int x3), (4, .int x4)]) [0, 1, 2, 3, 4] rfl ?_
  exact w_X10_bestDay_0 C M x1 x2 x3 x4 _ h hr ev eM

def b_X10_ofAge_37 (M : xM) (s0 : Int32) : Option (Int32) :=
  some s0
set_option maxRecDepth 20000 in
set_option maxHeartbeats 2000000 in
theorem w_X10_ofAge_37 {x : xC} (C : CtC x RX10 cX10_ofAge 2 ({ frames := 1, cells := 0, slots := 0, locals := 21 } : Room)) (M : xM) (s0 : Int32)  (o : Int32) (h : b_X10_ofAge_37 M s0 = some o) (hr : (x_me x).sig.returnType = some .int) (ev : x_rv x = some (.int o)) (eM : x_M x = M) : J x M 37 [] [.int s0] := by
  unfold b_X10_ofAge_37 at h
  obtain rfl := Option.some.inj h
  exact r_iret C.1 hr ev eM dX10_ofAge_37

def b_X10_ofAge_0 (M : xM) (x1 : Int32) : Option (Int32) :=
  bd (f_X1_hasWard M x1) (fun r_1 => if r_1 = 0 then b_X10_ofAge_37 M (-1000000000 : Int32) else gd x1 4 (gd (0 : Int32) 7 (bd (f_X8_dayOfAge M (25 + 5 * x1.toNatClampNeg) (M 18 (0 : Int32).toNatClampNeg)) (fun r_6 => b_X10_ofAge_37 M r_6))))
set_option maxRecDepth 20000 in
set_option maxHeartbeats 2000000 in
theorem w_X10_ofAge_0 {x : xC} (C : CtC x RX10 cX10_ofAge 2 ({ frames := 1, cells := 0, slots := 0, locals := 21 } : Room)) (M : xM) (x1 : Int32)  (o : Int32) (h : b_X10_ofAge_0 M x1 = some o) (hr : (x_me x).sig.returnType = some .int) (ev : x_rv x = some (.int o)) (eM : x_M x = M) : J x M 0 [(0, .ref (x_ad x 0)), (1, .int x1)] [] := by
  unfold b_X10_ofAge_0 at h
  refine r_aload_n C.1 0 dX10_ofAge_0 rfl rfl ?_
  refine gf_X10_26 C dX10_ofAge_1 ?_
  refine r_iload_n C.1 1 dX10_ofAge_4 rfl rfl ?_
  obtain ⟨r_1, hc_2, h⟩ := bd_E h
  refine cl_X10_130 C ⟨Nat.le_of_ble_eq_true rfl, Nat.le_of_ble_eq_true rfl⟩ (m_X1_hasWard _ _ _ M x1 hc_2) (Nat.le_of_ble_eq_true rfl) dX10_ofAge_5 ?_
  refine r_if_eq C.1 35 dX10_ofAge_8 (by decide) (fun c_3 => ?_) (fun c_3 => ?_)
  · replace h := ite_T c_3 h
    refine r_ldc (v := -1000000000) C.1 kw_729 dX10_ofAge_35 ?_
    exact r_sub [] rfl (w_X10_ofAge_37 C M (-1000000000 : Int32) _ h hr ev eM)
  · replace h := ite_F c_3 h
    refine r_aload_n C.1 0 dX10_ofAge_11 rfl rfl ?_
    refine gf_X10_26 C dX10_ofAge_12 ?_
    refine gf_X10_120_17 C dX10_ofAge_15 ?_
    refine r_iload_n C.1 1 dX10_ofAge_18 rfl rfl ?_
    obtain ⟨q_4, h⟩ := gd_E h
    refine r_aldq C.1 (cK C (by decide)) (cS C (sh_20)) 2 (cT2 C) q_4 (y := x_ad x (25 + 5 * x1.toNatClampNeg)) rfl dX10_ofAge_19 ?_
    refine r_aload_n C.1 0 dX10_ofAge_20 rfl rfl ?_
    refine gf_X10_26 C dX10_ofAge_21 ?_
    refine gf_X10_94_17 C dX10_ofAge_24 ?_
    refine r_iconst (v := 0) C.1 dX10_ofAge_27 rfl ?_
    obtain ⟨q_5, h⟩ := gd_E h
    refine r_iald C.1 (cK C (by decide)) (cS C (sh_18)) 0 (cT0 C) q_5 dX10_ofAge_28 ?_
    obtain ⟨r_6, hc_7, h⟩ := bd_E h
    refine cl_X10_358 C (kW_17 (vp_lt q_4)) ⟨Nat.le_of_ble_eq_true rfl, Nat.le_of_ble_eq_true rfl⟩ (m_X8_dayOfAge _ _ _ M (25 + 5 * x1.toNatClampNeg) (M 18 (0 : Int32).toNatClampNeg) (kW_17 (vp_lt q_4)) hc_7) (Nat.le_of_ble_eq_true rfl) dX10_ofAge_29 ?_
    refine r_goto C.1 37 dX10_ofAge_32 (by decide) ?_
    exact r_sub [] rfl (w_X10_ofAge_37 C M r_6 _ h hr ev eM)
def f_X10_ofAge (M : xM) (x1 : Int32) : Option (Int32) := b_X10_ofAge_0 M x1
set_option maxRecDepth 20000 in
theorem m_X10_ofAge (l : Launch) (D : va_G) (ad : Nat → Nat) (M : xM) (x1 : Int32)  {o : Int32} (h : f_X10_ofAge M x1 = some o) : xMetC l yX10_ofAge cX10_ofAge 2 (some .int) ({ frames := 1, cells := 0, slots := 0, locals := 21 } : Room) [.ref (ad 0), .int x1] D ad M (some (.int o)) M := by
  refine xMetC_of (own := RX10) (by decide) rfl (Nat.le_of_ble_eq_true rfl) ?_
  intro x C e1 e2 e3 ev eM hr
  subst e1; subst e2; subst e3
  refine r_sub (L := [(0, .ref (x_ad x 0)), (1, .int x1)]) (L' := [(0, .ref (x_ad x 0)), (1, .int x1)]) [0, 1] rfl ?_
  exact w_X10_ofAge_0 C M x1 _ h hr ev eM

def b_X10_due_27 (M : xM) (s0 : Int32) : Option (Int32) :=
  some s0
set_option maxRecDepth 20000 in
set_option maxHeartbeats 2000000 in
theorem w_X10_due_27 {x : xC} (C : CtC x RX10 cX10_due 2 ({ frames := 2, cells := 0, slots := 0, locals := 47 } : Room)) (M : xM) (s0 : Int32)  (o : Int32) (h : b_X10_due_27 M s0 = some o) (hr : (x_me x).sig.returnType = some .int) (ev : x_rv x = some (.int o)) (eM : x_M x = M) : J x M 27 [] [.int s0] := by
  unfold b_X10_due_27 at h
  obtain rfl := Option.some.inj h
  exact r_iret C.1 hr ev eM dX10_due_27

def b_X10_due_0 (M : xM) (x1 : Int32) : Option (Int32) :=
  bd (f_X1_hasWard M x1) (fun r_1 => if r_1 = 0 then b_X10_due_27 M (-1000000000 : Int32) else bd (f_X1_estateOn M x1 (3599 : Int32)) (fun r_4 => b_X10_due_27 M r_4))
set_option maxRecDepth 20000 in
set_option maxHeartbeats 2000000 in
theorem w_X10_due_0 {x : xC} (C : CtC x RX10 cX10_due 2 ({ frames := 2, cells := 0, slots := 0, locals := 47 } : Room)) (M : xM) (x1 : Int32)  (o : Int32) (h : b_X10_due_0 M x1 = some o) (hr : (x_me x).sig.returnType = some .int) (ev : x_rv x = some (.int o)) (eM : x_M x = M) : J x M 0 [(0, .ref (x_ad x 0)), (1, .int x1)] [] := by
  unfold b_X10_due_0 at h
  refine r_aload_n C.1 0 dX10_due_0 rfl rfl ?_
  refine gf_X10_26 C dX10_due_1 ?_
  refine r_iload_n C.1 1 dX10_due_4 rfl rfl ?_
  obtain ⟨r_1, hc_2, h⟩ := bd_E h
  refine cl_X10_130 C ⟨Nat.le_of_ble_eq_true rfl, Nat.le_of_ble_eq_true rfl⟩ (m_X1_hasWard _ _ _ M x1 hc_2) (Nat.le_of_ble_eq_true rfl) dX10_due_5 ?_
  refine r_if_eq C.1 25 dX10_due_8 (by decide) (fun c_3 => ?_) (fun c_3 => ?_)
  · replace h := ite_T c_3 h
    refine r_ldc (v := -1000000000) C.1 kw_729 dX10_due_25 ?_
    exact r_sub [] rfl (w_X10_due_27 C M (-1000000000 : Int32) _ h hr ev eM)
  · replace h := ite_F c_3 h
    refine r_aload_n C.1 0 dX10_due_11 rfl rfl ?_
    refine gf_X10_26 C dX10_due_12 ?_
    refine r_iload_n C.1 1 dX10_due_15 rfl rfl ?_
    refine r_sipush (v := 3599) C.1 dX10_due_16 (by decide) ?_
    obtain ⟨r_4, hc_5, h⟩ := bd_E h
    refine cl_X10_232 C ⟨Nat.le_of_ble_eq_true rfl, Nat.le_of_ble_eq_true rfl⟩ (m_X1_estateOn _ _ _ M x1 (3599 : Int32) hc_5) (Nat.le_of_ble_eq_true rfl) dX10_due_19 ?_
    refine r_goto C.1 27 dX10_due_22 (by decide) ?_
    exact r_sub [] rfl (w_X10_due_27 C M r_4 _ h hr ev eM)
def f_X10_due (M : xM) (x1 : Int32) : Option (Int32) := b_X10_due_0 M x1
set_option maxRecDepth 20000 in
theorem m_X10_due (l : Launch) (D : va_G) (ad : Nat → Nat) (M : xM) (x1 : Int32)  {o : Int32} (h : f_X10_due M x1 = some o) : xMetC l yX10_due cX10_due 2 (some .int) ({ frames := 2, cells := 0, slots := 0, locals := 47 } : Room) [.ref (ad 0), .int x1] D ad M (some (.int o)) M := by
  refine xMetC_of (own := RX10) (by decide) rfl (Nat.le_of_ble_eq_true rfl) ?_
  intro x C e1 e2 e3 ev eM hr
  subst e1; subst e2; subst e3
  refine r_sub (L := [(0, .ref (x_ad x 0)), (1, .int x1)]) (L' := [(0, .ref (x_ad x 0)), (1, .int x1)]) [0, 1] rfl ?_
  exact w_X10_due_0 C M x1 _ h hr ev eM

def b_X10_wardOf_78 (M : xM) (s0 : Int32) : Option (Int32) :=
  some s0
set_option maxRecDepth 20000 in
set_option maxHeartbeats 2000000 in
theorem w_X10_wardOf_78 {x : xC} (C : CtC x RX10 cX10_wardOf 4 ({ frames := 1, cells := 0, slots := 0, locals := 21 } : Room)) (M : xM) (s0 : Int32)  (o : Int32) (h : b_X10_wardOf_78 M s0 = some o) (hr : (x_me x).sig.returnType = some .int) (ev : x_rv x = some (.int o)) (eM : x_M x = M) : J x M 78 [] [.int s0] := by
  unfold b_X10_wardOf_78 at h
  obtain rfl := Option.some.inj h
  exact r_iret C.1 hr ev eM dX10_wardOf_78

def b_X10_wardOf_0 (M : xM) (x1 : Int32) (x2 : Int32) : Option (Int32) :=
  bd (f_X1_hasWard M x1) (fun r_1 => if r_1 = 0 then some (-1000000000 : Int32) else gd x1 4 (if x2 = (0 : Int32) then some (M (25 + 5 * x1.toNatClampNeg) 0) else (if x2 = (1 : Int32) then some (M (25 + 5 * x1.toNatClampNeg) 5) else (if x2 = (2 : Int32) then if (M (25 + 5 * x1.toNatClampNeg) 6) = 0 then b_X10_wardOf_78 M (0 : Int32) else b_X10_wardOf_78 M (1 : Int32) else (if x2 = (3 : Int32) then some (M (25 + 5 * x1.toNatClampNeg) 2) else (some (-1000000000 : Int32)))))))
set_option maxRecDepth 20000 in
set_option maxHeartbeats 2000000 in
theorem w_X10_wardOf_0 {x : xC} (C : CtC x RX10 cX10_wardOf 4 ({ frames := 1, cells := 0, slots := 0, locals := 21 } : Room)) (M : xM) (x1 : Int32) (x2 : Int32)  (o : Int32) (h : b_X10_wardOf_0 M x1 x2 = some o) (hr : (x_me x).sig.returnType = some .int) (ev : x_rv x = some (.int o)) (eM : x_M x = M) : J x M 0 [(0, .ref (x_ad x 0)), (1, .int x1), (2, .int x2)] [] := by
  unfold b_X10_wardOf_0 at h
  refine r_aload_n C.1 0 dX10_wardOf_0 rfl rfl ?_
  refine gf_X10_26 C dX10_wardOf_1 ?_
  refine r_iload_n C.1 1 dX10_wardOf_4 rfl rfl ?_
  obtain ⟨r_1, hc_2, h⟩ := bd_E h
  refine cl_X10_130 C ⟨Nat.le_of_ble_eq_true rfl, Nat.le_of_ble_eq_true rfl⟩ (m_X1_hasWard _ _ _ M x1 hc_2) (Nat.le_of_ble_eq_true rfl) dX10_wardOf_5 ?_
  refine r_if_ne C.1 14 dX10_wardOf_8 (by decide) (fun c_3 => ?_) (fun c_3 => ?_)
  · replace h := ite_F c_3 h
    refine r_aload_n C.1 0 dX10_wardOf_14 rfl rfl ?_
    refine gf_X10_26 C dX10_wardOf_15 ?_
    refine gf_X10_120_17 C dX10_wardOf_18 ?_
    refine r_iload_n C.1 1 dX10_wardOf_21 rfl rfl ?_
    obtain ⟨q_4, h⟩ := gd_E h
    refine r_aldq C.1 (cK C (by decide)) (cS C (sh_20)) 2 (cT2 C) q_4 (y := x_ad x (25 + 5 * x1.toNatClampNeg)) rfl dX10_wardOf_22 ?_
    refine r_astore_n C.1 [(3, .ref (x_ad x (25 + 5 * x1.toNatClampNeg))), (0, .ref (x_ad x 0)), (1, .int x1), (2, .int x2)] dX10_wardOf_23 rfl (by decide) rfl ?_
    refine r_iload_n C.1 3 dX10_wardOf_24 rfl rfl ?_
    by_cases c_50 : x2 = (0 : Int32)
    · replace h := ite_T c_50 h
      refine r_tin C.1 c_50 56 dX10_wardOf_25 (by decide) (by decide) rfl (by decide) ?_
      refine r_aload_n C.1 0 dX10_wardOf_56 rfl rfl ?_
      refine gfk_X10_361 C (kW_17 (vp_lt q_4)) dX10_wardOf_57 ?_
      obtain rfl := Option.some.inj h
      exact r_iret C.1 hr ev eM dX10_wardOf_60
    · replace h := ite_F c_50 h
      by_cases c_51 : x2 = (1 : Int32)
      · replace h := ite_T c_51 h
        refine r_tin C.1 c_51 61 dX10_wardOf_25 (by decide) (by decide) rfl (by decide) ?_
        refine r_aload_n C.1 0 dX10_wardOf_61 rfl rfl ?_
        refine gfk_X10_208 C (kW_17 (vp_lt q_4)) dX10_wardOf_62 ?_
        obtain rfl := Option.some.inj h
        exact r_iret C.1 hr ev eM dX10_wardOf_65
      · replace h := ite_F c_51 h
        by_cases c_52 : x2 = (2 : Int32)
        · replace h := ite_T c_52 h
          refine r_tin C.1 c_52 66 dX10_wardOf_25 (by decide) (by decide) rfl (by decide) ?_
          refine r_aload_n C.1 0 dX10_wardOf_66 rfl rfl ?_
          refine gfk_X10_205 C (kW_17 (vp_lt q_4)) dX10_wardOf_67 ?_
          refine r_if_eq C.1 77 dX10_wardOf_70 (by decide) (fun c_6 => ?_) (fun c_6 => ?_)
          · replace h := ite_T c_6 h
            refine r_iconst (v := 0) C.1 dX10_wardOf_77 rfl ?_
            exact r_sub [] rfl (w_X10_wardOf_78 C M (0 : Int32) _ h hr ev eM)
          · replace h := ite_F c_6 h
            refine r_iconst (v := 1) C.1 dX10_wardOf_73 rfl ?_
            refine r_goto C.1 78 dX10_wardOf_74 (by decide) ?_
            exact r_sub [] rfl (w_X10_wardOf_78 C M (1 : Int32) _ h hr ev eM)
        · replace h := ite_F c_52 h
          by_cases c_53 : x2 = (3 : Int32)
          · replace h := ite_T c_53 h
            refine r_tin C.1 c_53 79 dX10_wardOf_25 (by decide) (by decide) rfl (by decide) ?_
            refine r_aload_n C.1 0 dX10_wardOf_79 rfl rfl ?_
            refine gfk_X10_145 C (kW_17 (vp_lt q_4)) dX10_wardOf_80 ?_
            obtain rfl := Option.some.inj h
            exact r_iret C.1 hr ev eM dX10_wardOf_83
          · replace h := ite_F c_53 h
            have qc_50 := ne_toInt c_50
            have qc_51 := ne_toInt c_51
            have qc_52 := ne_toInt c_52
            have qc_53 := ne_toInt c_53
            refine r_tout C.1 84 dX10_wardOf_25 (tout_0_3 qc_50 qc_51 qc_52 qc_53) (by decide) ?_
            refine r_ldc (v := -1000000000) C.1 kw_729 dX10_wardOf_84 ?_
            obtain rfl := Option.some.inj h
            exact r_iret C.1 hr ev eM dX10_wardOf_86
  · replace h := ite_T c_3 h
    refine r_ldc (v := -1000000000) C.1 kw_729 dX10_wardOf_11 ?_
    obtain rfl := Option.some.inj h
    exact r_iret C.1 hr ev eM dX10_wardOf_13
def f_X10_wardOf (M : xM) (x1 : Int32) (x2 : Int32) : Option (Int32) := b_X10_wardOf_0 M x1 x2
set_option maxRecDepth 20000 in
theorem m_X10_wardOf (l : Launch) (D : va_G) (ad : Nat → Nat) (M : xM) (x1 : Int32) (x2 : Int32)  {o : Int32} (h : f_X10_wardOf M x1 x2 = some o) : xMetC l yX10_wardOf cX10_wardOf 4 (some .int) ({ frames := 1, cells := 0, slots := 0, locals := 21 } : Room) [.ref (ad 0), .int x1, .int x2] D ad M (some (.int o)) M := by
  refine xMetC_of (own := RX10) (by decide) rfl (Nat.le_of_ble_eq_true rfl) ?_
  intro x C e1 e2 e3 ev eM hr
  subst e1; subst e2; subst e3
  refine r_sub (L := [(0, .ref (x_ad x 0)), (1, .int x1), (2, .int x2)]) (L' := [(0, .ref (x_ad x 0)), (1, .int x1), (2, .int x2)]) [0, 1, 2] rfl ?_
  exact w_X10_wardOf_0 C M x1 x2 _ h hr ev eM

def b_X10_takeBack_203 (M : xM)  : Option (xM) :=
  some M
set_option maxRecDepth 20000 in
set_option maxHeartbeats 2000000 in
theorem w_X10_takeBack_203 {x : xC} (C : CtC x RX10 cX10_takeBack 4 ({ frames := 0, cells := 0, slots := 0, locals := 0 } : Room)) (M : xM)   (o : xM) (h : b_X10_takeBack_203 M = some o) (hr : (x_me x).sig.returnType = none) (ev : x_rv x = none) (eM : x_M x = o) : J x M 203 [] [] := by
  unfold b_X10_takeBack_203 at h
  obtain rfl := Option.some.inj h
  exact r_vret C.1 hr ev eM dX10_takeBack_203

def b_X10_takeBack_0 (M : xM) (x1 : Int32) (x2 : Int32) (x3 : Int32) : Option (xM) :=
  if x1 = (0 : Int32) then lt (uM M 17 1 ((M 17 1) - (1 : Int32))) (fun M_2 => b_X10_takeBack_203 M_2) else (if x1 = (1 : Int32) then gd x2 3 (lt (uM M 19 x2.toNatClampNeg x3) (fun M_4 => b_X10_takeBack_203 M_4)) else (if x1 = (2 : Int32) then lt (uM M 17 3 ((M 17 3) - (1 : Int32))) (fun M_5 => b_X10_takeBack_203 M_5) else (if x1 = (3 : Int32) then gd x2 4 (lt (uM M (25 + 5 * x2.toNatClampNeg) 2 ((M (25 + 5 * x2.toNatClampNeg) 2) - (1 : Int32))) (fun M_7 => b_X10_takeBack_203 M_7)) else (if x1 = (4 : Int32) then lt (uM M 17 5 ((M 17 5) - (1 : Int32))) (fun M_8 => b_X10_takeBack_203 M_8) else (if x1 = (5 : Int32) then lt (uM M 17 7 ((M 17 7) - (1 : Int32))) (fun M_9 => b_X10_takeBack_203 M_9) else (if x1 = (6 : Int32) then gd x2 40 (lt (uM M (45 + x2.toNatClampNeg) 7 (0 : Int32)) (fun M_11 => b_X10_takeBack_203 M_11)) else (if x1 = (7 : Int32) then gd x2 4 (lt (uM M (25 + 5 * x2.toNatClampNeg) 5 ((M (25 + 5 * x2.toNatClampNeg) 5) - (1 : Int32))) (fun M_13 => b_X10_takeBack_203 M_13)) else (if x1 = (8 : Int32) then gd x2 4 (lt (uM M (25 + 5 * x2.toNatClampNeg) 6 (0 : Int32)) (fun M_15 => b_X10_takeBack_203 M_15)) else (b_X10_takeBack_203 M)))))))))
set_option maxRecDepth 20000 in
set_option maxHeartbeats 2000000 in
theorem w_X10_takeBack_0 {x : xC} (C : CtC x RX10 cX10_takeBack 4 ({ frames := 0, cells := 0, slots := 0, locals := 0 } : Room)) (M : xM) (x1 : Int32) (x2 : Int32) (x3 : Int32)  (o : xM) (h : b_X10_takeBack_0 M x1 x2 x3 = some o) (hr : (x_me x).sig.returnType = none) (ev : x_rv x = none) (eM : x_M x = o) : J x M 0 [(0, .ref (x_ad x 0)), (1, .int x1), (2, .int x2), (3, .int x3)] [] := by
  unfold b_X10_takeBack_0 at h
  refine r_iload_n C.1 1 dX10_takeBack_0 rfl rfl ?_
  by_cases c_10 : x1 = (0 : Int32)
  · replace h := ite_T c_10 h
    refine r_tin C.1 c_10 52 dX10_takeBack_1 (by decide) (by decide) rfl (by decide) ?_
    refine r_aload_n C.1 0 dX10_takeBack_52 rfl rfl ?_
    refine gf_X10_26 C dX10_takeBack_53 ?_
    refine r_dup C.1 rfl dX10_takeBack_56 ?_
    refine gf_X10_104_17 C dX10_takeBack_57 ?_
    refine r_iconst (v := 1) C.1 dX10_takeBack_60 rfl ?_
    refine r_isub C.1 dX10_takeBack_61 ?_
    obtain ⟨M_2, eM_2, h⟩ := lt_E h
    refine pf_X10_104_17 C eM_2 dX10_takeBack_62 ?_
    refine r_goto C.1 203 dX10_takeBack_65 (by decide) ?_
    exact r_sub [] rfl (w_X10_takeBack_203 C M_2 _ h hr ev eM)
  · replace h := ite_F c_10 h
    by_cases c_11 : x1 = (1 : Int32)
    · replace h := ite_T c_11 h
      refine r_tin C.1 c_11 68 dX10_takeBack_1 (by decide) (by decide) rfl (by decide) ?_
      refine r_aload_n C.1 0 dX10_takeBack_68 rfl rfl ?_
      refine gf_X10_26 C dX10_takeBack_69 ?_
      refine gf_X10_107_17 C dX10_takeBack_72 ?_
      refine r_iload_n C.1 2 dX10_takeBack_75 rfl rfl ?_
      refine r_iload_n C.1 3 dX10_takeBack_76 rfl rfl ?_
      obtain ⟨q_3, h⟩ := gd_E h
      obtain ⟨M_4, eM_4, h⟩ := lt_E h
      refine r_iast C.1 (cK C (by decide)) (cS C (sh_19)) 0 (cT0 C) q_3 eM_4 dX10_takeBack_77 ?_
      refine r_goto C.1 203 dX10_takeBack_78 (by decide) ?_
      exact r_sub [] rfl (w_X10_takeBack_203 C M_4 _ h hr ev eM)
    · replace h := ite_F c_11 h
      by_cases c_12 : x1 = (2 : Int32)
      · replace h := ite_T c_12 h
        refine r_tin C.1 c_12 81 dX10_takeBack_1 (by decide) (by decide) rfl (by decide) ?_
        refine r_aload_n C.1 0 dX10_takeBack_81 rfl rfl ?_
        refine gf_X10_26 C dX10_takeBack_82 ?_
        refine r_dup C.1 rfl dX10_takeBack_85 ?_
        refine gf_X10_117_17 C dX10_takeBack_86 ?_
        refine r_iconst (v := 1) C.1 dX10_takeBack_89 rfl ?_
        refine r_isub C.1 dX10_takeBack_90 ?_
        obtain ⟨M_5, eM_5, h⟩ := lt_E h
        refine pf_X10_117_17 C eM_5 dX10_takeBack_91 ?_
        refine r_goto C.1 203 dX10_takeBack_94 (by decide) ?_
        exact r_sub [] rfl (w_X10_takeBack_203 C M_5 _ h hr ev eM)
      · replace h := ite_F c_12 h
        by_cases c_13 : x1 = (3 : Int32)
        · replace h := ite_T c_13 h
          refine r_tin C.1 c_13 97 dX10_takeBack_1 (by decide) (by decide) rfl (by decide) ?_
          refine r_aload_n C.1 0 dX10_takeBack_97 rfl rfl ?_
          refine gf_X10_26 C dX10_takeBack_98 ?_
          refine gf_X10_120_17 C dX10_takeBack_101 ?_
          refine r_iload_n C.1 2 dX10_takeBack_104 rfl rfl ?_
          obtain ⟨q_6, h⟩ := gd_E h
          refine r_aldq C.1 (cK C (by decide)) (cS C (sh_20)) 2 (cT2 C) q_6 (y := x_ad x (25 + 5 * x2.toNatClampNeg)) rfl dX10_takeBack_105 ?_
          refine r_dup C.1 rfl dX10_takeBack_106 ?_
          refine gfk_X10_145 C (kW_17 (vp_lt q_6)) dX10_takeBack_107 ?_
          refine r_iconst (v := 1) C.1 dX10_takeBack_110 rfl ?_
          refine r_isub C.1 dX10_takeBack_111 ?_
          obtain ⟨M_7, eM_7, h⟩ := lt_E h
          refine pfk_X10_145 C (kW_17 (vp_lt q_6)) eM_7 dX10_takeBack_112 ?_
          refine r_goto C.1 203 dX10_takeBack_115 (by decide) ?_
          exact r_sub [] rfl (w_X10_takeBack_203 C M_7 _ h hr ev eM)
        · replace h := ite_F c_13 h
          by_cases c_14 : x1 = (4 : Int32)
          · replace h := ite_T c_14 h
            refine r_tin C.1 c_14 118 dX10_takeBack_1 (by decide) (by decide) rfl (by decide) ?_
            refine r_aload_n C.1 0 dX10_takeBack_118 rfl rfl ?_
            refine gf_X10_26 C dX10_takeBack_119 ?_
            refine r_dup C.1 rfl dX10_takeBack_122 ?_
            refine gf_X10_246_17 C dX10_takeBack_123 ?_
            refine r_iconst (v := 1) C.1 dX10_takeBack_126 rfl ?_
            refine r_isub C.1 dX10_takeBack_127 ?_
            obtain ⟨M_8, eM_8, h⟩ := lt_E h
            refine pf_X10_246_17 C eM_8 dX10_takeBack_128 ?_
            refine r_goto C.1 203 dX10_takeBack_131 (by decide) ?_
            exact r_sub [] rfl (w_X10_takeBack_203 C M_8 _ h hr ev eM)
          · replace h := ite_F c_14 h
            by_cases c_15 : x1 = (5 : Int32)
            · replace h := ite_T c_15 h
              refine r_tin C.1 c_15 134 dX10_takeBack_1 (by decide) (by decide) rfl (by decide) ?_
              refine r_aload_n C.1 0 dX10_takeBack_134 rfl rfl ?_
              refine gf_X10_26 C dX10_takeBack_135 ?_
              refine r_dup C.1 rfl dX10_takeBack_138 ?_
              refine gf_X10_169_17 C dX10_takeBack_139 ?_
              refine r_iconst (v := 1) C.1 dX10_takeBack_142 rfl ?_
              refine r_isub C.1 dX10_takeBack_143 ?_
              obtain ⟨M_9, eM_9, h⟩ := lt_E h
              refine pf_X10_169_17 C eM_9 dX10_takeBack_144 ?_
              refine r_goto C.1 203 dX10_takeBack_147 (by decide) ?_
              exact r_sub [] rfl (w_X10_takeBack_203 C M_9 _ h hr ev eM)
            · replace h := ite_F c_15 h
              by_cases c_16 : x1 = (6 : Int32)
              · replace h := ite_T c_16 h
                refine r_tin C.1 c_16 150 dX10_takeBack_1 (by decide) (by decide) rfl (by decide) ?_
                refine r_aload_n C.1 0 dX10_takeBack_150 rfl rfl ?_
                refine gf_X10_26 C dX10_takeBack_151 ?_
                refine gf_X10_188_17 C dX10_takeBack_154 ?_
                refine r_iload_n C.1 2 dX10_takeBack_157 rfl rfl ?_
                obtain ⟨q_10, h⟩ := gd_E h
                refine r_aldq C.1 (cK C (by decide)) (cS C (sh_21)) 3 (cT3 C) q_10 (y := x_ad x (45 + x2.toNatClampNeg)) rfl dX10_takeBack_158 ?_
                refine r_iconst (v := 0) C.1 dX10_takeBack_159 rfl ?_
                obtain ⟨M_11, eM_11, h⟩ := lt_E h
                refine pfk_X10_199 C (kE_17 (vp_lt q_10)) (by decide) eM_11 dX10_takeBack_160 ?_
                refine r_goto C.1 203 dX10_takeBack_163 (by decide) ?_
                exact r_sub [] rfl (w_X10_takeBack_203 C M_11 _ h hr ev eM)
              · replace h := ite_F c_16 h
                by_cases c_17 : x1 = (7 : Int32)
                · replace h := ite_T c_17 h
                  refine r_tin C.1 c_17 166 dX10_takeBack_1 (by decide) (by decide) rfl (by decide) ?_
                  refine r_aload_n C.1 0 dX10_takeBack_166 rfl rfl ?_
                  refine gf_X10_26 C dX10_takeBack_167 ?_
                  refine gf_X10_120_17 C dX10_takeBack_170 ?_
                  refine r_iload_n C.1 2 dX10_takeBack_173 rfl rfl ?_
                  obtain ⟨q_12, h⟩ := gd_E h
                  refine r_aldq C.1 (cK C (by decide)) (cS C (sh_20)) 2 (cT2 C) q_12 (y := x_ad x (25 + 5 * x2.toNatClampNeg)) rfl dX10_takeBack_174 ?_
                  refine r_dup C.1 rfl dX10_takeBack_175 ?_
                  refine gfk_X10_208 C (kW_17 (vp_lt q_12)) dX10_takeBack_176 ?_
                  refine r_iconst (v := 1) C.1 dX10_takeBack_179 rfl ?_
                  refine r_isub C.1 dX10_takeBack_180 ?_
                  obtain ⟨M_13, eM_13, h⟩ := lt_E h
                  refine pfk_X10_208 C (kW_17 (vp_lt q_12)) eM_13 dX10_takeBack_181 ?_
                  refine r_goto C.1 203 dX10_takeBack_184 (by decide) ?_
                  exact r_sub [] rfl (w_X10_takeBack_203 C M_13 _ h hr ev eM)
                · replace h := ite_F c_17 h
                  by_cases c_18 : x1 = (8 : Int32)
                  · replace h := ite_T c_18 h
                    refine r_tin C.1 c_18 187 dX10_takeBack_1 (by decide) (by decide) rfl (by decide) ?_
                    refine r_aload_n C.1 0 dX10_takeBack_187 rfl rfl ?_
                    refine gf_X10_26 C dX10_takeBack_188 ?_
                    refine gf_X10_120_17 C dX10_takeBack_191 ?_
                    refine r_iload_n C.1 2 dX10_takeBack_194 rfl rfl ?_
                    obtain ⟨q_14, h⟩ := gd_E h
                    refine r_aldq C.1 (cK C (by decide)) (cS C (sh_20)) 2 (cT2 C) q_14 (y := x_ad x (25 + 5 * x2.toNatClampNeg)) rfl dX10_takeBack_195 ?_
                    refine r_iconst (v := 0) C.1 dX10_takeBack_196 rfl ?_
                    obtain ⟨M_15, eM_15, h⟩ := lt_E h
                    refine pfk_X10_205 C (kW_17 (vp_lt q_14)) (by decide) eM_15 dX10_takeBack_197 ?_
                    refine r_goto C.1 203 dX10_takeBack_200 (by decide) ?_
                    exact r_sub [] rfl (w_X10_takeBack_203 C M_15 _ h hr ev eM)
                  · replace h := ite_F c_18 h
                    have qc_10 := ne_toInt c_10
                    have qc_11 := ne_toInt c_11
                    have qc_12 := ne_toInt c_12
                    have qc_13 := ne_toInt c_13
                    have qc_14 := ne_toInt c_14
                    have qc_15 := ne_toInt c_15
                    have qc_16 := ne_toInt c_16
                    have qc_17 := ne_toInt c_17
                    have qc_18 := ne_toInt c_18
                    refine r_tout C.1 203 dX10_takeBack_1 (tout_0_8 qc_10 qc_11 qc_12 qc_13 qc_14 qc_15 qc_16 qc_17 qc_18) (by decide) ?_
                    exact r_sub [] rfl (w_X10_takeBack_203 C M _ h hr ev eM)
def f_X10_takeBack (M : xM) (x1 : Int32) (x2 : Int32) (x3 : Int32) : Option (xM) := b_X10_takeBack_0 M x1 x2 x3
set_option maxRecDepth 20000 in
theorem m_X10_takeBack (l : Launch) (D : va_G) (ad : Nat → Nat) (M : xM) (x1 : Int32) (x2 : Int32) (x3 : Int32)  {o : xM} (h : f_X10_takeBack M x1 x2 x3 = some o) : xMetC l yX10_takeBack cX10_takeBack 4 none ({ frames := 0, cells := 0, slots := 0, locals := 0 } : Room) [.ref (ad 0), .int x1, .int x2, .int x3] D ad M none o := by
  refine xMetC_of (own := RX10) (by decide) rfl (Nat.le_of_ble_eq_true rfl) ?_
  intro x C e1 e2 e3 ev eM hr
  subst e1; subst e2; subst e3
  refine r_sub (L := [(0, .ref (x_ad x 0)), (1, .int x1), (2, .int x2), (3, .int x3)]) (L' := [(0, .ref (x_ad x 0)), (1, .int x1), (2, .int x2), (3, .int x3)]) [0, 1, 2, 3] rfl ?_
  exact w_X10_takeBack_0 C M x1 x2 x3 _ h hr ev eM

def b_X10_undo_0 (M : xM)  : Option (Int32 × xM) :=
  if (M 6 0) = 0 then some ((-1 : Int32), M) else lt (uM M 6 0 ((M 6 0) - (1 : Int32))) (fun M_2 => gd (M_2 6 0) 10 (gd (M_2 6 0) 10 (gd (M_2 6 0) 10 (bd (f_X10_takeBack M_2 (M_2 7 (M_2 6 0).toNatClampNeg) (M_2 8 (M_2 6 0).toNatClampNeg) (M_2 9 (M_2 6 0).toNatClampNeg)) (fun M_8 => bd (f_X1_reckon M_8) (fun M_11 => some (M_11 6 0, M_11)))))))
set_option maxRecDepth 20000 in
set_option maxHeartbeats 2000000 in
theorem w_X10_undo_0 {x : xC} (C : CtC x RX10 cX10_undo 1 ({ frames := 4, cells := 0, slots := 0, locals := 90 } : Room)) (M : xM)   (o : Int32 × xM) (h : b_X10_undo_0 M = some o) (hr : (x_me x).sig.returnType = some .int) (ev : x_rv x = some (.int o.1)) (eM : x_M x = o.2) : J x M 0 [(0, .ref (x_ad x 0))] [] := by
  unfold b_X10_undo_0 at h
  refine r_aload_n C.1 0 dX10_undo_0 rfl rfl ?_
  refine gf_X10_40 C dX10_undo_1 ?_
  refine gf_X10_376 C dX10_undo_4 ?_
  refine r_if_ne C.1 12 dX10_undo_7 (by decide) (fun c_1 => ?_) (fun c_1 => ?_)
  · replace h := ite_F c_1 h
    refine r_aload_n C.1 0 dX10_undo_12 rfl rfl ?_
    refine gf_X10_40 C dX10_undo_13 ?_
    refine r_dup C.1 rfl dX10_undo_16 ?_
    refine gf_X10_376 C dX10_undo_17 ?_
    refine r_iconst (v := 1) C.1 dX10_undo_20 rfl ?_
    refine r_isub C.1 dX10_undo_21 ?_
    obtain ⟨M_2, eM_2, h⟩ := lt_E h
    refine pf_X10_376 C eM_2 dX10_undo_22 ?_
    refine r_aload_n C.1 0 dX10_undo_25 rfl rfl ?_
    refine r_aload_n C.1 0 dX10_undo_26 rfl rfl ?_
    refine gf_X10_40 C dX10_undo_27 ?_
    refine gf_X10_379 C dX10_undo_30 ?_
    refine r_aload_n C.1 0 dX10_undo_33 rfl rfl ?_
    refine gf_X10_40 C dX10_undo_34 ?_
    refine gf_X10_376 C dX10_undo_37 ?_
    obtain ⟨q_3, h⟩ := gd_E h
    refine r_iald C.1 (cK C (by decide)) (cS C (sh_7)) 0 (cT0 C) q_3 dX10_undo_40 ?_
    refine r_aload_n C.1 0 dX10_undo_41 rfl rfl ?_
    refine gf_X10_40 C dX10_undo_42 ?_
    refine gf_X10_381 C dX10_undo_45 ?_
    refine r_aload_n C.1 0 dX10_undo_48 rfl rfl ?_
    refine gf_X10_40 C dX10_undo_49 ?_
    refine gf_X10_376 C dX10_undo_52 ?_
    obtain ⟨q_4, h⟩ := gd_E h
    refine r_iald C.1 (cK C (by decide)) (cS C (sh_8)) 0 (cT0 C) q_4 dX10_undo_55 ?_
    refine r_aload_n C.1 0 dX10_undo_56 rfl rfl ?_
    refine gf_X10_40 C dX10_undo_57 ?_
    refine gf_X10_384 C dX10_undo_60 ?_
    refine r_aload_n C.1 0 dX10_undo_63 rfl rfl ?_
    refine gf_X10_40 C dX10_undo_64 ?_
    refine gf_X10_376 C dX10_undo_67 ?_
    obtain ⟨q_5, h⟩ := gd_E h
    refine r_iald C.1 (cK C (by decide)) (cS C (sh_9)) 0 (cT0 C) q_5 dX10_undo_70 ?_
    obtain ⟨M_8, hc_7, h⟩ := bd_E h
    refine cl_X10_387 C ⟨Nat.le_of_ble_eq_true rfl, Nat.le_of_ble_eq_true rfl⟩ (m_X10_takeBack _ _ _ M_2 (M_2 7 (M_2 6 0).toNatClampNeg) (M_2 8 (M_2 6 0).toNatClampNeg) (M_2 9 (M_2 6 0).toNatClampNeg) hc_7) (Nat.le_of_ble_eq_true rfl) dX10_undo_71 ?_
    refine r_aload_n C.1 0 dX10_undo_74 rfl rfl ?_
    refine gf_X10_26 C dX10_undo_75 ?_
    obtain ⟨M_11, hc_10, h⟩ := bd_E h
    refine cl_X10_182 C ⟨Nat.le_of_ble_eq_true rfl, Nat.le_of_ble_eq_true rfl⟩ (m_X1_reckon _ _ _ M_8 hc_10) (Nat.le_of_ble_eq_true rfl) dX10_undo_78 ?_
    refine r_aload_n C.1 0 dX10_undo_81 rfl rfl ?_
    refine gf_X10_40 C dX10_undo_82 ?_
    refine gf_X10_376 C dX10_undo_85 ?_
    obtain rfl := Option.some.inj h
    exact r_iret C.1 hr ev eM dX10_undo_88
  · replace h := ite_T c_1 h
    refine r_iconst (v := -1) C.1 dX10_undo_10 rfl ?_
    obtain rfl := Option.some.inj h
    exact r_iret C.1 hr ev eM dX10_undo_11
def f_X10_undo (M : xM)  : Option (Int32 × xM) := b_X10_undo_0 M 
set_option maxRecDepth 20000 in
theorem m_X10_undo (l : Launch) (D : va_G) (ad : Nat → Nat) (M : xM)   {r : Int32} {M1 : xM} (h : f_X10_undo M = some (r, M1)) : xMetC l yX10_undo cX10_undo 1 (some .int) ({ frames := 4, cells := 0, slots := 0, locals := 90 } : Room) [.ref (ad 0)] D ad M (some (.int r)) M1 := by
  refine xMetC_of (own := RX10) (by decide) rfl (Nat.le_of_ble_eq_true rfl) ?_
  intro x C e1 e2 e3 ev eM hr
  subst e1; subst e2; subst e3
  refine r_sub (L := [(0, .ref (x_ad x 0))]) (L' := [(0, .ref (x_ad x 0))]) [0] rfl ?_
  exact w_X10_undo_0 C M _ h hr ev eM

def b_X10_image_0 (M : xM)  : Option (Int32 × xM) :=
  bd (f_X1_become M 97 17) (fun M_3 => lt (uM M_3 0 4 (1 : Int32)) (fun M_4 => some (M_4 97 5, M_4)))
set_option maxRecDepth 20000 in
set_option maxHeartbeats 2000000 in
theorem w_X10_image_0 {x : xC} (C : CtC x RX10 cX10_image 1 ({ frames := 4, cells := 0, slots := 0, locals := 104 } : Room)) (M : xM)   (o : Int32 × xM) (h : b_X10_image_0 M = some o) (hr : (x_me x).sig.returnType = some .int) (ev : x_rv x = some (.int o.1)) (eM : x_M x = o.2) : J x M 0 [(0, .ref (x_ad x 0))] [] := by
  unfold b_X10_image_0 at h
  refine r_aload_n C.1 0 dX10_image_0 rfl rfl ?_
  refine gf_X10_30 C dX10_image_1 ?_
  refine r_aload_n C.1 0 dX10_image_4 rfl rfl ?_
  refine gf_X10_26 C dX10_image_5 ?_
  obtain ⟨M_3, hc_2, h⟩ := bd_E h
  refine cl_X10_390 C (Or.inr rfl) ⟨Nat.le_of_ble_eq_true rfl, Nat.le_of_ble_eq_true rfl⟩ (m_X1_become _ _ _ M 97 17 (Or.inr rfl) (Or.inl rfl) hc_2) (Nat.le_of_ble_eq_true rfl) dX10_image_8 ?_
  refine r_aload_n C.1 0 dX10_image_11 rfl rfl ?_
  refine r_iconst (v := 1) C.1 dX10_image_12 rfl ?_
  obtain ⟨M_4, eM_4, h⟩ := lt_E h
  refine pf_X10_33 C (by decide) eM_4 dX10_image_13 ?_
  refine r_aload_n C.1 0 dX10_image_16 rfl rfl ?_
  refine gf_X10_30 C dX10_image_17 ?_
  refine gf_X10_246_97 C dX10_image_20 ?_
  obtain rfl := Option.some.inj h
  exact r_iret C.1 hr ev eM dX10_image_23
def f_X10_image (M : xM)  : Option (Int32 × xM) := b_X10_image_0 M 
set_option maxRecDepth 20000 in
theorem m_X10_image (l : Launch) (D : va_G) (ad : Nat → Nat) (M : xM)   {r : Int32} {M1 : xM} (h : f_X10_image M = some (r, M1)) : xMetC l yX10_image cX10_image 1 (some .int) ({ frames := 4, cells := 0, slots := 0, locals := 104 } : Room) [.ref (ad 0)] D ad M (some (.int r)) M1 := by
  refine xMetC_of (own := RX10) (by decide) rfl (Nat.le_of_ble_eq_true rfl) ?_
  intro x C e1 e2 e3 ev eM hr
  subst e1; subst e2; subst e3
  refine r_sub (L := [(0, .ref (x_ad x 0))]) (L' := [(0, .ref (x_ad x 0))]) [0] rfl ?_
  exact w_X10_image_0 C M _ h hr ev eM

def b_X10_back_0 (M : xM)  : Option (Int32 × xM) :=
  if (M 0 4) = 0 then some ((-1 : Int32), M) else bd (f_X1_become M 17 97) (fun M_4 => bd (f_X0_forgetAll M_4) (fun M_7 => some (M_7 17 5, M_7)))
set_option maxRecDepth 20000 in
set_option maxHeartbeats 2000000 in
theorem w_X10_back_0 {x : xC} (C : CtC x RX10 cX10_back 1 ({ frames := 4, cells := 0, slots := 0, locals := 104 } : Room)) (M : xM)   (o : Int32 × xM) (h : b_X10_back_0 M = some o) (hr : (x_me x).sig.returnType = some .int) (ev : x_rv x = some (.int o.1)) (eM : x_M x = o.2) : J x M 0 [(0, .ref (x_ad x 0))] [] := by
  unfold b_X10_back_0 at h
  refine r_aload_n C.1 0 dX10_back_0 rfl rfl ?_
  refine gf_X10_33 C dX10_back_1 ?_
  refine r_if_ne C.1 9 dX10_back_4 (by decide) (fun c_1 => ?_) (fun c_1 => ?_)
  · replace h := ite_F c_1 h
    refine r_aload_n C.1 0 dX10_back_9 rfl rfl ?_
    refine gf_X10_26 C dX10_back_10 ?_
    refine r_aload_n C.1 0 dX10_back_13 rfl rfl ?_
    refine gf_X10_30 C dX10_back_14 ?_
    obtain ⟨M_4, hc_3, h⟩ := bd_E h
    refine cl_X10_390 C (Or.inl rfl) ⟨Nat.le_of_ble_eq_true rfl, Nat.le_of_ble_eq_true rfl⟩ (m_X1_become _ _ _ M 17 97 (Or.inl rfl) (Or.inr rfl) hc_3) (Nat.le_of_ble_eq_true rfl) dX10_back_17 ?_
    refine r_aload_n C.1 0 dX10_back_20 rfl rfl ?_
    refine gf_X10_40 C dX10_back_21 ?_
    obtain ⟨M_7, hc_6, h⟩ := bd_E h
    refine cl_X10_84 C ⟨Nat.le_of_ble_eq_true rfl, Nat.le_of_ble_eq_true rfl⟩ (m_X0_forgetAll _ _ _ M_4 hc_6) (Nat.le_of_ble_eq_true rfl) dX10_back_24 ?_
    refine r_aload_n C.1 0 dX10_back_27 rfl rfl ?_
    refine gf_X10_26 C dX10_back_28 ?_
    refine gf_X10_246_17 C dX10_back_31 ?_
    obtain rfl := Option.some.inj h
    exact r_iret C.1 hr ev eM dX10_back_34
  · replace h := ite_T c_1 h
    refine r_iconst (v := -1) C.1 dX10_back_7 rfl ?_
    obtain rfl := Option.some.inj h
    exact r_iret C.1 hr ev eM dX10_back_8
def f_X10_back (M : xM)  : Option (Int32 × xM) := b_X10_back_0 M 
set_option maxRecDepth 20000 in
theorem m_X10_back (l : Launch) (D : va_G) (ad : Nat → Nat) (M : xM)   {r : Int32} {M1 : xM} (h : f_X10_back M = some (r, M1)) : xMetC l yX10_back cX10_back 1 (some .int) ({ frames := 4, cells := 0, slots := 0, locals := 104 } : Room) [.ref (ad 0)] D ad M (some (.int r)) M1 := by
  refine xMetC_of (own := RX10) (by decide) rfl (Nat.le_of_ble_eq_true rfl) ?_
  intro x C e1 e2 e3 ev eM hr
  subst e1; subst e2; subst e3
  refine r_sub (L := [(0, .ref (x_ad x 0))]) (L' := [(0, .ref (x_ad x 0))]) [0] rfl ?_
  exact w_X10_back_0 C M _ h hr ev eM

def b_X10_status_19 (M : xM) (s0 : Int32) : Option (Int32) :=
  some s0
set_option maxRecDepth 20000 in
set_option maxHeartbeats 2000000 in
theorem w_X10_status_19 {x : xC} (C : CtC x RX10 cX10_status 2 ({ frames := 0, cells := 0, slots := 0, locals := 0 } : Room)) (M : xM) (s0 : Int32)  (o : Int32) (h : b_X10_status_19 M s0 = some o) (hr : (x_me x).sig.returnType = some .int) (ev : x_rv x = some (.int o)) (eM : x_M x = M) : J x M 19 [] [.int s0] := by
  unfold b_X10_status_19 at h
  obtain rfl := Option.some.inj h
  exact r_iret C.1 hr ev eM dX10_status_19

def b_X10_status_9 (M : xM)  : Option (Int32) :=
  b_X10_status_19 M (-1 : Int32)
set_option maxRecDepth 20000 in
set_option maxHeartbeats 2000000 in
theorem w_X10_status_9 {x : xC} (C : CtC x RX10 cX10_status 2 ({ frames := 0, cells := 0, slots := 0, locals := 0 } : Room)) (M : xM)   (o : Int32) (h : b_X10_status_9 M = some o) (hr : (x_me x).sig.returnType = some .int) (ev : x_rv x = some (.int o)) (eM : x_M x = M) : J x M 9 [] [] := by
  unfold b_X10_status_9 at h
  refine r_iconst (v := -1) C.1 dX10_status_9 rfl ?_
  refine r_goto C.1 19 dX10_status_10 (by decide) ?_
  exact r_sub [] rfl (w_X10_status_19 C M (-1 : Int32) _ h hr ev eM)

def b_X10_status_0 (M : xM) (x1 : Int32) : Option (Int32) :=
  if x1 < 0 then b_X10_status_9 M else if x1 < (5 : Int32) then gd x1 5 (b_X10_status_19 M (M 10 x1.toNatClampNeg)) else b_X10_status_9 M
set_option maxRecDepth 20000 in
set_option maxHeartbeats 2000000 in
theorem w_X10_status_0 {x : xC} (C : CtC x RX10 cX10_status 2 ({ frames := 0, cells := 0, slots := 0, locals := 0 } : Room)) (M : xM) (x1 : Int32)  (o : Int32) (h : b_X10_status_0 M x1 = some o) (hr : (x_me x).sig.returnType = some .int) (ev : x_rv x = some (.int o)) (eM : x_M x = M) : J x M 0 [(0, .ref (x_ad x 0)), (1, .int x1)] [] := by
  unfold b_X10_status_0 at h
  refine r_iload_n C.1 1 dX10_status_0 rfl rfl ?_
  refine r_if_lt C.1 9 dX10_status_1 (by decide) (fun c_1 => ?_) (fun c_1 => ?_)
  · replace h := ite_T c_1 h
    exact r_sub [] rfl (w_X10_status_9 C M _ h hr ev eM)
  · replace h := ite_F c_1 h
    refine r_iload_n C.1 1 dX10_status_4 rfl rfl ?_
    refine r_iconst (v := 5) C.1 dX10_status_5 rfl ?_
    refine r_icmp_lt C.1 13 dX10_status_6 (by decide) (fun c_2 => ?_) (fun c_2 => ?_)
    · replace h := ite_T c_2 h
      refine r_aload_n C.1 0 dX10_status_13 rfl rfl ?_
      refine gf_X10_44 C dX10_status_14 ?_
      refine r_iload_n C.1 1 dX10_status_17 rfl rfl ?_
      obtain ⟨q_3, h⟩ := gd_E h
      refine r_iald C.1 (cK C (by decide)) (cS C (sh_10)) 0 (cT0 C) q_3 dX10_status_18 ?_
      exact r_sub [] rfl (w_X10_status_19 C M (M 10 x1.toNatClampNeg) _ h hr ev eM)
    · replace h := ite_F c_2 h
      exact r_sub [] rfl (w_X10_status_9 C M _ h hr ev eM)
def f_X10_status (M : xM) (x1 : Int32) : Option (Int32) := b_X10_status_0 M x1
set_option maxRecDepth 20000 in
theorem m_X10_status (l : Launch) (D : va_G) (ad : Nat → Nat) (M : xM) (x1 : Int32)  {o : Int32} (h : f_X10_status M x1 = some o) : xMetC l yX10_status cX10_status 2 (some .int) ({ frames := 0, cells := 0, slots := 0, locals := 0 } : Room) [.ref (ad 0), .int x1] D ad M (some (.int o)) M := by
  refine xMetC_of (own := RX10) (by decide) rfl (Nat.le_of_ble_eq_true rfl) ?_
  intro x C e1 e2 e3 ev eM hr
  subst e1; subst e2; subst e3
  refine r_sub (L := [(0, .ref (x_ad x 0)), (1, .int x1)]) (L' := [(0, .ref (x_ad x 0)), (1, .int x1)]) [0, 1] rfl ?_
  exact w_X10_status_0 C M x1 _ h hr ev eM

def b_X10_sizeOf_0 (M : xM) (x1 : Int32) (x2 : Int32) (x3 : Int32) : Option (Int32 × xM) :=
  if x3 = (0 : Int32) then bd (f_X1_estateOn M x1 x2) (fun r_2 => some (r_2, M)) else (if x3 = (1 : Int32) then bd2 (f_X10_idleOn M x1 x2) (fun r_4 M_6 => some (r_4, M_6)) else (bd2 (f_X10_shortOf M x1 x2) (fun r_7 M_9 => some (r_7, M_9))))
set_option maxRecDepth 20000 in
set_option maxHeartbeats 2000000 in
theorem w_X10_sizeOf_0 {x : xC} (C : CtC x RX10 cX10_sizeOf 4 ({ frames := 5, cells := 0, slots := 0, locals := 122 } : Room)) (M : xM) (x1 : Int32) (x2 : Int32) (x3 : Int32)  (o : Int32 × xM) (h : b_X10_sizeOf_0 M x1 x2 x3 = some o) (hr : (x_me x).sig.returnType = some .int) (ev : x_rv x = some (.int o.1)) (eM : x_M x = o.2) : J x M 0 [(0, .ref (x_ad x 0)), (1, .int x1), (2, .int x2), (3, .int x3)] [] := by
  unfold b_X10_sizeOf_0 at h
  refine r_iload_n C.1 3 dX10_sizeOf_0 rfl rfl ?_
  by_cases c_10 : x3 = (0 : Int32)
  · replace h := ite_T c_10 h
    refine r_lin C.1 (off := 27) 28 dX10_sizeOf_1 (by decide) (by rw [c_10]; decide) (by decide) ?_
    refine r_aload_n C.1 0 dX10_sizeOf_28 rfl rfl ?_
    refine gf_X10_26 C dX10_sizeOf_29 ?_
    refine r_iload_n C.1 1 dX10_sizeOf_32 rfl rfl ?_
    refine r_iload_n C.1 2 dX10_sizeOf_33 rfl rfl ?_
    obtain ⟨r_2, hc_3, h⟩ := bd_E h
    refine cl_X10_232 C ⟨Nat.le_of_ble_eq_true rfl, Nat.le_of_ble_eq_true rfl⟩ (m_X1_estateOn _ _ _ M x1 x2 hc_3) (Nat.le_of_ble_eq_true rfl) dX10_sizeOf_34 ?_
    obtain rfl := Option.some.inj h
    exact r_iret C.1 hr ev eM dX10_sizeOf_37
  · replace h := ite_F c_10 h
    by_cases c_11 : x3 = (1 : Int32)
    · replace h := ite_T c_11 h
      refine r_lin C.1 (off := 37) 38 dX10_sizeOf_1 (by decide) (by rw [c_11]; decide) (by decide) ?_
      refine r_aload_n C.1 0 dX10_sizeOf_38 rfl rfl ?_
      refine r_iload_n C.1 1 dX10_sizeOf_39 rfl rfl ?_
      refine r_iload_n C.1 2 dX10_sizeOf_40 rfl rfl ?_
      obtain ⟨r_4, M_6, hc_5, h⟩ := bd2_E h
      refine cl_X10_236 C ⟨Nat.le_of_ble_eq_true rfl, Nat.le_of_ble_eq_true rfl⟩ (m_X10_idleOn _ _ _ M x1 x2 hc_5) (Nat.le_of_ble_eq_true rfl) dX10_sizeOf_41 ?_
      obtain rfl := Option.some.inj h
      exact r_iret C.1 hr ev eM dX10_sizeOf_44
    · replace h := ite_F c_11 h
      have qc_10 := ne_toInt c_10
      have qc_11 := ne_toInt c_11
      refine r_lin C.1 (off := 44) 45 dX10_sizeOf_1 (by decide) (lout_0_1 qc_10 qc_11) (by decide) ?_
      refine r_aload_n C.1 0 dX10_sizeOf_45 rfl rfl ?_
      refine r_iload_n C.1 1 dX10_sizeOf_46 rfl rfl ?_
      refine r_iload_n C.1 2 dX10_sizeOf_47 rfl rfl ?_
      obtain ⟨r_7, M_9, hc_8, h⟩ := bd2_E h
      refine cl_X10_320 C ⟨Nat.le_of_ble_eq_true rfl, Nat.le_of_ble_eq_true rfl⟩ (m_X10_shortOf _ _ _ M x1 x2 hc_8) (Nat.le_of_ble_eq_true rfl) dX10_sizeOf_48 ?_
      obtain rfl := Option.some.inj h
      exact r_iret C.1 hr ev eM dX10_sizeOf_51
def f_X10_sizeOf (M : xM) (x1 : Int32) (x2 : Int32) (x3 : Int32) : Option (Int32 × xM) := b_X10_sizeOf_0 M x1 x2 x3
set_option maxRecDepth 20000 in
theorem m_X10_sizeOf (l : Launch) (D : va_G) (ad : Nat → Nat) (M : xM) (x1 : Int32) (x2 : Int32) (x3 : Int32)  {r : Int32} {M1 : xM} (h : f_X10_sizeOf M x1 x2 x3 = some (r, M1)) : xMetC l yX10_sizeOf cX10_sizeOf 4 (some .int) ({ frames := 5, cells := 0, slots := 0, locals := 122 } : Room) [.ref (ad 0), .int x1, .int x2, .int x3] D ad M (some (.int r)) M1 := by
  refine xMetC_of (own := RX10) (by decide) rfl (Nat.le_of_ble_eq_true rfl) ?_
  intro x C e1 e2 e3 ev eM hr
  subst e1; subst e2; subst e3
  refine r_sub (L := [(0, .ref (x_ad x 0)), (1, .int x1), (2, .int x2), (3, .int x3)]) (L' := [(0, .ref (x_ad x 0)), (1, .int x1), (2, .int x2), (3, .int x3)]) [0, 1, 2, 3] rfl ?_
  exact w_X10_sizeOf_0 C M x1 x2 x3 _ h hr ev eM

def b_X10_most_16 (M : xM)  : Option (Int32 × xM) :=
  some ((-1 : Int32), M)
set_option maxRecDepth 20000 in
set_option maxHeartbeats 2000000 in
theorem w_X10_most_16 {x : xC} (C : CtC x RX10 cX10_most 8 ({ frames := 6, cells := 0, slots := 0, locals := 145 } : Room)) (M : xM)   (o : Int32 × xM) (h : b_X10_most_16 M = some o) (hr : (x_me x).sig.returnType = some .int) (ev : x_rv x = some (.int o.1)) (eM : x_M x = o.2) : J x M 16 [] [] := by
  unfold b_X10_most_16 at h
  refine r_iconst (v := -1) C.1 dX10_most_16 rfl ?_
  obtain rfl := Option.some.inj h
  exact r_iret C.1 hr ev eM dX10_most_17

def b_X10_most_86 (M : xM) (x1 : Int32) (x2 : Int32) (x3 : Int32) (x4 : Int32) (x5 : Int32) (x6 : Int32) : Option ((xM × Int32 × Int32 × Int32) ⊕ (xM × Int32)) :=
  lt (x6 + (1 : Int32)) (fun y_1 => some (.inl (M, x3, x4, y_1)))
set_option maxRecDepth 20000 in
set_option maxHeartbeats 2000000 in
theorem w_X10_most_86 {x : xC} (C : CtC x RX10 cX10_most 8 ({ frames := 6, cells := 0, slots := 0, locals := 145 } : Room)) (M : xM) (x1 : Int32) (x2 : Int32) (x3 : Int32) (x4 : Int32) (x5 : Int32) (x6 : Int32)  (o : (xM × Int32 × Int32 × Int32) ⊕ (xM × Int32)) (h : b_X10_most_86 M x1 x2 x3 x4 x5 x6 = some o) (kh : ∀ s : xM × Int32 × Int32 × Int32, o = .inl s → J x s.1 50 [(0, .ref (x_ad x 0)), (1, .int x1), (2, .int x2), (3, .int s.2.1), (4, .int s.2.2.1), (5, .int x5), (6, .int s.2.2.2)] []) (ke_0 : ∀ v : xM × Int32, o = .inr v → J x v.1 92 [(3, .int v.2)] []) : J x M 86 [(0, .ref (x_ad x 0)), (1, .int x1), (2, .int x2), (3, .int x3), (4, .int x4), (5, .int x5), (6, .int x6)] [] := by
  unfold b_X10_most_86 at h
  obtain ⟨y_1, ey_1, h⟩ := lt_E h
  refine r_iinc C.1 6 [(6, .int y_1), (0, .ref (x_ad x 0)), (1, .int x1), (2, .int x2), (3, .int x3), (4, .int x4), (5, .int x5)] dX10_most_86 rfl ey_1 (by decide) rfl ?_
  refine r_goto C.1 50 dX10_most_89 (by decide) ?_
  exact r_sub [1, 2, 3, 4, 5, 6, 0] rfl (kh _ (Option.some.inj h).symm)

def b_X10_most_79 (M : xM) (x1 : Int32) (x2 : Int32) (x5 : Int32) (x6 : Int32) (x7 : Int32) : Option ((xM × Int32 × Int32 × Int32) ⊕ (xM × Int32)) :=
  b_X10_most_86 M x1 x2 x6 x7 x5 x6
set_option maxRecDepth 20000 in
set_option maxHeartbeats 2000000 in
theorem w_X10_most_79 {x : xC} (C : CtC x RX10 cX10_most 8 ({ frames := 6, cells := 0, slots := 0, locals := 145 } : Room)) (M : xM) (x1 : Int32) (x2 : Int32) (x5 : Int32) (x6 : Int32) (x7 : Int32)  (o : (xM × Int32 × Int32 × Int32) ⊕ (xM × Int32)) (h : b_X10_most_79 M x1 x2 x5 x6 x7 = some o) (kh : ∀ s : xM × Int32 × Int32 × Int32, o = .inl s → J x s.1 50 [(0, .ref (x_ad x 0)), (1, .int x1), (2, .int x2), (3, .int s.2.1), (4, .int s.2.2.1), (5, .int x5), (6, .int s.2.2.2)] []) (ke_0 : ∀ v : xM × Int32, o = .inr v → J x v.1 92 [(3, .int v.2)] []) : J x M 79 [(0, .ref (x_ad x 0)), (1, .int x1), (2, .int x2), (5, .int x5), (6, .int x6), (7, .int x7)] [] := by
  unfold b_X10_most_79 at h
  refine r_iload C.1 4 dX10_most_79 rfl ?_
  refine r_istore_n C.1 [(3, .int x6), (0, .ref (x_ad x 0)), (1, .int x1), (2, .int x2), (5, .int x5), (6, .int x6), (7, .int x7)] dX10_most_81 rfl (by decide) rfl rfl ?_
  refine r_iload C.1 6 dX10_most_82 rfl ?_
  refine r_istore C.1 [(4, .int x7), (3, .int x6), (0, .ref (x_ad x 0)), (1, .int x1), (2, .int x2), (5, .int x5), (6, .int x6), (7, .int x7)] dX10_most_84 (by decide) rfl rfl ?_
  exact r_sub [2, 3, 4, 1, 0, 5, 6] rfl (w_X10_most_86 C M x1 x2 x6 x7 x5 x6 _ h kh ke_0)

def bl_X10_most_50 (M : xM) (x1 : Int32) (x2 : Int32) (x3 : Int32) (x4 : Int32) (x5 : Int32) (x6 : Int32) : Option ((xM × Int32 × Int32 × Int32) ⊕ (xM × Int32)) :=
  if x5 ≤ x6 then some (.inr (M, x3)) else bd2 (f_X10_sizeOf M x6 x1 x2) (fun r_2 M_4 => if x3 = (-1 : Int32) then b_X10_most_79 M_4 x1 x2 x5 x6 r_2 else if r_2 ≤ x4 then b_X10_most_86 M_4 x1 x2 x3 x4 x5 x6 else b_X10_most_79 M_4 x1 x2 x5 x6 r_2)
set_option maxRecDepth 20000 in
set_option maxHeartbeats 2000000 in
theorem wl_X10_most_50 {x : xC} (C : CtC x RX10 cX10_most 8 ({ frames := 6, cells := 0, slots := 0, locals := 145 } : Room)) (M : xM) (x1 : Int32) (x2 : Int32) (x3 : Int32) (x4 : Int32) (x5 : Int32) (x6 : Int32)  (o : (xM × Int32 × Int32 × Int32) ⊕ (xM × Int32)) (h : bl_X10_most_50 M x1 x2 x3 x4 x5 x6 = some o) (kh : ∀ s : xM × Int32 × Int32 × Int32, o = .inl s → J x s.1 50 [(0, .ref (x_ad x 0)), (1, .int x1), (2, .int x2), (3, .int s.2.1), (4, .int s.2.2.1), (5, .int x5), (6, .int s.2.2.2)] []) (ke_0 : ∀ v : xM × Int32, o = .inr v → J x v.1 92 [(3, .int v.2)] []) : J x M 50 [(0, .ref (x_ad x 0)), (1, .int x1), (2, .int x2), (3, .int x3), (4, .int x4), (5, .int x5), (6, .int x6)] [] := by
  unfold bl_X10_most_50 at h
  refine r_iload C.1 6 dX10_most_50 rfl ?_
  refine r_iload C.1 5 dX10_most_52 rfl ?_
  refine r_icmp_ge C.1 92 dX10_most_54 (by decide) (fun c_1 => ?_) (fun c_1 => ?_)
  · replace h := ite_T c_1 h
    exact r_sub [3] rfl (ke_0 _ (Option.some.inj h).symm)
  · replace h := ite_F c_1 h
    refine r_aload_n C.1 0 dX10_most_57 rfl rfl ?_
    refine r_iload C.1 6 dX10_most_58 rfl ?_
    refine r_iload_n C.1 1 dX10_most_60 rfl rfl ?_
    refine r_iload_n C.1 2 dX10_most_61 rfl rfl ?_
    obtain ⟨r_2, M_4, hc_3, h⟩ := bd2_E h
    refine cl_X10_394 C ⟨Nat.le_of_ble_eq_true rfl, Nat.le_of_ble_eq_true rfl⟩ (m_X10_sizeOf _ _ _ M x6 x1 x2 hc_3) (Nat.le_of_ble_eq_true rfl) dX10_most_62 ?_
    refine r_istore C.1 [(7, .int r_2), (0, .ref (x_ad x 0)), (1, .int x1), (2, .int x2), (3, .int x3), (4, .int x4), (5, .int x5), (6, .int x6)] dX10_most_65 (by decide) rfl rfl ?_
    refine r_iload_n C.1 4 dX10_most_67 rfl rfl ?_
    refine r_iconst (v := -1) C.1 dX10_most_68 rfl ?_
    refine r_icmp_eq C.1 79 dX10_most_69 (by decide) (fun c_5 => ?_) (fun c_5 => ?_)
    · replace h := ite_T c_5 h
      exact r_sub [1, 2, 3, 6, 7, 0] rfl (w_X10_most_79 C M_4 x1 x2 x5 x6 r_2 _ h kh ke_0)
    · replace h := ite_F c_5 h
      refine r_iload C.1 0 dX10_most_72 rfl ?_
      refine r_iload C.1 5 dX10_most_74 rfl ?_
      refine r_icmp_le C.1 86 dX10_most_76 (by decide) (fun c_6 => ?_) (fun c_6 => ?_)
      · replace h := ite_T c_6 h
        exact r_sub [1, 2, 3, 4, 5, 6, 7] rfl (w_X10_most_86 C M_4 x1 x2 x3 x4 x5 x6 _ h kh ke_0)
      · replace h := ite_F c_6 h
        exact r_sub [1, 2, 3, 6, 7, 0] rfl (w_X10_most_79 C M_4 x1 x2 x5 x6 r_2 _ h kh ke_0)

def b_X10_most_50 (M : xM) (x1 : Int32) (x2 : Int32) (x3 : Int32) (x4 : Int32) (x5 : Int32) (x6 : Int32) : Option (Int32 × xM) :=
  bd (loopN (fun s : xM × Int32 × Int32 × Int32 => bl_X10_most_50 s.1 x1 x2 s.2.1 s.2.2.1 x5 s.2.2.2) BG (M, x3, x4, x6)) (fun v => some (v.2, v.1))
set_option maxRecDepth 20000 in
set_option maxHeartbeats 2000000 in
theorem w_X10_most_50 {x : xC} (C : CtC x RX10 cX10_most 8 ({ frames := 6, cells := 0, slots := 0, locals := 145 } : Room)) (M : xM) (x1 : Int32) (x2 : Int32) (x3 : Int32) (x4 : Int32) (x5 : Int32) (x6 : Int32)  (o : Int32 × xM) (h : b_X10_most_50 M x1 x2 x3 x4 x5 x6 = some o) (hr : (x_me x).sig.returnType = some .int) (ev : x_rv x = some (.int o.1)) (eM : x_M x = o.2) : J x M 50 [(0, .ref (x_ad x 0)), (1, .int x1), (2, .int x2), (3, .int x3), (4, .int x4), (5, .int x5), (6, .int x6)] [] := by
  unfold b_X10_most_50 at h
  obtain ⟨r_0, hr_0, h⟩ := bd_E h
  refine loopN_ind (JJ := fun s => J x s.1 50 [(0, .ref (x_ad x 0)), (1, .int x1), (2, .int x2), (3, .int s.2.1), (4, .int s.2.2.1), (5, .int x5), (6, .int s.2.2.2)] []) (KX := fun q => q = r_0) ?_ BG (M, x3, x4, x6) r_0 hr_0 rfl
  intro s o1 hb kk1 kk2
  refine wl_X10_most_50 C s.1 x1 x2 s.2.1 s.2.2.1 x5 s.2.2.2 _ hb kk1 ?_
  · intro v e0
    have e1 := kk2 _ e0
    subst e1
    refine r_iload_n C.1 0 dX10_most_92 rfl rfl ?_
    obtain rfl := Option.some.inj h
    exact r_iret C.1 hr ev eM dX10_most_93

def b_X10_most_45 (M : xM) (x1 : Int32) (x2 : Int32) (x3 : Int32) (x4 : Int32) (s0 : Int32) : Option (Int32 × xM) :=
  b_X10_most_50 M x1 x2 x3 x4 s0 (0 : Int32)
set_option maxRecDepth 20000 in
set_option maxHeartbeats 2000000 in
theorem w_X10_most_45 {x : xC} (C : CtC x RX10 cX10_most 8 ({ frames := 6, cells := 0, slots := 0, locals := 145 } : Room)) (M : xM) (x1 : Int32) (x2 : Int32) (x3 : Int32) (x4 : Int32) (s0 : Int32)  (o : Int32 × xM) (h : b_X10_most_45 M x1 x2 x3 x4 s0 = some o) (hr : (x_me x).sig.returnType = some .int) (ev : x_rv x = some (.int o.1)) (eM : x_M x = o.2) : J x M 45 [(0, .ref (x_ad x 0)), (1, .int x1), (2, .int x2), (3, .int x3), (4, .int x4)] [.int s0] := by
  unfold b_X10_most_45 at h
  refine r_istore C.1 [(5, .int s0), (0, .ref (x_ad x 0)), (1, .int x1), (2, .int x2), (3, .int x3), (4, .int x4)] dX10_most_45 (by decide) rfl rfl ?_
  refine r_iconst (v := 0) C.1 dX10_most_47 rfl ?_
  refine r_istore C.1 [(6, .int (0 : Int32)), (5, .int s0), (0, .ref (x_ad x 0)), (1, .int x1), (2, .int x2), (3, .int x3), (4, .int x4)] dX10_most_48 (by decide) rfl rfl ?_
  exact r_sub [2, 3, 4, 5, 6, 1, 0] rfl (w_X10_most_50 C M x1 x2 x3 x4 s0 (0 : Int32) _ h hr ev eM)

def b_X10_most_0 (M : xM) (x1 : Int32) (x2 : Int32) : Option (Int32 × xM) :=
  bd (f_X10_isDay M x1) (fun r_1 => if r_1 = 0 then b_X10_most_16 M else if x2 < 0 then b_X10_most_16 M else if x2 ≤ (2 : Int32) then if x2 = (2 : Int32) then b_X10_most_45 M x1 x2 (-1 : Int32) (0 : Int32) (M 17 1) else b_X10_most_45 M x1 x2 (-1 : Int32) (0 : Int32) (M 17 3) else b_X10_most_16 M)
set_option maxRecDepth 20000 in
set_option maxHeartbeats 2000000 in
theorem w_X10_most_0 {x : xC} (C : CtC x RX10 cX10_most 8 ({ frames := 6, cells := 0, slots := 0, locals := 145 } : Room)) (M : xM) (x1 : Int32) (x2 : Int32)  (o : Int32 × xM) (h : b_X10_most_0 M x1 x2 = some o) (hr : (x_me x).sig.returnType = some .int) (ev : x_rv x = some (.int o.1)) (eM : x_M x = o.2) : J x M 0 [(0, .ref (x_ad x 0)), (1, .int x1), (2, .int x2)] [] := by
  unfold b_X10_most_0 at h
  refine r_iload_n C.1 1 dX10_most_0 rfl rfl ?_
  obtain ⟨r_1, hc_2, h⟩ := bd_E h
  refine cl_X10_133 C ⟨Nat.le_of_ble_eq_true rfl, Nat.le_of_ble_eq_true rfl⟩ (m_X10_isDay _ _ _ M x1 hc_2) (Nat.le_of_ble_eq_true rfl) dX10_most_1 ?_
  refine r_if_eq C.1 16 dX10_most_4 (by decide) (fun c_3 => ?_) (fun c_3 => ?_)
  · replace h := ite_T c_3 h
    exact r_sub [] rfl (w_X10_most_16 C M _ h hr ev eM)
  · replace h := ite_F c_3 h
    refine r_iload_n C.1 2 dX10_most_7 rfl rfl ?_
    refine r_if_lt C.1 16 dX10_most_8 (by decide) (fun c_4 => ?_) (fun c_4 => ?_)
    · replace h := ite_T c_4 h
      exact r_sub [] rfl (w_X10_most_16 C M _ h hr ev eM)
    · replace h := ite_F c_4 h
      refine r_iload_n C.1 2 dX10_most_11 rfl rfl ?_
      refine r_iconst (v := 2) C.1 dX10_most_12 rfl ?_
      refine r_icmp_le C.1 18 dX10_most_13 (by decide) (fun c_5 => ?_) (fun c_5 => ?_)
      · replace h := ite_T c_5 h
        refine r_iconst (v := -1) C.1 dX10_most_18 rfl ?_
        refine r_istore_n C.1 [(3, .int (-1 : Int32)), (0, .ref (x_ad x 0)), (1, .int x1), (2, .int x2)] dX10_most_19 rfl (by decide) rfl rfl ?_
        refine r_iconst (v := 0) C.1 dX10_most_20 rfl ?_
        refine r_istore C.1 [(4, .int (0 : Int32)), (3, .int (-1 : Int32)), (0, .ref (x_ad x 0)), (1, .int x1), (2, .int x2)] dX10_most_21 (by decide) rfl rfl ?_
        refine r_iload_n C.1 4 dX10_most_23 rfl rfl ?_
        refine r_iconst (v := 2) C.1 dX10_most_24 rfl ?_
        refine r_icmp_ne C.1 38 dX10_most_25 (by decide) (fun c_6 => ?_) (fun c_6 => ?_)
        · replace h := ite_F c_6 h
          refine r_aload_n C.1 2 dX10_most_38 rfl rfl ?_
          refine gf_X10_26 C dX10_most_39 ?_
          refine gf_X10_117_17 C dX10_most_42 ?_
          exact r_sub [2, 3, 4, 1, 0] rfl (w_X10_most_45 C M x1 x2 (-1 : Int32) (0 : Int32) (M 17 3) _ h hr ev eM)
        · replace h := ite_T c_6 h
          refine r_aload_n C.1 2 dX10_most_28 rfl rfl ?_
          refine gf_X10_26 C dX10_most_29 ?_
          refine gf_X10_104_17 C dX10_most_32 ?_
          refine r_goto C.1 45 dX10_most_35 (by decide) ?_
          exact r_sub [2, 3, 4, 1, 0] rfl (w_X10_most_45 C M x1 x2 (-1 : Int32) (0 : Int32) (M 17 1) _ h hr ev eM)
      · replace h := ite_F c_5 h
        exact r_sub [] rfl (w_X10_most_16 C M _ h hr ev eM)
def f_X10_most (M : xM) (x1 : Int32) (x2 : Int32) : Option (Int32 × xM) := b_X10_most_0 M x1 x2
set_option maxRecDepth 20000 in
theorem m_X10_most (l : Launch) (D : va_G) (ad : Nat → Nat) (M : xM) (x1 : Int32) (x2 : Int32)  {r : Int32} {M1 : xM} (h : f_X10_most M x1 x2 = some (r, M1)) : xMetC l yX10_most cX10_most 8 (some .int) ({ frames := 6, cells := 0, slots := 0, locals := 145 } : Room) [.ref (ad 0), .int x1, .int x2] D ad M (some (.int r)) M1 := by
  refine xMetC_of (own := RX10) (by decide) rfl (Nat.le_of_ble_eq_true rfl) ?_
  intro x C e1 e2 e3 ev eM hr
  subst e1; subst e2; subst e3
  refine r_sub (L := [(0, .ref (x_ad x 0)), (1, .int x1), (2, .int x2)]) (L' := [(0, .ref (x_ad x 0)), (1, .int x1), (2, .int x2)]) [0, 1, 2] rfl ?_
  exact w_X10_most_0 C M x1 x2 _ h hr ev eM

def b_X10_count_0 (M : xM) (x1 : Int32) : Option (Int32) :=
  if x1 = (0 : Int32) then some (M 1 1) else (if x1 = (1 : Int32) then some (M 6 0) else (if x1 = (2 : Int32) then some (M 17 3) else (if x1 = (3 : Int32) then some (M 17 1) else (if x1 = (4 : Int32) then some (M 17 5) else (if x1 = (5 : Int32) then some (M 17 7) else (some (-1 : Int32)))))))
set_option maxRecDepth 20000 in
set_option maxHeartbeats 2000000 in
theorem w_X10_count_0 {x : xC} (C : CtC x RX10 cX10_count 2 ({ frames := 0, cells := 0, slots := 0, locals := 0 } : Room)) (M : xM) (x1 : Int32)  (o : Int32) (h : b_X10_count_0 M x1 = some o) (hr : (x_me x).sig.returnType = some .int) (ev : x_rv x = some (.int o)) (eM : x_M x = M) : J x M 0 [(0, .ref (x_ad x 0)), (1, .int x1)] [] := by
  unfold b_X10_count_0 at h
  refine r_iload_n C.1 1 dX10_count_0 rfl rfl ?_
  by_cases c_10 : x1 = (0 : Int32)
  · replace h := ite_T c_10 h
    refine r_tin C.1 c_10 40 dX10_count_1 (by decide) (by decide) rfl (by decide) ?_
    refine r_aload_n C.1 0 dX10_count_40 rfl rfl ?_
    refine gf_X10_10 C dX10_count_41 ?_
    refine gf_X10_65 C dX10_count_44 ?_
    obtain rfl := Option.some.inj h
    exact r_iret C.1 hr ev eM dX10_count_47
  · replace h := ite_F c_10 h
    by_cases c_11 : x1 = (1 : Int32)
    · replace h := ite_T c_11 h
      refine r_tin C.1 c_11 48 dX10_count_1 (by decide) (by decide) rfl (by decide) ?_
      refine r_aload_n C.1 0 dX10_count_48 rfl rfl ?_
      refine gf_X10_40 C dX10_count_49 ?_
      refine gf_X10_376 C dX10_count_52 ?_
      obtain rfl := Option.some.inj h
      exact r_iret C.1 hr ev eM dX10_count_55
    · replace h := ite_F c_11 h
      by_cases c_12 : x1 = (2 : Int32)
      · replace h := ite_T c_12 h
        refine r_tin C.1 c_12 56 dX10_count_1 (by decide) (by decide) rfl (by decide) ?_
        refine r_aload_n C.1 0 dX10_count_56 rfl rfl ?_
        refine gf_X10_26 C dX10_count_57 ?_
        refine gf_X10_117_17 C dX10_count_60 ?_
        obtain rfl := Option.some.inj h
        exact r_iret C.1 hr ev eM dX10_count_63
      · replace h := ite_F c_12 h
        by_cases c_13 : x1 = (3 : Int32)
        · replace h := ite_T c_13 h
          refine r_tin C.1 c_13 64 dX10_count_1 (by decide) (by decide) rfl (by decide) ?_
          refine r_aload_n C.1 0 dX10_count_64 rfl rfl ?_
          refine gf_X10_26 C dX10_count_65 ?_
          refine gf_X10_104_17 C dX10_count_68 ?_
          obtain rfl := Option.some.inj h
          exact r_iret C.1 hr ev eM dX10_count_71
        · replace h := ite_F c_13 h
          by_cases c_14 : x1 = (4 : Int32)
          · replace h := ite_T c_14 h
            refine r_tin C.1 c_14 72 dX10_count_1 (by decide) (by decide) rfl (by decide) ?_
            refine r_aload_n C.1 0 dX10_count_72 rfl rfl ?_
            refine gf_X10_26 C dX10_count_73 ?_
            refine gf_X10_246_17 C dX10_count_76 ?_
            obtain rfl := Option.some.inj h
            exact r_iret C.1 hr ev eM dX10_count_79
          · replace h := ite_F c_14 h
            by_cases c_15 : x1 = (5 : Int32)
            · replace h := ite_T c_15 h
              refine r_tin C.1 c_15 80 dX10_count_1 (by decide) (by decide) rfl (by decide) ?_
              refine r_aload_n C.1 0 dX10_count_80 rfl rfl ?_
              refine gf_X10_26 C dX10_count_81 ?_
              refine gf_X10_169_17 C dX10_count_84 ?_
              obtain rfl := Option.some.inj h
              exact r_iret C.1 hr ev eM dX10_count_87
            · replace h := ite_F c_15 h
              have qc_10 := ne_toInt c_10
              have qc_11 := ne_toInt c_11
              have qc_12 := ne_toInt c_12
              have qc_13 := ne_toInt c_13
              have qc_14 := ne_toInt c_14
              have qc_15 := ne_toInt c_15
              refine r_tout C.1 88 dX10_count_1 (tout_0_5 qc_10 qc_11 qc_12 qc_13 qc_14 qc_15) (by decide) ?_
              refine r_iconst (v := -1) C.1 dX10_count_88 rfl ?_
              obtain rfl := Option.some.inj h
              exact r_iret C.1 hr ev eM dX10_count_89
def f_X10_count (M : xM) (x1 : Int32) : Option (Int32) := b_X10_count_0 M x1
set_option maxRecDepth 20000 in
theorem m_X10_count (l : Launch) (D : va_G) (ad : Nat → Nat) (M : xM) (x1 : Int32)  {o : Int32} (h : f_X10_count M x1 = some o) : xMetC l yX10_count cX10_count 2 (some .int) ({ frames := 0, cells := 0, slots := 0, locals := 0 } : Room) [.ref (ad 0), .int x1] D ad M (some (.int o)) M := by
  refine xMetC_of (own := RX10) (by decide) rfl (Nat.le_of_ble_eq_true rfl) ?_
  intro x C e1 e2 e3 ev eM hr
  subst e1; subst e2; subst e3
  refine r_sub (L := [(0, .ref (x_ad x 0)), (1, .int x1)]) (L' := [(0, .ref (x_ad x 0)), (1, .int x1)]) [0, 1] rfl ?_
  exact w_X10_count_0 C M x1 _ h hr ev eM
