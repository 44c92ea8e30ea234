def b_X11_in_18 (M : xM) (s0 : Int32) : Option (Int32) :=
  gz s0 (some s0)
set_option maxRecDepth 20000 in
set_option maxHeartbeats 2000000 in
theorem w_X11_in_18 {x : xC} (C : CtM x RX11 cX11_in 6 ({ frames := 0, cells := 0, slots := 0, locals := 0 } : Room)) (M : xM) (s0 : Int32)  (o : Int32) (h : b_X11_in_18 M s0 = some o) (hr : (x_me x).sig.returnType = some .boolean) (ev : x_rv x = some (.int o)) (eM : x_M x = M) : J x M 18 [] [.int s0] := by
  unfold b_X11_in_18 at h
  obtain ⟨z_1, h⟩ := gz_E h
  obtain rfl := Option.some.inj h
  exact r_zret C.1 hr (nz_n z_1) ev eM dX11_in_18

def b_X11_in_17 (M : xM)  : Option (Int32) :=
  b_X11_in_18 M (0 : Int32)
set_option maxRecDepth 20000 in
set_option maxHeartbeats 2000000 in
theorem w_X11_in_17 {x : xC} (C : CtM x RX11 cX11_in 6 ({ frames := 0, cells := 0, slots := 0, locals := 0 } : Room)) (M : xM)   (o : Int32) (h : b_X11_in_17 M = some o) (hr : (x_me x).sig.returnType = some .boolean) (ev : x_rv x = some (.int o)) (eM : x_M x = M) : J x M 17 [] [] := by
  unfold b_X11_in_17 at h
  refine r_iconst (v := 0) C.1 dX11_in_17 rfl ?_
  exact r_sub [] rfl (w_X11_in_18 C M (0 : Int32) _ h hr ev eM)

def b_X11_in_0 (M : xM) (x0 : Int64) (x2 : Int64) (x4 : Int64) : Option (Int32) :=
  if (lg_cmp x0 x2) < 0 then b_X11_in_17 M else if 0 < (lg_cmp x0 x4) then b_X11_in_17 M else b_X11_in_18 M (1 : Int32)
set_option maxRecDepth 20000 in
set_option maxHeartbeats 2000000 in
theorem w_X11_in_0 {x : xC} (C : CtM x RX11 cX11_in 6 ({ frames := 0, cells := 0, slots := 0, locals := 0 } : Room)) (M : xM) (x0 : Int64) (x2 : Int64) (x4 : Int64)  (o : Int32) (h : b_X11_in_0 M x0 x2 x4 = some o) (hr : (x_me x).sig.returnType = some .boolean) (ev : x_rv x = some (.int o)) (eM : x_M x = M) : J x M 0 [(0, .long x0), (2, .long x2), (4, .long x4)] [] := by
  unfold b_X11_in_0 at h
  refine r_lload_n C.1 0 dX11_in_0 rfl rfl ?_
  refine r_lload_n C.1 1 dX11_in_1 rfl rfl ?_
  refine r_lcmp C.1 dX11_in_2 ?_
  refine r_if_lt C.1 17 dX11_in_3 (by decide) (fun c_1 => ?_) (fun c_1 => ?_)
  · replace h := ite_T c_1 h
    exact r_sub [] rfl (w_X11_in_17 C M _ h hr ev eM)
  · replace h := ite_F c_1 h
    refine r_lload_n C.1 0 dX11_in_6 rfl rfl ?_
    refine r_lload C.1 2 dX11_in_7 rfl ?_
    refine r_lcmp C.1 dX11_in_9 ?_
    refine r_if_gt C.1 17 dX11_in_10 (by decide) (fun c_2 => ?_) (fun c_2 => ?_)
    · replace h := ite_T c_2 h
      exact r_sub [] rfl (w_X11_in_17 C M _ h hr ev eM)
    · replace h := ite_F c_2 h
      refine r_iconst (v := 1) C.1 dX11_in_13 rfl ?_
      refine r_goto C.1 18 dX11_in_14 (by decide) ?_
      exact r_sub [] rfl (w_X11_in_18 C M (1 : Int32) _ h hr ev eM)
def f_X11_in (M : xM) (x0 : Int64) (x2 : Int64) (x4 : Int64) : Option (Int32) := b_X11_in_0 M x0 x2 x4
set_option maxRecDepth 20000 in
theorem m_X11_in (l : Launch) (D : va_G) (ad : Nat → Nat) (M : xM) (x0 : Int64) (x2 : Int64) (x4 : Int64)  {o : Int32} (h : f_X11_in M x0 x2 x4 = some o) : xMetM l yX11_in cX11_in 6 (some .boolean) ({ frames := 0, cells := 0, slots := 0, locals := 0 } : Room) [.long x0, .long x2, .long x4] D ad M (some (.int o)) M := by
  refine xMetM_of (own := RX11) (by decide) rfl (Nat.le_of_ble_eq_true rfl) ?_
  intro x C e1 e2 e3 ev eM hr
  subst e1; subst e2; subst e3
  refine r_sub (L := [(0, .long x0), (2, .long x2), (4, .long x4)]) (L' := [(0, .long x0), (2, .long x2), (4, .long x4)]) [0, 1, 2] rfl ?_
  exact w_X11_in_0 C M x0 x2 x4 _ h hr ev eM

def bl_X11_tellsNone_2 (M : xM) (k0 : Nat) (x1 : Int32) : Option ((xM × Int32) ⊕ (xM)) :=
  if (7 : Int32) ≤ x1 then some (.inr M) else gd x1 7 (gd x1 7 (lt (uM M k0 x1.toNatClampNeg (fWi x1.toNatClampNeg)) (fun M_4 => lt (x1 + (1 : Int32)) (fun y_5 => some (.inl (M_4, y_5))))))
set_option maxRecDepth 20000 in
set_option maxHeartbeats 2000000 in
theorem wl_X11_tellsNone_2 {x : xC} (C : CtM x RX11 cX11_tellsNone 2 ({ frames := 0, cells := 0, slots := 0, locals := 0 } : Room)) (M : xM) (k0 : Nat) (x1 : Int32) (h0 : KR k0) (o : (xM × Int32) ⊕ (xM)) (h : bl_X11_tellsNone_2 M k0 x1 = some o) (kh : ∀ s : xM × Int32, o = .inl s → J x s.1 2 [(0, .ref (x_ad x k0)), (1, .int s.2)] []) (ke_0 : ∀ v : xM, o = .inr v → J x v 22 [] []) : J x M 2 [(0, .ref (x_ad x k0)), (1, .int x1)] [] := by
  unfold bl_X11_tellsNone_2 at h
  refine r_iload_n C.1 1 dX11_tellsNone_2 rfl rfl ?_
  refine r_bipush (v := 7) C.1 dX11_tellsNone_3 (by decide) ?_
  refine r_icmp_ge C.1 22 dX11_tellsNone_5 (by decide) (fun c_1 => ?_) (fun c_1 => ?_)
  · replace h := ite_T c_1 h
    exact r_sub [] rfl (ke_0 _ (Option.some.inj h).symm)
  · replace h := ite_F c_1 h
    refine r_aload_n C.1 0 dX11_tellsNone_8 rfl rfl ?_
    refine r_iload_n C.1 1 dX11_tellsNone_9 rfl rfl ?_
    refine r_gets C.1 (C.2.2.2.2.2.1.1) kw_1249 rfl dX11_tellsNone_10 ?_
    refine r_iload_n C.1 1 dX11_tellsNone_13 rfl rfl ?_
    obtain ⟨q_2, h⟩ := gd_E h
    refine r_ti C.1 (C.2.2.2.2.2.1.2) q_2 rfl dX11_tellsNone_14 ?_
    obtain ⟨q_3, h⟩ := gd_E h
    obtain ⟨M_4, eM_4, h⟩ := lt_E h
    refine r_iast C.1 (mK C (kR h0)) (mS C (shm_R h0)) 0 (mT0 C) q_3 eM_4 dX11_tellsNone_15 ?_
    obtain ⟨y_5, ey_5, h⟩ := lt_E h
    refine r_iinc C.1 1 [(1, .int y_5), (0, .ref (x_ad x k0))] dX11_tellsNone_16 rfl ey_5 (by decide) rfl ?_
    refine r_goto C.1 2 dX11_tellsNone_19 (by decide) ?_
    exact r_sub [1, 0] rfl (kh _ (Option.some.inj h).symm)

def b_X11_tellsNone_2 (M : xM) (k0 : Nat) (x1 : Int32) : Option (xM) :=
  bd (loopN (fun s : xM × Int32 => bl_X11_tellsNone_2 s.1 k0 s.2) BG (M, x1)) (fun v => some v)
set_option maxRecDepth 20000 in
set_option maxHeartbeats 2000000 in
theorem w_X11_tellsNone_2 {x : xC} (C : CtM x RX11 cX11_tellsNone 2 ({ frames := 0, cells := 0, slots := 0, locals := 0 } : Room)) (M : xM) (k0 : Nat) (x1 : Int32) (h0 : KR k0) (o : xM) (h : b_X11_tellsNone_2 M k0 x1 = some o) (hr : (x_me x).sig.returnType = none) (ev : x_rv x = none) (eM : x_M x = o) : J x M 2 [(0, .ref (x_ad x k0)), (1, .int x1)] [] := by
  unfold b_X11_tellsNone_2 at h
  obtain ⟨r_0, hr_0, h⟩ := bd_E h
  refine loopN_ind (JJ := fun s => J x s.1 2 [(0, .ref (x_ad x k0)), (1, .int s.2)] []) (KX := fun q => q = r_0) ?_ BG (M, x1) r_0 hr_0 rfl
  intro s o1 hb kk1 kk2
  refine wl_X11_tellsNone_2 C s.1 k0 s.2 h0 _ hb kk1 ?_
  · intro v e0
    have e1 := kk2 _ e0
    subst e1
    obtain rfl := Option.some.inj h
    exact r_vret C.1 hr ev eM dX11_tellsNone_22

def b_X11_tellsNone_0 (M : xM) (k0 : Nat) : Option (xM) :=
  b_X11_tellsNone_2 M k0 (0 : Int32)
set_option maxRecDepth 20000 in
set_option maxHeartbeats 2000000 in
theorem w_X11_tellsNone_0 {x : xC} (C : CtM x RX11 cX11_tellsNone 2 ({ frames := 0, cells := 0, slots := 0, locals := 0 } : Room)) (M : xM) (k0 : Nat) (h0 : KR k0) (o : xM) (h : b_X11_tellsNone_0 M k0 = some o) (hr : (x_me x).sig.returnType = none) (ev : x_rv x = none) (eM : x_M x = o) : J x M 0 [(0, .ref (x_ad x k0))] [] := by
  unfold b_X11_tellsNone_0 at h
  refine r_iconst (v := 0) C.1 dX11_tellsNone_0 rfl ?_
  refine r_istore_n C.1 [(1, .int (0 : Int32)), (0, .ref (x_ad x k0))] dX11_tellsNone_1 rfl (by decide) rfl rfl ?_
  exact r_sub [1, 0] rfl (w_X11_tellsNone_2 C M k0 (0 : Int32) h0 _ h hr ev eM)
def f_X11_tellsNone (M : xM) (k0 : Nat) : Option (xM) := b_X11_tellsNone_0 M k0
set_option maxRecDepth 20000 in
theorem m_X11_tellsNone (l : Launch) (D : va_G) (ad : Nat → Nat) (M : xM) (k0 : Nat) (h0 : KR k0) {o : xM} (h : f_X11_tellsNone M k0 = some o) : xMetM l yX11_tellsNone cX11_tellsNone 2 none ({ frames := 0, cells := 0, slots := 0, locals := 0 } : Room) [.ref (ad k0)] D ad M none o := by
  refine xMetM_of (own := RX11) (by decide) rfl (Nat.le_of_ble_eq_true rfl) ?_
  intro x C e1 e2 e3 ev eM hr
  subst e1; subst e2; subst e3
  refine r_sub (L := [(0, .ref (x_ad x k0))]) (L' := [(0, .ref (x_ad x k0))]) [0] rfl ?_
  exact w_X11_tellsNone_0 C M k0 h0 _ h hr ev eM

def b_X11_thrown_0 (M : xM)  : Option (Int32) :=
  some (M 0 0)
set_option maxRecDepth 20000 in
set_option maxHeartbeats 2000000 in
theorem w_X11_thrown_0 {x : xC} (C : CtM x RX11 cX11_thrown 1 ({ frames := 0, cells := 0, slots := 0, locals := 0 } : Room)) (M : xM)   (o : Int32) (h : b_X11_thrown_0 M = some o) (hr : (x_me x).sig.returnType = some .int) (ev : x_rv x = some (.int o)) (eM : x_M x = M) : J x M 0 [(0, .ref (x_ad x 0))] [] := by
  unfold b_X11_thrown_0 at h
  refine r_aload_n C.1 0 dX11_thrown_0 rfl rfl ?_
  refine gf_X11_56 C dX11_thrown_1 ?_
  obtain rfl := Option.some.inj h
  exact r_iret C.1 hr ev eM dX11_thrown_4
def f_X11_thrown (M : xM)  : Option (Int32) := b_X11_thrown_0 M 
set_option maxRecDepth 20000 in
theorem m_X11_thrown (l : Launch) (D : va_G) (ad : Nat → Nat) (M : xM)   {o : Int32} (h : f_X11_thrown M = some o) : xMetM l yX11_thrown cX11_thrown 1 (some .int) ({ frames := 0, cells := 0, slots := 0, locals := 0 } : Room) [.ref (ad 0)] D ad M (some (.int o)) M := by
  refine xMetM_of (own := RX11) (by decide) rfl (Nat.le_of_ble_eq_true rfl) ?_
  intro x C e1 e2 e3 ev eM hr
  subst e1; subst e2; subst e3
  refine r_sub (L := [(0, .ref (x_ad x 0))]) (L' := [(0, .ref (x_ad x 0))]) [0] rfl ?_
  exact w_X11_thrown_0 C M _ h hr ev eM

def b_X11_byteOf_45 (M : xM) (x5 : Int32) (s0 : Int32) : Option (Int32) :=
  some ((s0 >>> (((24 : Int32) - ((8 : Int32) * (x5 - x5 / (4 : Int32) * (4 : Int32)))) &&& 31)) &&& (255 : Int32))
set_option maxRecDepth 20000 in
set_option maxHeartbeats 2000000 in
theorem w_X11_byteOf_45 {x : xC} (C : CtM x RX11 cX11_byteOf 7 ({ frames := 0, cells := 0, slots := 0, locals := 0 } : Room)) (M : xM) (x5 : Int32) (s0 : Int32)  (o : Int32) (h : b_X11_byteOf_45 M x5 s0 = some o) (hr : (x_me x).sig.returnType = some .int) (ev : x_rv x = some (.int o)) (eM : x_M x = M) : J x M 45 [(5, .int x5)] [.int s0] := by
  unfold b_X11_byteOf_45 at h
  refine r_istore C.1 [(6, .int s0), (5, .int x5)] dX11_byteOf_45 (by decide) rfl rfl ?_
  refine r_iload C.1 0 dX11_byteOf_47 rfl ?_
  refine r_bipush (v := 24) C.1 dX11_byteOf_49 (by decide) ?_
  refine r_bipush (v := 8) C.1 dX11_byteOf_51 (by decide) ?_
  refine r_iload C.1 1 dX11_byteOf_53 rfl ?_
  refine r_iconst (v := 4) C.1 dX11_byteOf_55 rfl ?_
  refine r_irem C.1 (by decide) dX11_byteOf_56 ?_
  refine r_imul C.1 dX11_byteOf_57 ?_
  refine r_isub C.1 dX11_byteOf_58 ?_
  refine r_ishr C.1 dX11_byteOf_59 ?_
  refine r_sipush (v := 255) C.1 dX11_byteOf_60 (by decide) ?_
  refine r_iand C.1 dX11_byteOf_63 ?_
  obtain rfl := Option.some.inj h
  exact r_iret C.1 hr ev eM dX11_byteOf_64

def b_X11_byteOf_0 (M : xM) (x0 : Int32) (x1 : Int32) (x2 : Int32) (x3 : Int32) (x4 : Int32) (x5 : Int32) : Option (Int32) :=
  if (4 : Int32) ≤ x5 then if (8 : Int32) ≤ x5 then if (12 : Int32) ≤ x5 then if (16 : Int32) ≤ x5 then b_X11_byteOf_45 M x5 x4 else b_X11_byteOf_45 M x5 x3 else b_X11_byteOf_45 M x5 x2 else b_X11_byteOf_45 M x5 x1 else b_X11_byteOf_45 M x5 x0
set_option maxRecDepth 20000 in
set_option maxHeartbeats 2000000 in
theorem w_X11_byteOf_0 {x : xC} (C : CtM x RX11 cX11_byteOf 7 ({ frames := 0, cells := 0, slots := 0, locals := 0 } : Room)) (M : xM) (x0 : Int32) (x1 : Int32) (x2 : Int32) (x3 : Int32) (x4 : Int32) (x5 : Int32)  (o : Int32) (h : b_X11_byteOf_0 M x0 x1 x2 x3 x4 x5 = some o) (hr : (x_me x).sig.returnType = some .int) (ev : x_rv x = some (.int o)) (eM : x_M x = M) : J x M 0 [(0, .int x0), (1, .int x1), (2, .int x2), (3, .int x3), (4, .int x4), (5, .int x5)] [] := by
  unfold b_X11_byteOf_0 at h
  refine r_iload C.1 5 dX11_byteOf_0 rfl ?_
  refine r_iconst (v := 4) C.1 dX11_byteOf_2 rfl ?_
  refine r_icmp_ge C.1 10 dX11_byteOf_3 (by decide) (fun c_1 => ?_) (fun c_1 => ?_)
  · replace h := ite_T c_1 h
    refine r_iload C.1 5 dX11_byteOf_10 rfl ?_
    refine r_bipush (v := 8) C.1 dX11_byteOf_12 (by decide) ?_
    refine r_icmp_ge C.1 21 dX11_byteOf_14 (by decide) (fun c_2 => ?_) (fun c_2 => ?_)
    · replace h := ite_T c_2 h
      refine r_iload C.1 5 dX11_byteOf_21 rfl ?_
      refine r_bipush (v := 12) C.1 dX11_byteOf_23 (by decide) ?_
      refine r_icmp_ge C.1 32 dX11_byteOf_25 (by decide) (fun c_3 => ?_) (fun c_3 => ?_)
      · replace h := ite_T c_3 h
        refine r_iload C.1 5 dX11_byteOf_32 rfl ?_
        refine r_bipush (v := 16) C.1 dX11_byteOf_34 (by decide) ?_
        refine r_icmp_ge C.1 43 dX11_byteOf_36 (by decide) (fun c_4 => ?_) (fun c_4 => ?_)
        · replace h := ite_T c_4 h
          refine r_iload C.1 4 dX11_byteOf_43 rfl ?_
          exact r_sub [5] rfl (w_X11_byteOf_45 C M x5 x4 _ h hr ev eM)
        · replace h := ite_F c_4 h
          refine r_iload_n C.1 3 dX11_byteOf_39 rfl rfl ?_
          refine r_goto C.1 45 dX11_byteOf_40 (by decide) ?_
          exact r_sub [5] rfl (w_X11_byteOf_45 C M x5 x3 _ h hr ev eM)
      · replace h := ite_F c_3 h
        refine r_iload_n C.1 2 dX11_byteOf_28 rfl rfl ?_
        refine r_goto C.1 45 dX11_byteOf_29 (by decide) ?_
        exact r_sub [5] rfl (w_X11_byteOf_45 C M x5 x2 _ h hr ev eM)
    · replace h := ite_F c_2 h
      refine r_iload_n C.1 1 dX11_byteOf_17 rfl rfl ?_
      refine r_goto C.1 45 dX11_byteOf_18 (by decide) ?_
      exact r_sub [5] rfl (w_X11_byteOf_45 C M x5 x1 _ h hr ev eM)
  · replace h := ite_F c_1 h
    refine r_iload_n C.1 0 dX11_byteOf_6 rfl rfl ?_
    refine r_goto C.1 45 dX11_byteOf_7 (by decide) ?_
    exact r_sub [5] rfl (w_X11_byteOf_45 C M x5 x0 _ h hr ev eM)
def f_X11_byteOf (M : xM) (x0 : Int32) (x1 : Int32) (x2 : Int32) (x3 : Int32) (x4 : Int32) (x5 : Int32) : Option (Int32) := b_X11_byteOf_0 M x0 x1 x2 x3 x4 x5
set_option maxRecDepth 20000 in
theorem m_X11_byteOf (l : Launch) (D : va_G) (ad : Nat → Nat) (M : xM) (x0 : Int32) (x1 : Int32) (x2 : Int32) (x3 : Int32) (x4 : Int32) (x5 : Int32)  {o : Int32} (h : f_X11_byteOf M x0 x1 x2 x3 x4 x5 = some o) : xMetM l yX11_byteOf cX11_byteOf 7 (some .int) ({ frames := 0, cells := 0, slots := 0, locals := 0 } : Room) [.int x0, .int x1, .int x2, .int x3, .int x4, .int x5] D ad M (some (.int o)) M := by
  refine xMetM_of (own := RX11) (by decide) rfl (Nat.le_of_ble_eq_true rfl) ?_
  intro x C e1 e2 e3 ev eM hr
  subst e1; subst e2; subst e3
  refine r_sub (L := [(0, .int x0), (1, .int x1), (2, .int x2), (3, .int x3), (4, .int x4), (5, .int x5)]) (L' := [(0, .int x0), (1, .int x1), (2, .int x2), (3, .int x3), (4, .int x4), (5, .int x5)]) [0, 1, 2, 3, 4, 5] rfl ?_
  exact w_X11_byteOf_0 C M x0 x1 x2 x3 x4 x5 _ h hr ev eM

def b_X11_feed_114 (M : xM) (x1 : Int32) (x2 : Int32) (x3 : Int32) (x4 : Int32) (x5 : Int32) (x7 : Int32) : Option ((xM × Int32) ⊕ (xM)) :=
  lt (x7 + (1 : Int32)) (fun y_1 => some (.inl (M, y_1)))
set_option maxRecDepth 20000 in
set_option maxHeartbeats 2000000 in
theorem w_X11_feed_114 {x : xC} (C : CtM x RX11 cX11_feed 9 ({ frames := 1, cells := 0, slots := 0, locals := 26 } : Room)) (M : xM) (x1 : Int32) (x2 : Int32) (x3 : Int32) (x4 : Int32) (x5 : Int32) (x7 : Int32)  (o : (xM × Int32) ⊕ (xM)) (h : b_X11_feed_114 M x1 x2 x3 x4 x5 x7 = some o) (kh : ∀ s : xM × Int32, o = .inl s → J x s.1 67 [(0, .ref (x_ad x 0)), (1, .int x1), (2, .int x2), (3, .int x3), (4, .int x4), (5, .int x5), (7, .int s.2)] []) (ke_0 : ∀ v : xM, o = .inr v → J x v 120 [(0, .ref (x_ad x 0))] []) : J x M 114 [(0, .ref (x_ad x 0)), (1, .int x1), (2, .int x2), (3, .int x3), (4, .int x4), (5, .int x5), (7, .int x7)] [] := by
  unfold b_X11_feed_114 at h
  obtain ⟨y_1, ey_1, h⟩ := lt_E h
  refine r_iinc C.1 6 [(7, .int y_1), (0, .ref (x_ad x 0)), (1, .int x1), (2, .int x2), (3, .int x3), (4, .int x4), (5, .int x5)] dX11_feed_114 rfl ey_1 (by decide) rfl ?_
  refine r_goto C.1 67 dX11_feed_117 (by decide) ?_
  exact r_sub [1, 2, 3, 4, 5, 6, 0] rfl (kh _ (Option.some.inj h).symm)

def bl_X11_feed_67 (M : xM) (x1 : Int32) (x2 : Int32) (x3 : Int32) (x4 : Int32) (x5 : Int32) (x7 : Int32) : Option ((xM × Int32) ⊕ (xM)) :=
  if (20 : Int32) ≤ x7 then some (.inr M) else bd (f_X11_byteOf M x1 x2 x3 x4 x5 x7) (fun r_2 => if r_2 = 0 then b_X11_feed_114 M x1 x2 x3 x4 x5 x7 else gd (M 0 2) 200 (lt (uM M 1 (M 0 2).toNatClampNeg r_2) (fun M_6 => lt (uM M_6 0 2 ((M_6 0 2) + (1 : Int32))) (fun M_7 => b_X11_feed_114 M_7 x1 x2 x3 x4 x5 x7))))
set_option maxRecDepth 20000 in
set_option maxHeartbeats 2000000 in
theorem wl_X11_feed_67 {x : xC} (C : CtM x RX11 cX11_feed 9 ({ frames := 1, cells := 0, slots := 0, locals := 26 } : Room)) (M : xM) (x1 : Int32) (x2 : Int32) (x3 : Int32) (x4 : Int32) (x5 : Int32) (x7 : Int32)  (o : (xM × Int32) ⊕ (xM)) (h : bl_X11_feed_67 M x1 x2 x3 x4 x5 x7 = some o) (kh : ∀ s : xM × Int32, o = .inl s → J x s.1 67 [(0, .ref (x_ad x 0)), (1, .int x1), (2, .int x2), (3, .int x3), (4, .int x4), (5, .int x5), (7, .int s.2)] []) (ke_0 : ∀ v : xM, o = .inr v → J x v 120 [(0, .ref (x_ad x 0))] []) : J x M 67 [(0, .ref (x_ad x 0)), (1, .int x1), (2, .int x2), (3, .int x3), (4, .int x4), (5, .int x5), (7, .int x7)] [] := by
  unfold bl_X11_feed_67 at h
  refine r_iload C.1 6 dX11_feed_67 rfl ?_
  refine r_bipush (v := 20) C.1 dX11_feed_69 (by decide) ?_
  refine r_icmp_ge C.1 120 dX11_feed_71 (by decide) (fun c_1 => ?_) (fun c_1 => ?_)
  · replace h := ite_T c_1 h
    exact r_sub [0] rfl (ke_0 _ (Option.some.inj h).symm)
  · replace h := ite_F c_1 h
    refine r_iload_n C.1 1 dX11_feed_74 rfl rfl ?_
    refine r_iload_n C.1 2 dX11_feed_75 rfl rfl ?_
    refine r_iload_n C.1 3 dX11_feed_76 rfl rfl ?_
    refine r_iload C.1 4 dX11_feed_77 rfl ?_
    refine r_iload C.1 5 dX11_feed_79 rfl ?_
    refine r_iload C.1 6 dX11_feed_81 rfl ?_
    obtain ⟨r_2, hc_3, h⟩ := bd_E h
    refine cl_X11_60 C ⟨Nat.le_of_ble_eq_true rfl, Nat.le_of_ble_eq_true rfl⟩ (m_X11_byteOf _ _ _ M x1 x2 x3 x4 x5 x7 hc_3) (Nat.le_of_ble_eq_true rfl) dX11_feed_83 ?_
    refine r_istore C.1 [(8, .int r_2), (0, .ref (x_ad x 0)), (1, .int x1), (2, .int x2), (3, .int x3), (4, .int x4), (5, .int x5), (7, .int x7)] dX11_feed_86 (by decide) rfl rfl ?_
    refine r_iload C.1 0 dX11_feed_88 rfl ?_
    refine r_if_eq C.1 114 dX11_feed_90 (by decide) (fun c_4 => ?_) (fun c_4 => ?_)
    · replace h := ite_T c_4 h
      exact r_sub [1, 2, 3, 4, 5, 6, 7] rfl (w_X11_feed_114 C M x1 x2 x3 x4 x5 x7 _ h kh ke_0)
    · replace h := ite_F c_4 h
      refine r_aload_n C.1 1 dX11_feed_93 rfl rfl ?_
      refine gf_X11_9 C dX11_feed_94 ?_
      refine r_aload_n C.1 1 dX11_feed_97 rfl rfl ?_
      refine gf_X11_64 C dX11_feed_98 ?_
      refine r_iload C.1 0 dX11_feed_101 rfl ?_
      obtain ⟨q_5, h⟩ := gd_E h
      obtain ⟨M_6, eM_6, h⟩ := lt_E h
      refine r_iast C.1 (mK C (by decide)) (mS C (shm_1)) 0 (mT0 C) q_5 eM_6 dX11_feed_103 ?_
      refine r_aload_n C.1 1 dX11_feed_104 rfl rfl ?_
      refine r_dup C.1 rfl dX11_feed_105 ?_
      refine gf_X11_64 C dX11_feed_106 ?_
      refine r_iconst (v := 1) C.1 dX11_feed_109 rfl ?_
      refine r_iadd C.1 dX11_feed_110 ?_
      obtain ⟨M_7, eM_7, h⟩ := lt_E h
      refine pf_X11_64 C eM_7 dX11_feed_111 ?_
      exact r_sub [1, 2, 3, 4, 5, 6, 7] rfl (w_X11_feed_114 C M_7 x1 x2 x3 x4 x5 x7 _ h kh ke_0)

def b_X11_feed_67 (M : xM) (x1 : Int32) (x2 : Int32) (x3 : Int32) (x4 : Int32) (x5 : Int32) (x7 : Int32) : Option (Int32 × xM) :=
  bd (loopN (fun s : xM × Int32 => bl_X11_feed_67 s.1 x1 x2 x3 x4 x5 s.2) BG (M, x7)) (fun v => some (v 0 2, v))
set_option maxRecDepth 20000 in
set_option maxHeartbeats 2000000 in
theorem w_X11_feed_67 {x : xC} (C : CtM x RX11 cX11_feed 9 ({ frames := 1, cells := 0, slots := 0, locals := 26 } : Room)) (M : xM) (x1 : Int32) (x2 : Int32) (x3 : Int32) (x4 : Int32) (x5 : Int32) (x7 : Int32)  (o : Int32 × xM) (h : b_X11_feed_67 M x1 x2 x3 x4 x5 x7 = some o) (hr : (x_me x).sig.returnType = some .int) (ev : x_rv x = some (.int o.1)) (eM : x_M x = o.2) : J x M 67 [(0, .ref (x_ad x 0)), (1, .int x1), (2, .int x2), (3, .int x3), (4, .int x4), (5, .int x5), (7, .int x7)] [] := by
  unfold b_X11_feed_67 at h
  obtain ⟨r_0, hr_0, h⟩ := bd_E h
  refine loopN_ind (JJ := fun s => J x s.1 67 [(0, .ref (x_ad x 0)), (1, .int x1), (2, .int x2), (3, .int x3), (4, .int x4), (5, .int x5), (7, .int s.2)] []) (KX := fun q => q = r_0) ?_ BG (M, x7) r_0 hr_0 rfl
  intro s o1 hb kk1 kk2
  refine wl_X11_feed_67 C s.1 x1 x2 x3 x4 x5 s.2 _ hb kk1 ?_
  · intro v e0
    have e1 := kk2 _ e0
    subst e1
    refine r_aload_n C.1 0 dX11_feed_120 rfl rfl ?_
    refine gf_X11_64 C dX11_feed_121 ?_
    obtain rfl := Option.some.inj h
    exact r_iret C.1 hr ev eM dX11_feed_124

def b_X11_feed_40 (M : xM) (x1 : Int32) (x2 : Int32) (x3 : Int32) (x4 : Int32) (x5 : Int32) (x7 : Int32) (s0 : Int32) (s1 : Int32) : Option ((Int32 × Int32) ⊕ (Int32)) :=
  lt (s1 + s0) (fun y_1 => lt (x7 + (1 : Int32)) (fun y_2 => some (.inl (y_1, y_2))))
set_option maxRecDepth 20000 in
set_option maxHeartbeats 2000000 in
theorem w_X11_feed_40 {x : xC} (C : CtM x RX11 cX11_feed 9 ({ frames := 1, cells := 0, slots := 0, locals := 26 } : Room)) (M : xM) (x1 : Int32) (x2 : Int32) (x3 : Int32) (x4 : Int32) (x5 : Int32) (x7 : Int32) (s0 : Int32) (s1 : Int32)  (o : (Int32 × Int32) ⊕ (Int32)) (h : b_X11_feed_40 M x1 x2 x3 x4 x5 x7 s0 s1 = some o) (kh : ∀ s : Int32 × Int32, o = .inl s → J x M 11 [(0, .ref (x_ad x 0)), (1, .int x1), (2, .int x2), (3, .int x3), (4, .int x4), (5, .int x5), (6, .int s.1), (7, .int s.2)] []) (ke_0 : ∀ v : Int32, o = .inr v → J x M 49 [(0, .ref (x_ad x 0)), (1, .int x1), (2, .int x2), (3, .int x3), (4, .int x4), (5, .int x5), (6, .int v)] []) : J x M 40 [(0, .ref (x_ad x 0)), (1, .int x1), (2, .int x2), (3, .int x3), (4, .int x4), (5, .int x5), (7, .int x7)] [.int s0, .int s1] := by
  unfold b_X11_feed_40 at h
  refine r_iadd C.1 dX11_feed_40 ?_
  obtain ⟨y_1, ey_1, h⟩ := lt_E h
  refine r_istore C.1 [(6, .int y_1), (0, .ref (x_ad x 0)), (1, .int x1), (2, .int x2), (3, .int x3), (4, .int x4), (5, .int x5), (7, .int x7)] dX11_feed_41 (by decide) ey_1 rfl ?_
  obtain ⟨y_2, ey_2, h⟩ := lt_E h
  refine r_iinc C.1 7 [(7, .int y_2), (6, .int y_1), (0, .ref (x_ad x 0)), (1, .int x1), (2, .int x2), (3, .int x3), (4, .int x4), (5, .int x5)] dX11_feed_43 rfl ey_2 (by decide) rfl ?_
  refine r_goto C.1 11 dX11_feed_46 (by decide) ?_
  exact r_sub [2, 3, 4, 5, 6, 7, 1, 0] rfl (kh _ (Option.some.inj h).symm)

def bl_X11_feed_11 (M : xM) (x1 : Int32) (x2 : Int32) (x3 : Int32) (x4 : Int32) (x5 : Int32) (x6 : Int32) (x7 : Int32) : Option ((Int32 × Int32) ⊕ (Int32)) :=
  if (20 : Int32) ≤ x7 then some (.inr x6) else bd (f_X11_byteOf M x1 x2 x3 x4 x5 x7) (fun r_2 => if r_2 = 0 then b_X11_feed_40 M x1 x2 x3 x4 x5 x7 (0 : Int32) x6 else b_X11_feed_40 M x1 x2 x3 x4 x5 x7 (1 : Int32) x6)
set_option maxRecDepth 20000 in
set_option maxHeartbeats 2000000 in
theorem wl_X11_feed_11 {x : xC} (C : CtM x RX11 cX11_feed 9 ({ frames := 1, cells := 0, slots := 0, locals := 26 } : Room)) (M : xM) (x1 : Int32) (x2 : Int32) (x3 : Int32) (x4 : Int32) (x5 : Int32) (x6 : Int32) (x7 : Int32)  (o : (Int32 × Int32) ⊕ (Int32)) (h : bl_X11_feed_11 M x1 x2 x3 x4 x5 x6 x7 = some o) (kh : ∀ s : Int32 × Int32, o = .inl s → J x M 11 [(0, .ref (x_ad x 0)), (1, .int x1), (2, .int x2), (3, .int x3), (4, .int x4), (5, .int x5), (6, .int s.1), (7, .int s.2)] []) (ke_0 : ∀ v : Int32, o = .inr v → J x M 49 [(0, .ref (x_ad x 0)), (1, .int x1), (2, .int x2), (3, .int x3), (4, .int x4), (5, .int x5), (6, .int v)] []) : J x M 11 [(0, .ref (x_ad x 0)), (1, .int x1), (2, .int x2), (3, .int x3), (4, .int x4), (5, .int x5), (6, .int x6), (7, .int x7)] [] := by
  unfold bl_X11_feed_11 at h
  refine r_iload C.1 7 dX11_feed_11 rfl ?_
  refine r_bipush (v := 20) C.1 dX11_feed_13 (by decide) ?_
  refine r_icmp_ge C.1 49 dX11_feed_15 (by decide) (fun c_1 => ?_) (fun c_1 => ?_)
  · replace h := ite_T c_1 h
    exact r_sub [0, 1, 2, 3, 4, 5, 6] rfl (ke_0 _ (Option.some.inj h).symm)
  · replace h := ite_F c_1 h
    refine r_iload C.1 6 dX11_feed_18 rfl ?_
    refine r_iload_n C.1 1 dX11_feed_20 rfl rfl ?_
    refine r_iload_n C.1 2 dX11_feed_21 rfl rfl ?_
    refine r_iload_n C.1 3 dX11_feed_22 rfl rfl ?_
    refine r_iload C.1 4 dX11_feed_23 rfl ?_
    refine r_iload C.1 5 dX11_feed_25 rfl ?_
    refine r_iload C.1 7 dX11_feed_27 rfl ?_
    obtain ⟨r_2, hc_3, h⟩ := bd_E h
    refine cl_X11_60 C ⟨Nat.le_of_ble_eq_true rfl, Nat.le_of_ble_eq_true rfl⟩ (m_X11_byteOf _ _ _ M x1 x2 x3 x4 x5 x7 hc_3) (Nat.le_of_ble_eq_true rfl) dX11_feed_29 ?_
    refine r_if_eq C.1 39 dX11_feed_32 (by decide) (fun c_4 => ?_) (fun c_4 => ?_)
    · replace h := ite_T c_4 h
      refine r_iconst (v := 0) C.1 dX11_feed_39 rfl ?_
      exact r_sub [0, 1, 2, 3, 4, 5, 7] rfl (w_X11_feed_40 C M x1 x2 x3 x4 x5 x7 (0 : Int32) x6 _ h kh ke_0)
    · replace h := ite_F c_4 h
      refine r_iconst (v := 1) C.1 dX11_feed_35 rfl ?_
      refine r_goto C.1 40 dX11_feed_36 (by decide) ?_
      exact r_sub [0, 1, 2, 3, 4, 5, 7] rfl (w_X11_feed_40 C M x1 x2 x3 x4 x5 x7 (1 : Int32) x6 _ h kh ke_0)

def b_X11_feed_11 (M : xM) (x1 : Int32) (x2 : Int32) (x3 : Int32) (x4 : Int32) (x5 : Int32) (x6 : Int32) (x7 : Int32) : Option (Int32 × xM) :=
  bd (loopN (fun s : Int32 × Int32 => bl_X11_feed_11 M x1 x2 x3 x4 x5 s.1 s.2) BG (x6, x7)) (fun v => if ((M 0 2) + v) ≤ (200 : Int32) then b_X11_feed_67 M x1 x2 x3 x4 x5 (0 : Int32) else some ((-1 : Int32), M))
set_option maxRecDepth 20000 in
set_option maxHeartbeats 2000000 in
theorem w_X11_feed_11 {x : xC} (C : CtM x RX11 cX11_feed 9 ({ frames := 1, cells := 0, slots := 0, locals := 26 } : Room)) (M : xM) (x1 : Int32) (x2 : Int32) (x3 : Int32) (x4 : Int32) (x5 : Int32) (x6 : Int32) (x7 : Int32)  (o : Int32 × xM) (h : b_X11_feed_11 M x1 x2 x3 x4 x5 x6 x7 = some o) (hr : (x_me x).sig.returnType = some .int) (ev : x_rv x = some (.int o.1)) (eM : x_M x = o.2) : J x M 11 [(0, .ref (x_ad x 0)), (1, .int x1), (2, .int x2), (3, .int x3), (4, .int x4), (5, .int x5), (6, .int x6), (7, .int x7)] [] := by
  unfold b_X11_feed_11 at h
  obtain ⟨r_0, hr_0, h⟩ := bd_E h
  refine loopN_ind (JJ := fun s => J x M 11 [(0, .ref (x_ad x 0)), (1, .int x1), (2, .int x2), (3, .int x3), (4, .int x4), (5, .int x5), (6, .int s.1), (7, .int s.2)] []) (KX := fun q => q = r_0) ?_ BG (x6, x7) r_0 hr_0 rfl
  intro s o1 hb kk1 kk2
  refine wl_X11_feed_11 C M x1 x2 x3 x4 x5 s.1 s.2 _ hb kk1 ?_
  · intro v e0
    have e1 := kk2 _ e0
    subst e1
    refine r_aload_n C.1 0 dX11_feed_49 rfl rfl ?_
    refine gf_X11_64 C dX11_feed_50 ?_
    refine r_iload C.1 6 dX11_feed_53 rfl ?_
    refine r_iadd C.1 dX11_feed_55 ?_
    refine r_sipush (v := 200) C.1 dX11_feed_56 (by decide) ?_
    refine r_icmp_le C.1 64 dX11_feed_59 (by decide) (fun c_1 => ?_) (fun c_1 => ?_)
    · replace h := ite_T c_1 h
      refine r_iconst (v := 0) C.1 dX11_feed_64 rfl ?_
      refine r_istore C.1 [(7, .int (0 : Int32)), (0, .ref (x_ad x 0)), (1, .int x1), (2, .int x2), (3, .int x3), (4, .int x4), (5, .int x5), (6, .int v)] dX11_feed_65 (by decide) rfl rfl ?_
      exact r_sub [1, 2, 3, 4, 5, 6, 0] rfl (w_X11_feed_67 C M x1 x2 x3 x4 x5 (0 : Int32) _ h hr ev eM)
    · replace h := ite_F c_1 h
      refine r_iconst (v := -1) C.1 dX11_feed_62 rfl ?_
      obtain rfl := Option.some.inj h
      exact r_iret C.1 hr ev eM dX11_feed_63

def b_X11_feed_0 (M : xM) (x1 : Int32) (x2 : Int32) (x3 : Int32) (x4 : Int32) (x5 : Int32) : Option (Int32 × xM) :=
  lt (uM M 0 0 (0 : Int32)) (fun M_1 => b_X11_feed_11 M_1 x1 x2 x3 x4 x5 (0 : Int32) (0 : Int32))
set_option maxRecDepth 20000 in
set_option maxHeartbeats 2000000 in
theorem w_X11_feed_0 {x : xC} (C : CtM x RX11 cX11_feed 9 ({ frames := 1, cells := 0, slots := 0, locals := 26 } : Room)) (M : xM) (x1 : Int32) (x2 : Int32) (x3 : Int32) (x4 : Int32) (x5 : Int32)  (o : Int32 × xM) (h : b_X11_feed_0 M x1 x2 x3 x4 x5 = some o) (hr : (x_me x).sig.returnType = some .int) (ev : x_rv x = some (.int o.1)) (eM : x_M x = o.2) : J x M 0 [(0, .ref (x_ad x 0)), (1, .int x1), (2, .int x2), (3, .int x3), (4, .int x4), (5, .int x5)] [] := by
  unfold b_X11_feed_0 at h
  refine r_aload_n C.1 0 dX11_feed_0 rfl rfl ?_
  refine r_iconst (v := 0) C.1 dX11_feed_1 rfl ?_
  obtain ⟨M_1, eM_1, h⟩ := lt_E h
  refine pf_X11_56 C eM_1 dX11_feed_2 ?_
  refine r_iconst (v := 0) C.1 dX11_feed_5 rfl ?_
  refine r_istore C.1 [(6, .int (0 : Int32)), (0, .ref (x_ad x 0)), (1, .int x1), (2, .int x2), (3, .int x3), (4, .int x4), (5, .int x5)] dX11_feed_6 (by decide) rfl rfl ?_
  refine r_iconst (v := 0) C.1 dX11_feed_8 rfl ?_
  refine r_istore C.1 [(7, .int (0 : Int32)), (6, .int (0 : Int32)), (0, .ref (x_ad x 0)), (1, .int x1), (2, .int x2), (3, .int x3), (4, .int x4), (5, .int x5)] dX11_feed_9 (by decide) rfl rfl ?_
  exact r_sub [2, 3, 4, 5, 6, 7, 1, 0] rfl (w_X11_feed_11 C M_1 x1 x2 x3 x4 x5 (0 : Int32) (0 : Int32) _ h hr ev eM)
def f_X11_feed (M : xM) (x1 : Int32) (x2 : Int32) (x3 : Int32) (x4 : Int32) (x5 : Int32) : Option (Int32 × xM) := b_X11_feed_0 M x1 x2 x3 x4 x5
set_option maxRecDepth 20000 in
theorem m_X11_feed (l : Launch) (D : va_G) (ad : Nat → Nat) (M : xM) (x1 : Int32) (x2 : Int32) (x3 : Int32) (x4 : Int32) (x5 : Int32)  {r : Int32} {M1 : xM} (h : f_X11_feed M x1 x2 x3 x4 x5 = some (r, M1)) : xMetM l yX11_feed cX11_feed 9 (some .int) ({ frames := 1, cells := 0, slots := 0, locals := 26 } : Room) [.ref (ad 0), .int x1, .int x2, .int x3, .int x4, .int x5] D ad M (some (.int r)) M1 := by
  refine xMetM_of (own := RX11) (by decide) rfl (Nat.le_of_ble_eq_true rfl) ?_
  intro x C e1 e2 e3 ev eM hr
  subst e1; subst e2; subst e3
  refine r_sub (L := [(0, .ref (x_ad x 0)), (1, .int x1), (2, .int x2), (3, .int x3), (4, .int x4), (5, .int x5)]) (L' := [(0, .ref (x_ad x 0)), (1, .int x1), (2, .int x2), (3, .int x3), (4, .int x4), (5, .int x5)]) [0, 1, 2, 3, 4, 5] rfl ?_
  exact w_X11_feed_0 C M x1 x2 x3 x4 x5 _ h hr ev eM

def b_X11_end_0 (M : xM) (x1 : Int32) : Option (Int32 × xM) :=
  lt (uM M 0 0 (0 : Int32)) (fun M_1 => bd (f_X11_in M_1 x1.toInt64 (0 : Int64) ((M_1 0 2).toInt64)) (fun r_2 => if r_2 = 0 then some ((0 : Int32), M_1) else lt (uM M_1 0 2 x1) (fun M_5 => some ((1 : Int32), M_5))))
set_option maxRecDepth 20000 in
set_option maxHeartbeats 2000000 in
theorem w_X11_end_0 {x : xC} (C : CtM x RX11 cX11_end 2 ({ frames := 1, cells := 0, slots := 0, locals := 25 } : Room)) (M : xM) (x1 : Int32)  (o : Int32 × xM) (h : b_X11_end_0 M x1 = some o) (hr : (x_me x).sig.returnType = some .boolean) (ev : x_rv x = some (.int o.1)) (eM : x_M x = o.2) : J x M 0 [(0, .ref (x_ad x 0)), (1, .int x1)] [] := by
  unfold b_X11_end_0 at h
  refine r_aload_n C.1 0 dX11_end_0 rfl rfl ?_
  refine r_iconst (v := 0) C.1 dX11_end_1 rfl ?_
  obtain ⟨M_1, eM_1, h⟩ := lt_E h
  refine pf_X11_56 C eM_1 dX11_end_2 ?_
  refine r_iload_n C.1 1 dX11_end_5 rfl rfl ?_
  refine r_i2l C.1 dX11_end_6 ?_
  refine r_lconst (v := 0) C.1 dX11_end_7 rfl ?_
  refine r_aload_n C.1 0 dX11_end_8 rfl rfl ?_
  refine gf_X11_64 C dX11_end_9 ?_
  refine r_i2l C.1 dX11_end_12 ?_
  obtain ⟨r_2, hc_3, h⟩ := bd_E h
  refine cl_X11_67 C ⟨Nat.le_of_ble_eq_true rfl, Nat.le_of_ble_eq_true rfl⟩ (m_X11_in _ _ _ M_1 x1.toInt64 (0 : Int64) ((M_1 0 2).toInt64) hc_3) (Nat.le_of_ble_eq_true rfl) dX11_end_13 ?_
  refine r_if_ne C.1 21 dX11_end_16 (by decide) (fun c_4 => ?_) (fun c_4 => ?_)
  · replace h := ite_F c_4 h
    refine r_aload_n C.1 0 dX11_end_21 rfl rfl ?_
    refine r_iload_n C.1 1 dX11_end_22 rfl rfl ?_
    obtain ⟨M_5, eM_5, h⟩ := lt_E h
    refine pf_X11_64 C eM_5 dX11_end_23 ?_
    refine r_iconst (v := 1) C.1 dX11_end_26 rfl ?_
    obtain rfl := Option.some.inj h
    exact r_zret C.1 hr rfl ev eM dX11_end_27
  · replace h := ite_T c_4 h
    refine r_iconst (v := 0) C.1 dX11_end_19 rfl ?_
    obtain rfl := Option.some.inj h
    exact r_zret C.1 hr rfl ev eM dX11_end_20
def f_X11_end (M : xM) (x1 : Int32) : Option (Int32 × xM) := b_X11_end_0 M x1
set_option maxRecDepth 20000 in
theorem m_X11_end (l : Launch) (D : va_G) (ad : Nat → Nat) (M : xM) (x1 : Int32)  {r : Int32} {M1 : xM} (h : f_X11_end M x1 = some (r, M1)) : xMetM l yX11_end cX11_end 2 (some .boolean) ({ frames := 1, cells := 0, slots := 0, locals := 25 } : Room) [.ref (ad 0), .int x1] D ad M (some (.int r)) M1 := by
  refine xMetM_of (own := RX11) (by decide) rfl (Nat.le_of_ble_eq_true rfl) ?_
  intro x C e1 e2 e3 ev eM hr
  subst e1; subst e2; subst e3
  refine r_sub (L := [(0, .ref (x_ad x 0)), (1, .int x1)]) (L' := [(0, .ref (x_ad x 0)), (1, .int x1)]) [0, 1] rfl ?_
  exact w_X11_end_0 C M x1 _ h hr ev eM

def b_X11_see_18 (M : xM) (s0 : Int32) : Option (Int32) :=
  some s0
set_option maxRecDepth 20000 in
set_option maxHeartbeats 2000000 in
theorem w_X11_see_18 {x : xC} (C : CtM x RX11 cX11_see 2 ({ frames := 0, cells := 0, slots := 0, locals := 0 } : Room)) (M : xM) (s0 : Int32)  (o : Int32) (h : b_X11_see_18 M s0 = some o) (hr : (x_me x).sig.returnType = some .int) (ev : x_rv x = some (.int o)) (eM : x_M x = M) : J x M 18 [] [.int s0] := by
  unfold b_X11_see_18 at h
  obtain rfl := Option.some.inj h
  exact r_iret C.1 hr ev eM dX11_see_18

def b_X11_see_0 (M : xM) (x1 : Int32) : Option (Int32) :=
  if (M 0 2) ≤ x1 then b_X11_see_18 M (-1 : Int32) else gd x1 200 (b_X11_see_18 M (M 1 x1.toNatClampNeg))
set_option maxRecDepth 20000 in
set_option maxHeartbeats 2000000 in
theorem w_X11_see_0 {x : xC} (C : CtM x RX11 cX11_see 2 ({ frames := 0, cells := 0, slots := 0, locals := 0 } : Room)) (M : xM) (x1 : Int32)  (o : Int32) (h : b_X11_see_0 M x1 = some o) (hr : (x_me x).sig.returnType = some .int) (ev : x_rv x = some (.int o)) (eM : x_M x = M) : J x M 0 [(0, .ref (x_ad x 0)), (1, .int x1)] [] := by
  unfold b_X11_see_0 at h
  refine r_iload_n C.1 1 dX11_see_0 rfl rfl ?_
  refine r_aload_n C.1 0 dX11_see_1 rfl rfl ?_
  refine gf_X11_64 C dX11_see_2 ?_
  refine r_icmp_ge C.1 17 dX11_see_5 (by decide) (fun c_1 => ?_) (fun c_1 => ?_)
  · replace h := ite_T c_1 h
    refine r_iconst (v := -1) C.1 dX11_see_17 rfl ?_
    exact r_sub [] rfl (w_X11_see_18 C M (-1 : Int32) _ h hr ev eM)
  · replace h := ite_F c_1 h
    refine r_aload_n C.1 0 dX11_see_8 rfl rfl ?_
    refine gf_X11_9 C dX11_see_9 ?_
    refine r_iload_n C.1 1 dX11_see_12 rfl rfl ?_
    obtain ⟨q_2, h⟩ := gd_E h
    refine r_iald C.1 (mK C (by decide)) (mS C (shm_1)) 0 (mT0 C) q_2 dX11_see_13 ?_
    refine r_goto C.1 18 dX11_see_14 (by decide) ?_
    exact r_sub [] rfl (w_X11_see_18 C M (M 1 x1.toNatClampNeg) _ h hr ev eM)
def f_X11_see (M : xM) (x1 : Int32) : Option (Int32) := b_X11_see_0 M x1
set_option maxRecDepth 20000 in
theorem m_X11_see (l : Launch) (D : va_G) (ad : Nat → Nat) (M : xM) (x1 : Int32)  {o : Int32} (h : f_X11_see M x1 = some o) : xMetM l yX11_see cX11_see 2 (some .int) ({ frames := 0, cells := 0, slots := 0, locals := 0 } : Room) [.ref (ad 0), .int x1] D ad M (some (.int o)) M := by
  refine xMetM_of (own := RX11) (by decide) rfl (Nat.le_of_ble_eq_true rfl) ?_
  intro x C e1 e2 e3 ev eM hr
  subst e1; subst e2; subst e3
  refine r_sub (L := [(0, .ref (x_ad x 0)), (1, .int x1)]) (L' := [(0, .ref (x_ad x 0)), (1, .int x1)]) [0, 1] rfl ?_
  exact w_X11_see_0 C M x1 _ h hr ev eM

def b_X11_isSmall_17 (M : xM) (s0 : Int32) : Option (Int32) :=
  gz s0 (some s0)
set_option maxRecDepth 20000 in
set_option maxHeartbeats 2000000 in
theorem w_X11_isSmall_17 {x : xC} (C : CtM x RX11 cX11_isSmall 1 ({ frames := 0, cells := 0, slots := 0, locals := 0 } : Room)) (M : xM) (s0 : Int32)  (o : Int32) (h : b_X11_isSmall_17 M s0 = some o) (hr : (x_me x).sig.returnType = some .boolean) (ev : x_rv x = some (.int o)) (eM : x_M x = M) : J x M 17 [] [.int s0] := by
  unfold b_X11_isSmall_17 at h
  obtain ⟨z_1, h⟩ := gz_E h
  obtain rfl := Option.some.inj h
  exact r_zret C.1 hr (nz_n z_1) ev eM dX11_isSmall_17

def b_X11_isSmall_16 (M : xM)  : Option (Int32) :=
  b_X11_isSmall_17 M (0 : Int32)
set_option maxRecDepth 20000 in
set_option maxHeartbeats 2000000 in
theorem w_X11_isSmall_16 {x : xC} (C : CtM x RX11 cX11_isSmall 1 ({ frames := 0, cells := 0, slots := 0, locals := 0 } : Room)) (M : xM)   (o : Int32) (h : b_X11_isSmall_16 M = some o) (hr : (x_me x).sig.returnType = some .boolean) (ev : x_rv x = some (.int o)) (eM : x_M x = M) : J x M 16 [] [] := by
  unfold b_X11_isSmall_16 at h
  refine r_iconst (v := 0) C.1 dX11_isSmall_16 rfl ?_
  exact r_sub [] rfl (w_X11_isSmall_17 C M (0 : Int32) _ h hr ev eM)

def b_X11_isSmall_0 (M : xM) (x0 : Int32) : Option (Int32) :=
  if x0 < (97 : Int32) then b_X11_isSmall_16 M else if (122 : Int32) < x0 then b_X11_isSmall_16 M else b_X11_isSmall_17 M (1 : Int32)
set_option maxRecDepth 20000 in
set_option maxHeartbeats 2000000 in
theorem w_X11_isSmall_0 {x : xC} (C : CtM x RX11 cX11_isSmall 1 ({ frames := 0, cells := 0, slots := 0, locals := 0 } : Room)) (M : xM) (x0 : Int32)  (o : Int32) (h : b_X11_isSmall_0 M x0 = some o) (hr : (x_me x).sig.returnType = some .boolean) (ev : x_rv x = some (.int o)) (eM : x_M x = M) : J x M 0 [(0, .int x0)] [] := by
  unfold b_X11_isSmall_0 at h
  refine r_iload_n C.1 0 dX11_isSmall_0 rfl rfl ?_
  refine r_bipush (v := 97) C.1 dX11_isSmall_1 (by decide) ?_
  refine r_icmp_lt C.1 16 dX11_isSmall_3 (by decide) (fun c_1 => ?_) (fun c_1 => ?_)
  · replace h := ite_T c_1 h
    exact r_sub [] rfl (w_X11_isSmall_16 C M _ h hr ev eM)
  · replace h := ite_F c_1 h
    refine r_iload_n C.1 0 dX11_isSmall_6 rfl rfl ?_
    refine r_bipush (v := 122) C.1 dX11_isSmall_7 (by decide) ?_
    refine r_icmp_gt C.1 16 dX11_isSmall_9 (by decide) (fun c_2 => ?_) (fun c_2 => ?_)
    · replace h := ite_T c_2 h
      exact r_sub [] rfl (w_X11_isSmall_16 C M _ h hr ev eM)
    · replace h := ite_F c_2 h
      refine r_iconst (v := 1) C.1 dX11_isSmall_12 rfl ?_
      refine r_goto C.1 17 dX11_isSmall_13 (by decide) ?_
      exact r_sub [] rfl (w_X11_isSmall_17 C M (1 : Int32) _ h hr ev eM)
def f_X11_isSmall (M : xM) (x0 : Int32) : Option (Int32) := b_X11_isSmall_0 M x0
set_option maxRecDepth 20000 in
theorem m_X11_isSmall (l : Launch) (D : va_G) (ad : Nat → Nat) (M : xM) (x0 : Int32)  {o : Int32} (h : f_X11_isSmall M x0 = some o) : xMetM l yX11_isSmall cX11_isSmall 1 (some .boolean) ({ frames := 0, cells := 0, slots := 0, locals := 0 } : Room) [.int x0] D ad M (some (.int o)) M := by
  refine xMetM_of (own := RX11) (by decide) rfl (Nat.le_of_ble_eq_true rfl) ?_
  intro x C e1 e2 e3 ev eM hr
  subst e1; subst e2; subst e3
  refine r_sub (L := [(0, .int x0)]) (L' := [(0, .int x0)]) [0] rfl ?_
  exact w_X11_isSmall_0 C M x0 _ h hr ev eM

def b_X11_isDigit_17 (M : xM) (s0 : Int32) : Option (Int32) :=
  gz s0 (some s0)
set_option maxRecDepth 20000 in
set_option maxHeartbeats 2000000 in
theorem w_X11_isDigit_17 {x : xC} (C : CtM x RX11 cX11_isDigit 1 ({ frames := 0, cells := 0, slots := 0, locals := 0 } : Room)) (M : xM) (s0 : Int32)  (o : Int32) (h : b_X11_isDigit_17 M s0 = some o) (hr : (x_me x).sig.returnType = some .boolean) (ev : x_rv x = some (.int o)) (eM : x_M x = M) : J x M 17 [] [.int s0] := by
  unfold b_X11_isDigit_17 at h
  obtain ⟨z_1, h⟩ := gz_E h
  obtain rfl := Option.some.inj h
  exact r_zret C.1 hr (nz_n z_1) ev eM dX11_isDigit_17

def b_X11_isDigit_16 (M : xM)  : Option (Int32) :=
  b_X11_isDigit_17 M (0 : Int32)
set_option maxRecDepth 20000 in
set_option maxHeartbeats 2000000 in
theorem w_X11_isDigit_16 {x : xC} (C : CtM x RX11 cX11_isDigit 1 ({ frames := 0, cells := 0, slots := 0, locals := 0 } : Room)) (M : xM)   (o : Int32) (h : b_X11_isDigit_16 M = some o) (hr : (x_me x).sig.returnType = some .boolean) (ev : x_rv x = some (.int o)) (eM : x_M x = M) : J x M 16 [] [] := by
  unfold b_X11_isDigit_16 at h
  refine r_iconst (v := 0) C.1 dX11_isDigit_16 rfl ?_
  exact r_sub [] rfl (w_X11_isDigit_17 C M (0 : Int32) _ h hr ev eM)

def b_X11_isDigit_0 (M : xM) (x0 : Int32) : Option (Int32) :=
  if x0 < (48 : Int32) then b_X11_isDigit_16 M else if (57 : Int32) < x0 then b_X11_isDigit_16 M else b_X11_isDigit_17 M (1 : Int32)
set_option maxRecDepth 20000 in
set_option maxHeartbeats 2000000 in
theorem w_X11_isDigit_0 {x : xC} (C : CtM x RX11 cX11_isDigit 1 ({ frames := 0, cells := 0, slots := 0, locals := 0 } : Room)) (M : xM) (x0 : Int32)  (o : Int32) (h : b_X11_isDigit_0 M x0 = some o) (hr : (x_me x).sig.returnType = some .boolean) (ev : x_rv x = some (.int o)) (eM : x_M x = M) : J x M 0 [(0, .int x0)] [] := by
  unfold b_X11_isDigit_0 at h
  refine r_iload_n C.1 0 dX11_isDigit_0 rfl rfl ?_
  refine r_bipush (v := 48) C.1 dX11_isDigit_1 (by decide) ?_
  refine r_icmp_lt C.1 16 dX11_isDigit_3 (by decide) (fun c_1 => ?_) (fun c_1 => ?_)
  · replace h := ite_T c_1 h
    exact r_sub [] rfl (w_X11_isDigit_16 C M _ h hr ev eM)
  · replace h := ite_F c_1 h
    refine r_iload_n C.1 0 dX11_isDigit_6 rfl rfl ?_
    refine r_bipush (v := 57) C.1 dX11_isDigit_7 (by decide) ?_
    refine r_icmp_gt C.1 16 dX11_isDigit_9 (by decide) (fun c_2 => ?_) (fun c_2 => ?_)
    · replace h := ite_T c_2 h
      exact r_sub [] rfl (w_X11_isDigit_16 C M _ h hr ev eM)
    · replace h := ite_F c_2 h
      refine r_iconst (v := 1) C.1 dX11_isDigit_12 rfl ?_
      refine r_goto C.1 17 dX11_isDigit_13 (by decide) ?_
      exact r_sub [] rfl (w_X11_isDigit_17 C M (1 : Int32) _ h hr ev eM)
def f_X11_isDigit (M : xM) (x0 : Int32) : Option (Int32) := b_X11_isDigit_0 M x0
set_option maxRecDepth 20000 in
theorem m_X11_isDigit (l : Launch) (D : va_G) (ad : Nat → Nat) (M : xM) (x0 : Int32)  {o : Int32} (h : f_X11_isDigit M x0 = some o) : xMetM l yX11_isDigit cX11_isDigit 1 (some .boolean) ({ frames := 0, cells := 0, slots := 0, locals := 0 } : Room) [.int x0] D ad M (some (.int o)) M := by
  refine xMetM_of (own := RX11) (by decide) rfl (Nat.le_of_ble_eq_true rfl) ?_
  intro x C e1 e2 e3 ev eM hr
  subst e1; subst e2; subst e3
  refine r_sub (L := [(0, .int x0)]) (L' := [(0, .int x0)]) [0] rfl ?_
  exact w_X11_isDigit_0 C M x0 _ h hr ev eM

def b_X11_next_200 (M : xM)  : Option (xM) :=
  some M
set_option maxRecDepth 20000 in
set_option maxHeartbeats 2000000 in
theorem w_X11_next_200 {x : xC} (C : CtM x RX11 cX11_next 2 ({ frames := 1, cells := 0, slots := 0, locals := 24 } : Room)) (M : xM)   (o : xM) (h : b_X11_next_200 M = some o) (hr : (x_me x).sig.returnType = none) (ev : x_rv x = none) (eM : x_M x = o) : J x M 200 [] [] := by
  unfold b_X11_next_200 at h
  obtain rfl := Option.some.inj h
  exact r_vret C.1 hr ev eM dX11_next_200

def bl_X11_next_137 (M : xM)  : Option ((xM) ⊕ (xM)) :=
  if (M 0 6) = (2 : Int32) then bd (f_X11_see M (M 0 3)) (fun r_2 => bd (f_X11_isDigit M r_2) (fun r_4 => if r_4 = 0 then some (.inr M) else bd (f_X11_see M (M 0 3)) (fun r_7 => lt (uM M 0 7 (imin (1000000 : Int32) ((((10 : Int32) * (M 0 7)) + r_7) - (48 : Int32)))) (fun M_9 => lt (uM M_9 0 3 ((M_9 0 3) + (1 : Int32))) (fun M_10 => some (.inl M_10)))))) else some (.inr M)
set_option maxRecDepth 20000 in
set_option maxHeartbeats 2000000 in
theorem wl_X11_next_137 {x : xC} (C : CtM x RX11 cX11_next 2 ({ frames := 1, cells := 0, slots := 0, locals := 24 } : Room)) (M : xM)   (o : (xM) ⊕ (xM)) (h : bl_X11_next_137 M = some o) (kh : ∀ s : xM, o = .inl s → J x s 137 [(0, .ref (x_ad x 0))] []) (ke_0 : ∀ v : xM, o = .inr v → J x v 200 [] []) : J x M 137 [(0, .ref (x_ad x 0))] [] := by
  unfold bl_X11_next_137 at h
  refine r_aload_n C.1 0 dX11_next_137 rfl rfl ?_
  refine gf_X11_88 C dX11_next_138 ?_
  refine r_iconst (v := 2) C.1 dX11_next_141 rfl ?_
  refine r_icmp_ne C.1 200 dX11_next_142 (by decide) (fun c_1 => ?_) (fun c_1 => ?_)
  · replace h := ite_F c_1 h
    exact r_sub [] rfl (ke_0 _ (Option.some.inj h).symm)
  · replace h := ite_T c_1 h
    refine r_aload_n C.1 0 dX11_next_145 rfl rfl ?_
    refine r_aload_n C.1 0 dX11_next_146 rfl rfl ?_
    refine gf_X11_71 C dX11_next_147 ?_
    obtain ⟨r_2, hc_3, h⟩ := bd_E h
    refine cl_X11_74 C ⟨Nat.le_of_ble_eq_true rfl, Nat.le_of_ble_eq_true rfl⟩ (m_X11_see _ _ _ M (M 0 3) hc_3) (Nat.le_of_ble_eq_true rfl) dX11_next_150 ?_
    obtain ⟨r_4, hc_5, h⟩ := bd_E h
    refine cl_X11_85 C ⟨Nat.le_of_ble_eq_true rfl, Nat.le_of_ble_eq_true rfl⟩ (m_X11_isDigit _ _ _ M r_2 hc_5) (Nat.le_of_ble_eq_true rfl) dX11_next_153 ?_
    refine r_if_eq C.1 200 dX11_next_156 (by decide) (fun c_6 => ?_) (fun c_6 => ?_)
    · replace h := ite_T c_6 h
      exact r_sub [] rfl (ke_0 _ (Option.some.inj h).symm)
    · replace h := ite_F c_6 h
      refine r_aload_n C.1 0 dX11_next_159 rfl rfl ?_
      refine r_ldc (v := 1000000) C.1 kw_1382 dX11_next_160 ?_
      refine r_bipush (v := 10) C.1 dX11_next_162 (by decide) ?_
      refine r_aload_n C.1 0 dX11_next_164 rfl rfl ?_
      refine gf_X11_91 C dX11_next_165 ?_
      refine r_imul C.1 dX11_next_168 ?_
      refine r_aload_n C.1 0 dX11_next_169 rfl rfl ?_
      refine r_aload_n C.1 0 dX11_next_170 rfl rfl ?_
      refine gf_X11_71 C dX11_next_171 ?_
      obtain ⟨r_7, hc_8, h⟩ := bd_E h
      refine cl_X11_74 C ⟨Nat.le_of_ble_eq_true rfl, Nat.le_of_ble_eq_true rfl⟩ (m_X11_see _ _ _ M (M 0 3) hc_8) (Nat.le_of_ble_eq_true rfl) dX11_next_174 ?_
      refine r_iadd C.1 dX11_next_177 ?_
      refine r_bipush (v := 48) C.1 dX11_next_178 (by decide) ?_
      refine r_isub C.1 dX11_next_180 ?_
      refine cm_X11_95 C.1 (by decide) (by decide) (Nat.le_of_ble_eq_true rfl) dX11_next_181 ?_
      obtain ⟨M_9, eM_9, h⟩ := lt_E h
      refine pf_X11_91 C eM_9 dX11_next_184 ?_
      refine r_aload_n C.1 0 dX11_next_187 rfl rfl ?_
      refine r_dup C.1 rfl dX11_next_188 ?_
      refine gf_X11_71 C dX11_next_189 ?_
      refine r_iconst (v := 1) C.1 dX11_next_192 rfl ?_
      refine r_iadd C.1 dX11_next_193 ?_
      obtain ⟨M_10, eM_10, h⟩ := lt_E h
      refine pf_X11_71 C eM_10 dX11_next_194 ?_
      refine r_goto C.1 137 dX11_next_197 (by decide) ?_
      exact r_sub [0] rfl (kh _ (Option.some.inj h).symm)

def b_X11_next_137 (M : xM)  : Option (xM) :=
  bd (loopN (fun s : xM => bl_X11_next_137 s) BG M) (fun v => b_X11_next_200 v)
set_option maxRecDepth 20000 in
set_option maxHeartbeats 2000000 in
theorem w_X11_next_137 {x : xC} (C : CtM x RX11 cX11_next 2 ({ frames := 1, cells := 0, slots := 0, locals := 24 } : Room)) (M : xM)   (o : xM) (h : b_X11_next_137 M = some o) (hr : (x_me x).sig.returnType = none) (ev : x_rv x = none) (eM : x_M x = o) : J x M 137 [(0, .ref (x_ad x 0))] [] := by
  unfold b_X11_next_137 at h
  obtain ⟨r_0, hr_0, h⟩ := bd_E h
  refine loopN_ind (JJ := fun s => J x s 137 [(0, .ref (x_ad x 0))] []) (KX := fun q => q = r_0) ?_ BG M r_0 hr_0 rfl
  intro s o1 hb kk1 kk2
  refine wl_X11_next_137 C s _ hb kk1 ?_
  · intro v e0
    have e1 := kk2 _ e0
    subst e1
    exact r_sub [] rfl (w_X11_next_200 C v _ h hr ev eM)

def bl_X11_next_102 (M : xM)  : Option ((xM) ⊕ (xM)) :=
  if (M 0 6) = (1 : Int32) then bd (f_X11_see M (M 0 3)) (fun r_2 => bd (f_X11_isSmall M r_2) (fun r_4 => if r_4 = 0 then some (.inr M) else lt (uM M 0 3 ((M 0 3) + (1 : Int32))) (fun M_7 => some (.inl M_7)))) else some (.inr M)
set_option maxRecDepth 20000 in
set_option maxHeartbeats 2000000 in
theorem wl_X11_next_102 {x : xC} (C : CtM x RX11 cX11_next 2 ({ frames := 1, cells := 0, slots := 0, locals := 24 } : Room)) (M : xM)   (o : (xM) ⊕ (xM)) (h : bl_X11_next_102 M = some o) (kh : ∀ s : xM, o = .inl s → J x s 102 [(0, .ref (x_ad x 0))] []) (ke_0 : ∀ v : xM, o = .inr v → J x v 137 [(0, .ref (x_ad x 0))] []) : J x M 102 [(0, .ref (x_ad x 0))] [] := by
  unfold bl_X11_next_102 at h
  refine r_aload_n C.1 0 dX11_next_102 rfl rfl ?_
  refine gf_X11_88 C dX11_next_103 ?_
  refine r_iconst (v := 1) C.1 dX11_next_106 rfl ?_
  refine r_icmp_ne C.1 137 dX11_next_107 (by decide) (fun c_1 => ?_) (fun c_1 => ?_)
  · replace h := ite_F c_1 h
    exact r_sub [0] rfl (ke_0 _ (Option.some.inj h).symm)
  · replace h := ite_T c_1 h
    refine r_aload_n C.1 0 dX11_next_110 rfl rfl ?_
    refine r_aload_n C.1 0 dX11_next_111 rfl rfl ?_
    refine gf_X11_71 C dX11_next_112 ?_
    obtain ⟨r_2, hc_3, h⟩ := bd_E h
    refine cl_X11_74 C ⟨Nat.le_of_ble_eq_true rfl, Nat.le_of_ble_eq_true rfl⟩ (m_X11_see _ _ _ M (M 0 3) hc_3) (Nat.le_of_ble_eq_true rfl) dX11_next_115 ?_
    obtain ⟨r_4, hc_5, h⟩ := bd_E h
    refine cl_X11_81 C ⟨Nat.le_of_ble_eq_true rfl, Nat.le_of_ble_eq_true rfl⟩ (m_X11_isSmall _ _ _ M r_2 hc_5) (Nat.le_of_ble_eq_true rfl) dX11_next_118 ?_
    refine r_if_eq C.1 137 dX11_next_121 (by decide) (fun c_6 => ?_) (fun c_6 => ?_)
    · replace h := ite_T c_6 h
      exact r_sub [0] rfl (ke_0 _ (Option.some.inj h).symm)
    · replace h := ite_F c_6 h
      refine r_aload_n C.1 0 dX11_next_124 rfl rfl ?_
      refine r_dup C.1 rfl dX11_next_125 ?_
      refine gf_X11_71 C dX11_next_126 ?_
      refine r_iconst (v := 1) C.1 dX11_next_129 rfl ?_
      refine r_iadd C.1 dX11_next_130 ?_
      obtain ⟨M_7, eM_7, h⟩ := lt_E h
      refine pf_X11_71 C eM_7 dX11_next_131 ?_
      refine r_goto C.1 102 dX11_next_134 (by decide) ?_
      exact r_sub [0] rfl (kh _ (Option.some.inj h).symm)

def b_X11_next_102 (M : xM)  : Option (xM) :=
  bd (loopN (fun s : xM => bl_X11_next_102 s) BG M) (fun v => b_X11_next_137 v)
set_option maxRecDepth 20000 in
set_option maxHeartbeats 2000000 in
theorem w_X11_next_102 {x : xC} (C : CtM x RX11 cX11_next 2 ({ frames := 1, cells := 0, slots := 0, locals := 24 } : Room)) (M : xM)   (o : xM) (h : b_X11_next_102 M = some o) (hr : (x_me x).sig.returnType = none) (ev : x_rv x = none) (eM : x_M x = o) : J x M 102 [(0, .ref (x_ad x 0))] [] := by
  unfold b_X11_next_102 at h
  obtain ⟨r_0, hr_0, h⟩ := bd_E h
  refine loopN_ind (JJ := fun s => J x s 102 [(0, .ref (x_ad x 0))] []) (KX := fun q => q = r_0) ?_ BG M r_0 hr_0 rfl
  intro s o1 hb kk1 kk2
  refine wl_X11_next_102 C s _ hb kk1 ?_
  · intro v e0
    have e1 := kk2 _ e0
    subst e1
    exact r_sub [0] rfl (w_X11_next_137 C v _ h hr ev eM)

def b_X11_next_76 (M : xM) (s0 : Int32) : Option (xM) :=
  lt (uM M 0 6 s0) (fun M_1 => lt (uM M_1 0 7 (0 : Int32)) (fun M_2 => if (M_2 0 6) = (3 : Int32) then lt (uM M_2 0 3 ((M_2 0 3) + (1 : Int32))) (fun M_4 => b_X11_next_102 M_4) else b_X11_next_102 M_2))
set_option maxRecDepth 20000 in
set_option maxHeartbeats 2000000 in
theorem w_X11_next_76 {x : xC} (C : CtM x RX11 cX11_next 2 ({ frames := 1, cells := 0, slots := 0, locals := 24 } : Room)) (M : xM) (s0 : Int32)  (o : xM) (h : b_X11_next_76 M s0 = some o) (hr : (x_me x).sig.returnType = none) (ev : x_rv x = none) (eM : x_M x = o) : J x M 76 [(0, .ref (x_ad x 0))] [.int s0, .ref (x_ad x 0)] := by
  unfold b_X11_next_76 at h
  obtain ⟨M_1, eM_1, h⟩ := lt_E h
  refine pf_X11_88 C eM_1 dX11_next_76 ?_
  refine r_aload_n C.1 0 dX11_next_79 rfl rfl ?_
  refine r_iconst (v := 0) C.1 dX11_next_80 rfl ?_
  obtain ⟨M_2, eM_2, h⟩ := lt_E h
  refine pf_X11_91 C eM_2 dX11_next_81 ?_
  refine r_aload_n C.1 0 dX11_next_84 rfl rfl ?_
  refine gf_X11_88 C dX11_next_85 ?_
  refine r_iconst (v := 3) C.1 dX11_next_88 rfl ?_
  refine r_icmp_ne C.1 102 dX11_next_89 (by decide) (fun c_3 => ?_) (fun c_3 => ?_)
  · replace h := ite_F c_3 h
    exact r_sub [0] rfl (w_X11_next_102 C M_2 _ h hr ev eM)
  · replace h := ite_T c_3 h
    refine r_aload_n C.1 0 dX11_next_92 rfl rfl ?_
    refine r_dup C.1 rfl dX11_next_93 ?_
    refine gf_X11_71 C dX11_next_94 ?_
    refine r_iconst (v := 1) C.1 dX11_next_97 rfl ?_
    refine r_iadd C.1 dX11_next_98 ?_
    obtain ⟨M_4, eM_4, h⟩ := lt_E h
    refine pf_X11_71 C eM_4 dX11_next_99 ?_
    exact r_sub [0] rfl (w_X11_next_102 C M_4 _ h hr ev eM)

def bl_X11_next_0 (M : xM)  : Option ((xM) ⊕ (xM)) :=
  bd (f_X11_see M (M 0 3)) (fun r_1 => if r_1 = (32 : Int32) then lt (uM M 0 3 ((M 0 3) + (1 : Int32))) (fun M_4 => some (.inl M_4)) else some (.inr M))
set_option maxRecDepth 20000 in
set_option maxHeartbeats 2000000 in
theorem wl_X11_next_0 {x : xC} (C : CtM x RX11 cX11_next 2 ({ frames := 1, cells := 0, slots := 0, locals := 24 } : Room)) (M : xM)   (o : (xM) ⊕ (xM)) (h : bl_X11_next_0 M = some o) (kh : ∀ s : xM, o = .inl s → J x s 0 [(0, .ref (x_ad x 0))] []) (ke_0 : ∀ v : xM, o = .inr v → J x v 26 [(0, .ref (x_ad x 0))] []) : J x M 0 [(0, .ref (x_ad x 0))] [] := by
  unfold bl_X11_next_0 at h
  refine r_aload_n C.1 0 dX11_next_0 rfl rfl ?_
  refine r_aload_n C.1 0 dX11_next_1 rfl rfl ?_
  refine gf_X11_71 C dX11_next_2 ?_
  obtain ⟨r_1, hc_2, h⟩ := bd_E h
  refine cl_X11_74 C ⟨Nat.le_of_ble_eq_true rfl, Nat.le_of_ble_eq_true rfl⟩ (m_X11_see _ _ _ M (M 0 3) hc_2) (Nat.le_of_ble_eq_true rfl) dX11_next_5 ?_
  refine r_bipush (v := 32) C.1 dX11_next_8 (by decide) ?_
  refine r_icmp_ne C.1 26 dX11_next_10 (by decide) (fun c_3 => ?_) (fun c_3 => ?_)
  · replace h := ite_F c_3 h
    exact r_sub [0] rfl (ke_0 _ (Option.some.inj h).symm)
  · replace h := ite_T c_3 h
    refine r_aload_n C.1 0 dX11_next_13 rfl rfl ?_
    refine r_dup C.1 rfl dX11_next_14 ?_
    refine gf_X11_71 C dX11_next_15 ?_
    refine r_iconst (v := 1) C.1 dX11_next_18 rfl ?_
    refine r_iadd C.1 dX11_next_19 ?_
    obtain ⟨M_4, eM_4, h⟩ := lt_E h
    refine pf_X11_71 C eM_4 dX11_next_20 ?_
    refine r_goto C.1 0 dX11_next_23 (by decide) ?_
    exact r_sub [0] rfl (kh _ (Option.some.inj h).symm)

def b_X11_next_0 (M : xM)  : Option (xM) :=
  bd (loopN (fun s : xM => bl_X11_next_0 s) BG M) (fun v => lt (uM v 0 4 (v 0 3)) (fun M_1 => bd (f_X11_see M_1 (M_1 0 3)) (fun r_2 => if r_2 = (-1 : Int32) then b_X11_next_76 M_1 (0 : Int32) else bd (f_X11_isSmall M_1 r_2) (fun r_5 => if r_5 = 0 then bd (f_X11_isDigit M_1 r_2) (fun r_8 => if r_8 = 0 then b_X11_next_76 M_1 (3 : Int32) else b_X11_next_76 M_1 (2 : Int32)) else b_X11_next_76 M_1 (1 : Int32)))))
set_option maxRecDepth 20000 in
set_option maxHeartbeats 2000000 in
theorem w_X11_next_0 {x : xC} (C : CtM x RX11 cX11_next 2 ({ frames := 1, cells := 0, slots := 0, locals := 24 } : Room)) (M : xM)   (o : xM) (h : b_X11_next_0 M = some o) (hr : (x_me x).sig.returnType = none) (ev : x_rv x = none) (eM : x_M x = o) : J x M 0 [(0, .ref (x_ad x 0))] [] := by
  unfold b_X11_next_0 at h
  obtain ⟨r_0, hr_0, h⟩ := bd_E h
  refine loopN_ind (JJ := fun s => J x s 0 [(0, .ref (x_ad x 0))] []) (KX := fun q => q = r_0) ?_ BG M r_0 hr_0 rfl
  intro s o1 hb kk1 kk2
  refine wl_X11_next_0 C s _ hb kk1 ?_
  · intro v e0
    have e1 := kk2 _ e0
    subst e1
    refine r_aload_n C.1 0 dX11_next_26 rfl rfl ?_
    refine r_aload_n C.1 0 dX11_next_27 rfl rfl ?_
    refine gf_X11_71 C dX11_next_28 ?_
    obtain ⟨M_1, eM_1, h⟩ := lt_E h
    refine pf_X11_78 C eM_1 dX11_next_31 ?_
    refine r_aload_n C.1 0 dX11_next_34 rfl rfl ?_
    refine r_aload_n C.1 0 dX11_next_35 rfl rfl ?_
    refine gf_X11_71 C dX11_next_36 ?_
    obtain ⟨r_2, hc_3, h⟩ := bd_E h
    refine cl_X11_74 C ⟨Nat.le_of_ble_eq_true rfl, Nat.le_of_ble_eq_true rfl⟩ (m_X11_see _ _ _ M_1 (M_1 0 3) hc_3) (Nat.le_of_ble_eq_true rfl) dX11_next_39 ?_
    refine r_istore_n C.1 [(1, .int r_2), (0, .ref (x_ad x 0))] dX11_next_42 rfl (by decide) rfl rfl ?_
    refine r_aload_n C.1 1 dX11_next_43 rfl rfl ?_
    refine r_iload_n C.1 0 dX11_next_44 rfl rfl ?_
    refine r_iconst (v := -1) C.1 dX11_next_45 rfl ?_
    refine r_icmp_ne C.1 53 dX11_next_46 (by decide) (fun c_4 => ?_) (fun c_4 => ?_)
    · replace h := ite_F c_4 h
      refine r_iload_n C.1 0 dX11_next_53 rfl rfl ?_
      obtain ⟨r_5, hc_6, h⟩ := bd_E h
      refine cl_X11_81 C ⟨Nat.le_of_ble_eq_true rfl, Nat.le_of_ble_eq_true rfl⟩ (m_X11_isSmall _ _ _ M_1 r_2 hc_6) (Nat.le_of_ble_eq_true rfl) dX11_next_54 ?_
      refine r_if_eq C.1 64 dX11_next_57 (by decide) (fun c_7 => ?_) (fun c_7 => ?_)
      · replace h := ite_T c_7 h
        refine r_iload_n C.1 0 dX11_next_64 rfl rfl ?_
        obtain ⟨r_8, hc_9, h⟩ := bd_E h
        refine cl_X11_85 C ⟨Nat.le_of_ble_eq_true rfl, Nat.le_of_ble_eq_true rfl⟩ (m_X11_isDigit _ _ _ M_1 r_2 hc_9) (Nat.le_of_ble_eq_true rfl) dX11_next_65 ?_
        refine r_if_eq C.1 75 dX11_next_68 (by decide) (fun c_10 => ?_) (fun c_10 => ?_)
        · replace h := ite_T c_10 h
          refine r_iconst (v := 3) C.1 dX11_next_75 rfl ?_
          exact r_sub [1] rfl (w_X11_next_76 C M_1 (3 : Int32) _ h hr ev eM)
        · replace h := ite_F c_10 h
          refine r_iconst (v := 2) C.1 dX11_next_71 rfl ?_
          refine r_goto C.1 76 dX11_next_72 (by decide) ?_
          exact r_sub [1] rfl (w_X11_next_76 C M_1 (2 : Int32) _ h hr ev eM)
      · replace h := ite_F c_7 h
        refine r_iconst (v := 1) C.1 dX11_next_60 rfl ?_
        refine r_goto C.1 76 dX11_next_61 (by decide) ?_
        exact r_sub [1] rfl (w_X11_next_76 C M_1 (1 : Int32) _ h hr ev eM)
    · replace h := ite_T c_4 h
      refine r_iconst (v := 0) C.1 dX11_next_49 rfl ?_
      refine r_goto C.1 76 dX11_next_50 (by decide) ?_
      exact r_sub [1] rfl (w_X11_next_76 C M_1 (0 : Int32) _ h hr ev eM)
def f_X11_next (M : xM)  : Option (xM) := b_X11_next_0 M 
set_option maxRecDepth 20000 in
theorem m_X11_next (l : Launch) (D : va_G) (ad : Nat → Nat) (M : xM)   {o : xM} (h : f_X11_next M = some o) : xMetM l yX11_next cX11_next 2 none ({ frames := 1, cells := 0, slots := 0, locals := 24 } : Room) [.ref (ad 0)] D ad M none o := by
  refine xMetM_of (own := RX11) (by decide) rfl (Nat.le_of_ble_eq_true rfl) ?_
  intro x C e1 e2 e3 ev eM hr
  subst e1; subst e2; subst e3
  refine r_sub (L := [(0, .ref (x_ad x 0))]) (L' := [(0, .ref (x_ad x 0))]) [0] rfl ?_
  exact w_X11_next_0 C M _ h hr ev eM

def b_X11_bad_20 (M : xM) (s0 : Int32) : Option (xM) :=
  lt (uM M 0 5 s0) (fun M_1 => some M_1)
set_option maxRecDepth 20000 in
set_option maxHeartbeats 2000000 in
theorem w_X11_bad_20 {x : xC} (C : CtM x RX11 cX11_bad 1 ({ frames := 0, cells := 0, slots := 0, locals := 0 } : Room)) (M : xM) (s0 : Int32)  (o : xM) (h : b_X11_bad_20 M s0 = some o) (hr : (x_me x).sig.returnType = none) (ev : x_rv x = none) (eM : x_M x = o) : J x M 20 [] [.int s0, .ref (x_ad x 0)] := by
  unfold b_X11_bad_20 at h
  obtain ⟨M_1, eM_1, h⟩ := lt_E h
  refine pf_X11_101 C eM_1 dX11_bad_20 ?_
  obtain rfl := Option.some.inj h
  exact r_vret C.1 hr ev eM dX11_bad_23

def b_X11_bad_0 (M : xM)  : Option (xM) :=
  if (M 0 5) = (-1 : Int32) then b_X11_bad_20 M (M 0 4) else b_X11_bad_20 M (M 0 5)
set_option maxRecDepth 20000 in
set_option maxHeartbeats 2000000 in
theorem w_X11_bad_0 {x : xC} (C : CtM x RX11 cX11_bad 1 ({ frames := 0, cells := 0, slots := 0, locals := 0 } : Room)) (M : xM)   (o : xM) (h : b_X11_bad_0 M = some o) (hr : (x_me x).sig.returnType = none) (ev : x_rv x = none) (eM : x_M x = o) : J x M 0 [(0, .ref (x_ad x 0))] [] := by
  unfold b_X11_bad_0 at h
  refine r_aload_n C.1 0 dX11_bad_0 rfl rfl ?_
  refine r_aload_n C.1 0 dX11_bad_1 rfl rfl ?_
  refine gf_X11_101 C dX11_bad_2 ?_
  refine r_iconst (v := -1) C.1 dX11_bad_5 rfl ?_
  refine r_icmp_ne C.1 16 dX11_bad_6 (by decide) (fun c_1 => ?_) (fun c_1 => ?_)
  · replace h := ite_F c_1 h
    refine r_aload_n C.1 0 dX11_bad_16 rfl rfl ?_
    refine gf_X11_101 C dX11_bad_17 ?_
    exact r_sub [] rfl (w_X11_bad_20 C M (M 0 5) _ h hr ev eM)
  · replace h := ite_T c_1 h
    refine r_aload_n C.1 0 dX11_bad_9 rfl rfl ?_
    refine gf_X11_78 C dX11_bad_10 ?_
    refine r_goto C.1 20 dX11_bad_13 (by decide) ?_
    exact r_sub [] rfl (w_X11_bad_20 C M (M 0 4) _ h hr ev eM)
def f_X11_bad (M : xM)  : Option (xM) := b_X11_bad_0 M 
set_option maxRecDepth 20000 in
theorem m_X11_bad (l : Launch) (D : va_G) (ad : Nat → Nat) (M : xM)   {o : xM} (h : f_X11_bad M = some o) : xMetM l yX11_bad cX11_bad 1 none ({ frames := 0, cells := 0, slots := 0, locals := 0 } : Room) [.ref (ad 0)] D ad M none o := by
  refine xMetM_of (own := RX11) (by decide) rfl (Nat.le_of_ble_eq_true rfl) ?_
  intro x C e1 e2 e3 ev eM hr
  subst e1; subst e2; subst e3
  refine r_sub (L := [(0, .ref (x_ad x 0))]) (L' := [(0, .ref (x_ad x 0))]) [0] rfl ?_
  exact w_X11_bad_0 C M _ h hr ev eM

def b_X11_isWord_83 (M : xM) (x2 : Int32) : Option (Int32) :=
  gz x2 (some x2)
set_option maxRecDepth 20000 in
set_option maxHeartbeats 2000000 in
theorem w_X11_isWord_83 {x : xC} (C : CtM x RX11 cX11_isWord 4 ({ frames := 4, cells := 0, slots := 0, locals := 85 } : Room)) (M : xM) (x2 : Int32)  (o : Int32) (h : b_X11_isWord_83 M x2 = some o) (hr : (x_me x).sig.returnType = some .boolean) (ev : x_rv x = some (.int o)) (eM : x_M x = M) : J x M 83 [(2, .int x2)] [] := by
  unfold b_X11_isWord_83 at h
  refine r_iload_n C.1 0 dX11_isWord_83 rfl rfl ?_
  obtain ⟨z_1, h⟩ := gz_E h
  obtain rfl := Option.some.inj h
  exact r_zret C.1 hr (nz_n z_1) ev eM dX11_isWord_84

def b_X11_isWord_76 (M : xM) (k1 : Nat) (x3 : Int32) (s0 : Int32) : Option ((Int32 × Int32) ⊕ (Int32)) :=
  lt (x3 + (1 : Int32)) (fun y_1 => some (.inl (s0, y_1)))
set_option maxRecDepth 20000 in
set_option maxHeartbeats 2000000 in
theorem w_X11_isWord_76 {x : xC} (C : CtM x RX11 cX11_isWord 4 ({ frames := 4, cells := 0, slots := 0, locals := 85 } : Room)) (M : xM) (k1 : Nat) (x3 : Int32) (s0 : Int32) (h1 : KS k1) (o : (Int32 × Int32) ⊕ (Int32)) (h : b_X11_isWord_76 M k1 x3 s0 = some o) (kh : ∀ s : Int32 × Int32, o = .inl s → J x M 40 [(0, .ref (x_ad x 0)), (1, .ref (x_ad x (1020 + k1))), (2, .int s.1), (3, .int s.2)] []) (ke_0 : ∀ v : Int32, o = .inr v → J x M 83 [(2, .int v)] []) : J x M 76 [(0, .ref (x_ad x 0)), (1, .ref (x_ad x (1020 + k1))), (3, .int x3)] [.int s0] := by
  unfold b_X11_isWord_76 at h
  refine r_istore_n C.1 [(2, .int s0), (0, .ref (x_ad x 0)), (1, .ref (x_ad x (1020 + k1))), (3, .int x3)] dX11_isWord_76 rfl (by decide) rfl rfl ?_
  obtain ⟨y_1, ey_1, h⟩ := lt_E h
  refine r_iinc C.1 3 [(3, .int y_1), (2, .int s0), (0, .ref (x_ad x 0)), (1, .ref (x_ad x (1020 + k1)))] dX11_isWord_77 rfl ey_1 (by decide) rfl ?_
  refine r_goto C.1 40 dX11_isWord_80 (by decide) ?_
  exact r_sub [2, 3, 1, 0] rfl (kh _ (Option.some.inj h).symm)

def bl_X11_isWord_40 (M : xM) (k1 : Nat) (x2 : Int32) (x3 : Int32) : Option ((Int32 × Int32) ⊕ (Int32)) :=
  if x2 = 0 then some (.inr x2) else if (Int32.ofNat (sLen k1)) ≤ x3 then some (.inr x2) else gd ((M 0 4) + x3) 200 (gd x3 (sLen k1) (if (M 1 ((M 0 4) + x3).toNatClampNeg) = (sByt k1 x3.toNatClampNeg) then b_X11_isWord_76 M k1 x3 (1 : Int32) else b_X11_isWord_76 M k1 x3 (0 : Int32)))
set_option maxRecDepth 20000 in
set_option maxHeartbeats 2000000 in
theorem wl_X11_isWord_40 {x : xC} (C : CtM x RX11 cX11_isWord 4 ({ frames := 4, cells := 0, slots := 0, locals := 85 } : Room)) (M : xM) (k1 : Nat) (x2 : Int32) (x3 : Int32) (h1 : KS k1) (o : (Int32 × Int32) ⊕ (Int32)) (h : bl_X11_isWord_40 M k1 x2 x3 = some o) (kh : ∀ s : Int32 × Int32, o = .inl s → J x M 40 [(0, .ref (x_ad x 0)), (1, .ref (x_ad x (1020 + k1))), (2, .int s.1), (3, .int s.2)] []) (ke_0 : ∀ v : Int32, o = .inr v → J x M 83 [(2, .int v)] []) : J x M 40 [(0, .ref (x_ad x 0)), (1, .ref (x_ad x (1020 + k1))), (2, .int x2), (3, .int x3)] [] := by
  unfold bl_X11_isWord_40 at h
  refine r_iload_n C.1 2 dX11_isWord_40 rfl rfl ?_
  refine r_if_eq C.1 83 dX11_isWord_41 (by decide) (fun c_1 => ?_) (fun c_1 => ?_)
  · replace h := ite_T c_1 h
    exact r_sub [2] rfl (ke_0 _ (Option.some.inj h).symm)
  · replace h := ite_F c_1 h
    refine r_iload_n C.1 3 dX11_isWord_44 rfl rfl ?_
    refine r_aload_n C.1 1 dX11_isWord_45 rfl rfl ?_
    refine r_callO C.1 C.2.2.2.2 (As := []) (nn := 0) (js_length _ _ _ _ _ _ M h1) ⟨kw_1402, kw_394, kw_395, kw_12, kw_396⟩ ⟨rfl, by decide +kernel, by decide +kernel, by decide +kernel⟩ ⟨rfl, rfl, Nat.le_of_ble_eq_true rfl, Nat.le_of_ble_eq_true rfl⟩ (cStr C.2.2.2.2 h1) rfl rfl (Nat.le_of_ble_eq_true rfl) dX11_isWord_46 ?_
    refine r_icmp_ge C.1 83 dX11_isWord_49 (by decide) (fun c_2 => ?_) (fun c_2 => ?_)
    · replace h := ite_T c_2 h
      exact r_sub [2] rfl (ke_0 _ (Option.some.inj h).symm)
    · replace h := ite_F c_2 h
      refine r_aload_n C.1 0 dX11_isWord_52 rfl rfl ?_
      refine gf_X11_9 C dX11_isWord_53 ?_
      refine r_aload_n C.1 0 dX11_isWord_56 rfl rfl ?_
      refine gf_X11_78 C dX11_isWord_57 ?_
      refine r_iload_n C.1 3 dX11_isWord_60 rfl rfl ?_
      refine r_iadd C.1 dX11_isWord_61 ?_
      obtain ⟨q_3, h⟩ := gd_E h
      refine r_iald C.1 (mK C (by decide)) (mS C (shm_1)) 0 (mT0 C) q_3 dX11_isWord_62 ?_
      refine r_aload_n C.1 1 dX11_isWord_63 rfl rfl ?_
      refine r_iload_n C.1 3 dX11_isWord_64 rfl rfl ?_
      obtain ⟨q_4, h⟩ := gd_E h
      refine r_callO C.1 C.2.2.2.2 (As := [.int x3]) (nn := 1) (js_charAt _ _ _ _ _ _ M h1 x3 q_4) ⟨kw_1403, kw_404, kw_405, kw_12, kw_406⟩ ⟨rfl, by decide +kernel, by decide +kernel, by decide +kernel⟩ ⟨rfl, rfl, Nat.le_of_ble_eq_true rfl, Nat.le_of_ble_eq_true rfl⟩ (cStr C.2.2.2.2 h1) rfl rfl (Nat.le_of_ble_eq_true rfl) dX11_isWord_65 ?_
      refine r_icmp_ne C.1 75 dX11_isWord_68 (by decide) (fun c_5 => ?_) (fun c_5 => ?_)
      · replace h := ite_F c_5 h
        refine r_iconst (v := 0) C.1 dX11_isWord_75 rfl ?_
        exact r_sub [0, 1, 3] rfl (w_X11_isWord_76 C M k1 x3 (0 : Int32) h1 _ h kh ke_0)
      · replace h := ite_T c_5 h
        refine r_iconst (v := 1) C.1 dX11_isWord_71 rfl ?_
        refine r_goto C.1 76 dX11_isWord_72 (by decide) ?_
        exact r_sub [0, 1, 3] rfl (w_X11_isWord_76 C M k1 x3 (1 : Int32) h1 _ h kh ke_0)

def b_X11_isWord_40 (M : xM) (k1 : Nat) (x2 : Int32) (x3 : Int32) : Option (Int32) :=
  bd (loopN (fun s : Int32 × Int32 => bl_X11_isWord_40 M k1 s.1 s.2) BG (x2, x3)) (fun v => b_X11_isWord_83 M v)
set_option maxRecDepth 20000 in
set_option maxHeartbeats 2000000 in
theorem w_X11_isWord_40 {x : xC} (C : CtM x RX11 cX11_isWord 4 ({ frames := 4, cells := 0, slots := 0, locals := 85 } : Room)) (M : xM) (k1 : Nat) (x2 : Int32) (x3 : Int32) (h1 : KS k1) (o : Int32) (h : b_X11_isWord_40 M k1 x2 x3 = some o) (hr : (x_me x).sig.returnType = some .boolean) (ev : x_rv x = some (.int o)) (eM : x_M x = M) : J x M 40 [(0, .ref (x_ad x 0)), (1, .ref (x_ad x (1020 + k1))), (2, .int x2), (3, .int x3)] [] := by
  unfold b_X11_isWord_40 at h
  obtain ⟨r_0, hr_0, h⟩ := bd_E h
  refine loopN_ind (JJ := fun s => J x M 40 [(0, .ref (x_ad x 0)), (1, .ref (x_ad x (1020 + k1))), (2, .int s.1), (3, .int s.2)] []) (KX := fun q => q = r_0) ?_ BG (x2, x3) r_0 hr_0 rfl
  intro s o1 hb kk1 kk2
  refine wl_X11_isWord_40 C M k1 s.1 s.2 h1 _ hb kk1 ?_
  · intro v e0
    have e1 := kk2 _ e0
    subst e1
    exact r_sub [0] rfl (w_X11_isWord_83 C M v _ h hr ev eM)

def b_X11_isWord_37 (M : xM) (k1 : Nat) (s0 : Int32) : Option (Int32) :=
  b_X11_isWord_40 M k1 s0 (0 : Int32)
set_option maxRecDepth 20000 in
set_option maxHeartbeats 2000000 in
theorem w_X11_isWord_37 {x : xC} (C : CtM x RX11 cX11_isWord 4 ({ frames := 4, cells := 0, slots := 0, locals := 85 } : Room)) (M : xM) (k1 : Nat) (s0 : Int32) (h1 : KS k1) (o : Int32) (h : b_X11_isWord_37 M k1 s0 = some o) (hr : (x_me x).sig.returnType = some .boolean) (ev : x_rv x = some (.int o)) (eM : x_M x = M) : J x M 37 [(0, .ref (x_ad x 0)), (1, .ref (x_ad x (1020 + k1)))] [.int s0] := by
  unfold b_X11_isWord_37 at h
  refine r_istore_n C.1 [(2, .int s0), (0, .ref (x_ad x 0)), (1, .ref (x_ad x (1020 + k1)))] dX11_isWord_37 rfl (by decide) rfl rfl ?_
  refine r_iconst (v := 0) C.1 dX11_isWord_38 rfl ?_
  refine r_istore_n C.1 [(3, .int (0 : Int32)), (2, .int s0), (0, .ref (x_ad x 0)), (1, .ref (x_ad x (1020 + k1)))] dX11_isWord_39 rfl (by decide) rfl rfl ?_
  exact r_sub [2, 3, 1, 0] rfl (w_X11_isWord_40 C M k1 s0 (0 : Int32) h1 _ h hr ev eM)

def b_X11_isWord_36 (M : xM) (k1 : Nat) : Option (Int32) :=
  b_X11_isWord_37 M k1 (0 : Int32)
set_option maxRecDepth 20000 in
set_option maxHeartbeats 2000000 in
theorem w_X11_isWord_36 {x : xC} (C : CtM x RX11 cX11_isWord 4 ({ frames := 4, cells := 0, slots := 0, locals := 85 } : Room)) (M : xM) (k1 : Nat) (h1 : KS k1) (o : Int32) (h : b_X11_isWord_36 M k1 = some o) (hr : (x_me x).sig.returnType = some .boolean) (ev : x_rv x = some (.int o)) (eM : x_M x = M) : J x M 36 [(0, .ref (x_ad x 0)), (1, .ref (x_ad x (1020 + k1)))] [] := by
  unfold b_X11_isWord_36 at h
  refine r_iconst (v := 0) C.1 dX11_isWord_36 rfl ?_
  exact r_sub [0, 1] rfl (w_X11_isWord_37 C M k1 (0 : Int32) h1 _ h hr ev eM)

def b_X11_isWord_0 (M : xM) (k1 : Nat) : Option (Int32) :=
  if (M 0 5) = (-1 : Int32) then if (M 0 6) = (1 : Int32) then if ((M 0 3) - (M 0 4)) = (Int32.ofNat (sLen k1)) then b_X11_isWord_37 M k1 (1 : Int32) else b_X11_isWord_36 M k1 else b_X11_isWord_36 M k1 else b_X11_isWord_36 M k1
set_option maxRecDepth 20000 in
set_option maxHeartbeats 2000000 in
theorem w_X11_isWord_0 {x : xC} (C : CtM x RX11 cX11_isWord 4 ({ frames := 4, cells := 0, slots := 0, locals := 85 } : Room)) (M : xM) (k1 : Nat) (h1 : KS k1) (o : Int32) (h : b_X11_isWord_0 M k1 = some o) (hr : (x_me x).sig.returnType = some .boolean) (ev : x_rv x = some (.int o)) (eM : x_M x = M) : J x M 0 [(0, .ref (x_ad x 0)), (1, .ref (x_ad x (1020 + k1)))] [] := by
  unfold b_X11_isWord_0 at h
  refine r_aload_n C.1 0 dX11_isWord_0 rfl rfl ?_
  refine gf_X11_101 C dX11_isWord_1 ?_
  refine r_iconst (v := -1) C.1 dX11_isWord_4 rfl ?_
  refine r_icmp_ne C.1 36 dX11_isWord_5 (by decide) (fun c_1 => ?_) (fun c_1 => ?_)
  · replace h := ite_F c_1 h
    exact r_sub [0, 1] rfl (w_X11_isWord_36 C M k1 h1 _ h hr ev eM)
  · replace h := ite_T c_1 h
    refine r_aload_n C.1 0 dX11_isWord_8 rfl rfl ?_
    refine gf_X11_88 C dX11_isWord_9 ?_
    refine r_iconst (v := 1) C.1 dX11_isWord_12 rfl ?_
    refine r_icmp_ne C.1 36 dX11_isWord_13 (by decide) (fun c_2 => ?_) (fun c_2 => ?_)
    · replace h := ite_F c_2 h
      exact r_sub [0, 1] rfl (w_X11_isWord_36 C M k1 h1 _ h hr ev eM)
    · replace h := ite_T c_2 h
      refine r_aload_n C.1 0 dX11_isWord_16 rfl rfl ?_
      refine gf_X11_71 C dX11_isWord_17 ?_
      refine r_aload_n C.1 0 dX11_isWord_20 rfl rfl ?_
      refine gf_X11_78 C dX11_isWord_21 ?_
      refine r_isub C.1 dX11_isWord_24 ?_
      refine r_aload_n C.1 1 dX11_isWord_25 rfl rfl ?_
      refine r_callO C.1 C.2.2.2.2 (As := []) (nn := 0) (js_length _ _ _ _ _ _ M h1) ⟨kw_1402, kw_394, kw_395, kw_12, kw_396⟩ ⟨rfl, by decide +kernel, by decide +kernel, by decide +kernel⟩ ⟨rfl, rfl, Nat.le_of_ble_eq_true rfl, Nat.le_of_ble_eq_true rfl⟩ (cStr C.2.2.2.2 h1) rfl rfl (Nat.le_of_ble_eq_true rfl) dX11_isWord_26 ?_
      refine r_icmp_ne C.1 36 dX11_isWord_29 (by decide) (fun c_3 => ?_) (fun c_3 => ?_)
      · replace h := ite_F c_3 h
        exact r_sub [0, 1] rfl (w_X11_isWord_36 C M k1 h1 _ h hr ev eM)
      · replace h := ite_T c_3 h
        refine r_iconst (v := 1) C.1 dX11_isWord_32 rfl ?_
        refine r_goto C.1 37 dX11_isWord_33 (by decide) ?_
        exact r_sub [0, 1] rfl (w_X11_isWord_37 C M k1 (1 : Int32) h1 _ h hr ev eM)
def f_X11_isWord (M : xM) (k1 : Nat) : Option (Int32) := b_X11_isWord_0 M k1
set_option maxRecDepth 20000 in
theorem m_X11_isWord (l : Launch) (D : va_G) (ad : Nat → Nat) (M : xM) (k1 : Nat) (h1 : KS k1) {o : Int32} (h : f_X11_isWord M k1 = some o) : xMetM l yX11_isWord cX11_isWord 4 (some .boolean) ({ frames := 4, cells := 0, slots := 0, locals := 85 } : Room) [.ref (ad 0), .ref (ad (1020 + k1))] D ad M (some (.int o)) M := by
  refine xMetM_of (own := RX11) (by decide) rfl (Nat.le_of_ble_eq_true rfl) ?_
  intro x C e1 e2 e3 ev eM hr
  subst e1; subst e2; subst e3
  refine r_sub (L := [(0, .ref (x_ad x 0)), (1, .ref (x_ad x (1020 + k1)))]) (L' := [(0, .ref (x_ad x 0)), (1, .ref (x_ad x (1020 + k1)))]) [0, 1] rfl ?_
  exact w_X11_isWord_0 C M k1 h1 _ h hr ev eM

def b_X11_wordOf_61 (M : xM) (j0 : Nat) : Option (Nat) :=
  some j0
set_option maxRecDepth 20000 in
set_option maxHeartbeats 2000000 in
theorem w_X11_wordOf_61 {x : xC} (C : CtM x RX11 cX11_wordOf 1 ({ frames := 0, cells := 0, slots := 0, locals := 0 } : Room)) (M : xM) (j0 : Nat) (hj0 : KS j0) (o : Nat) (h : b_X11_wordOf_61 M j0 = some o) (hr : (x_me x).sig.returnType = some (.object "java/lang/String")) (ev : x_rv x = some (.ref (x_ad x (1020 + o)))) (eM : x_M x = M) : J x M 61 [] [.ref (x_ad x (1020 + j0))] := by
  unfold b_X11_wordOf_61 at h
  obtain rfl := Option.some.inj h
  exact r_aret C.1 hr ev eM dX11_wordOf_61

def b_X11_wordOf_0 (M : xM) (x0 : Int32) : Option (Nat) :=
  if x0 = 0 then b_X11_wordOf_61 M 7 else if x0 = (1 : Int32) then b_X11_wordOf_61 M 8 else if x0 = (2 : Int32) then b_X11_wordOf_61 M 9 else if x0 = (3 : Int32) then b_X11_wordOf_61 M 10 else if x0 = (4 : Int32) then b_X11_wordOf_61 M 11 else if x0 = (5 : Int32) then b_X11_wordOf_61 M 12 else b_X11_wordOf_61 M 13
set_option maxRecDepth 20000 in
set_option maxHeartbeats 2000000 in
theorem w_X11_wordOf_0 {x : xC} (C : CtM x RX11 cX11_wordOf 1 ({ frames := 0, cells := 0, slots := 0, locals := 0 } : Room)) (M : xM) (x0 : Int32)  (o : Nat) (h : b_X11_wordOf_0 M x0 = some o) (hr : (x_me x).sig.returnType = some (.object "java/lang/String")) (ev : x_rv x = some (.ref (x_ad x (1020 + o)))) (eM : x_M x = M) : J x M 0 [(0, .int x0)] [] := by
  unfold b_X11_wordOf_0 at h
  refine r_iload_n C.1 0 dX11_wordOf_0 rfl rfl ?_
  refine r_if_ne C.1 9 dX11_wordOf_1 (by decide) (fun c_1 => ?_) (fun c_1 => ?_)
  · replace h := ite_F c_1 h
    refine r_iload_n C.1 0 dX11_wordOf_9 rfl rfl ?_
    refine r_iconst (v := 1) C.1 dX11_wordOf_10 rfl ?_
    refine r_icmp_ne C.1 19 dX11_wordOf_11 (by decide) (fun c_2 => ?_) (fun c_2 => ?_)
    · replace h := ite_F c_2 h
      refine r_iload_n C.1 0 dX11_wordOf_19 rfl rfl ?_
      refine r_iconst (v := 2) C.1 dX11_wordOf_20 rfl ?_
      refine r_icmp_ne C.1 29 dX11_wordOf_21 (by decide) (fun c_3 => ?_) (fun c_3 => ?_)
      · replace h := ite_F c_3 h
        refine r_iload_n C.1 0 dX11_wordOf_29 rfl rfl ?_
        refine r_iconst (v := 3) C.1 dX11_wordOf_30 rfl ?_
        refine r_icmp_ne C.1 39 dX11_wordOf_31 (by decide) (fun c_4 => ?_) (fun c_4 => ?_)
        · replace h := ite_F c_4 h
          refine r_iload_n C.1 0 dX11_wordOf_39 rfl rfl ?_
          refine r_iconst (v := 4) C.1 dX11_wordOf_40 rfl ?_
          refine r_icmp_ne C.1 49 dX11_wordOf_41 (by decide) (fun c_5 => ?_) (fun c_5 => ?_)
          · replace h := ite_F c_5 h
            refine r_iload_n C.1 0 dX11_wordOf_49 rfl rfl ?_
            refine r_iconst (v := 5) C.1 dX11_wordOf_50 rfl ?_
            refine r_icmp_ne C.1 59 dX11_wordOf_51 (by decide) (fun c_6 => ?_) (fun c_6 => ?_)
            · replace h := ite_F c_6 h
              refine r_ldcS C.1 (C.2.2.2.2.1.1 6 (by decide)) dX11_wordOf_59 ?_
              exact r_sub [] rfl (w_X11_wordOf_61 C M 13 (by decide) _ h hr ev eM)
            · replace h := ite_T c_6 h
              refine r_ldcS C.1 (C.2.2.2.2.1.1 5 (by decide)) dX11_wordOf_54 ?_
              refine r_goto C.1 61 dX11_wordOf_56 (by decide) ?_
              exact r_sub [] rfl (w_X11_wordOf_61 C M 12 (by decide) _ h hr ev eM)
          · replace h := ite_T c_5 h
            refine r_ldcS C.1 (C.2.2.2.2.1.1 4 (by decide)) dX11_wordOf_44 ?_
            refine r_goto C.1 61 dX11_wordOf_46 (by decide) ?_
            exact r_sub [] rfl (w_X11_wordOf_61 C M 11 (by decide) _ h hr ev eM)
        · replace h := ite_T c_4 h
          refine r_ldcS C.1 (C.2.2.2.2.1.1 3 (by decide)) dX11_wordOf_34 ?_
          refine r_goto C.1 61 dX11_wordOf_36 (by decide) ?_
          exact r_sub [] rfl (w_X11_wordOf_61 C M 10 (by decide) _ h hr ev eM)
      · replace h := ite_T c_3 h
        refine r_ldcS C.1 (C.2.2.2.2.1.1 2 (by decide)) dX11_wordOf_24 ?_
        refine r_goto C.1 61 dX11_wordOf_26 (by decide) ?_
        exact r_sub [] rfl (w_X11_wordOf_61 C M 9 (by decide) _ h hr ev eM)
    · replace h := ite_T c_2 h
      refine r_ldcS C.1 (C.2.2.2.2.1.1 1 (by decide)) dX11_wordOf_14 ?_
      refine r_goto C.1 61 dX11_wordOf_16 (by decide) ?_
      exact r_sub [] rfl (w_X11_wordOf_61 C M 8 (by decide) _ h hr ev eM)
  · replace h := ite_T c_1 h
    refine r_ldcS C.1 (C.2.2.2.2.1.1 0 (by decide)) dX11_wordOf_4 ?_
    refine r_goto C.1 61 dX11_wordOf_6 (by decide) ?_
    exact r_sub [] rfl (w_X11_wordOf_61 C M 7 (by decide) _ h hr ev eM)
def f_X11_wordOf (M : xM) (x0 : Int32) : Option (Nat) := b_X11_wordOf_0 M x0
set_option maxRecDepth 20000 in
theorem m_X11_wordOf (l : Launch) (D : va_G) (ad : Nat → Nat) (M : xM) (x0 : Int32)  {o : Nat} (h : f_X11_wordOf M x0 = some o) : xMetM l yX11_wordOf cX11_wordOf 1 (some (.object "java/lang/String")) ({ frames := 0, cells := 0, slots := 0, locals := 0 } : Room) [.int x0] D ad M (some (.ref (ad (1020 + o)))) M := by
  refine xMetM_of (own := RX11) (by decide) rfl (Nat.le_of_ble_eq_true rfl) ?_
  intro x C e1 e2 e3 ev eM hr
  subst e1; subst e2; subst e3
  refine r_sub (L := [(0, .int x0)]) (L' := [(0, .int x0)]) [0] rfl ?_
  exact w_X11_wordOf_0 C M x0 _ h hr ev eM
theorem X11_wordOf_lt {M : xM} {x0 : Int32} {o : Nat} (h : f_X11_wordOf M x0 = some o) : KS o := by
  unfold f_X11_wordOf at h
  unfold b_X11_wordOf_0 at h
  unfold b_X11_wordOf_61 at h
  repeat' split at h
  all_goals (obtain rfl := Option.some.inj h; exact Nat.le_of_ble_eq_true rfl)

def b_X11_readsLine_40 (M : xM) (x1 : Int32) : Option (Int32 × xM) :=
  bd (f_X11_bad M) (fun M_3 => some (x1, M_3))
set_option maxRecDepth 20000 in
set_option maxHeartbeats 2000000 in
theorem w_X11_readsLine_40 {x : xC} (C : CtM x RX11 cX11_readsLine 3 ({ frames := 5, cells := 0, slots := 0, locals := 108 } : Room)) (M : xM) (x1 : Int32)  (o : Int32 × xM) (h : b_X11_readsLine_40 M x1 = some o) (hr : (x_me x).sig.returnType = some .int) (ev : x_rv x = some (.int o.1)) (eM : x_M x = o.2) : J x M 40 [(0, .ref (x_ad x 0)), (1, .int x1)] [] := by
  unfold b_X11_readsLine_40 at h
  refine r_aload_n C.1 0 dX11_readsLine_40 rfl rfl ?_
  obtain ⟨M_3, hc_2, h⟩ := bd_E h
  refine cl_X11_139 C ⟨Nat.le_of_ble_eq_true rfl, Nat.le_of_ble_eq_true rfl⟩ (m_X11_bad _ _ _ M hc_2) (Nat.le_of_ble_eq_true rfl) dX11_readsLine_41 ?_
  refine r_iload_n C.1 1 dX11_readsLine_44 rfl rfl ?_
  obtain rfl := Option.some.inj h
  exact r_iret C.1 hr ev eM dX11_readsLine_45

def b_X11_readsLine_94 (M : xM) (x1 : Int32) : Option (Int32 × xM) :=
  bd (f_X11_bad M) (fun M_3 => some (x1, M_3))
set_option maxRecDepth 20000 in
set_option maxHeartbeats 2000000 in
theorem w_X11_readsLine_94 {x : xC} (C : CtM x RX11 cX11_readsLine 3 ({ frames := 5, cells := 0, slots := 0, locals := 108 } : Room)) (M : xM) (x1 : Int32)  (o : Int32 × xM) (h : b_X11_readsLine_94 M x1 = some o) (hr : (x_me x).sig.returnType = some .int) (ev : x_rv x = some (.int o.1)) (eM : x_M x = o.2) : J x M 94 [(0, .ref (x_ad x 0)), (1, .int x1)] [] := by
  unfold b_X11_readsLine_94 at h
  refine r_aload_n C.1 0 dX11_readsLine_94 rfl rfl ?_
  obtain ⟨M_3, hc_2, h⟩ := bd_E h
  refine cl_X11_139 C ⟨Nat.le_of_ble_eq_true rfl, Nat.le_of_ble_eq_true rfl⟩ (m_X11_bad _ _ _ M hc_2) (Nat.le_of_ble_eq_true rfl) dX11_readsLine_95 ?_
  refine r_iload_n C.1 1 dX11_readsLine_98 rfl rfl ?_
  obtain rfl := Option.some.inj h
  exact r_iret C.1 hr ev eM dX11_readsLine_99

def b_X11_readsLine_25 (M : xM) (x1 : Int32) (x2 : Int32) : Option (Int32 × xM) :=
  if x2 = (7 : Int32) then b_X11_readsLine_40 M x1 else if ((x1 >>> (x2 &&& 31)) &&& (1 : Int32)) = (1 : Int32) then b_X11_readsLine_40 M x1 else bd (f_X11_next M) (fun M_5 => if (M_5 0 6) = (2 : Int32) then if (4 : Int32) < ((M_5 0 3) - (M_5 0 4)) then b_X11_readsLine_94 M_5 x1 else gd x2 7 (gd x2 7 (bd (f_X11_in M_5 ((M_5 0 7).toInt64) ((fLo x2.toNatClampNeg).toInt64) ((fHi x2.toNatClampNeg).toInt64)) (fun r_10 => if r_10 = 0 then b_X11_readsLine_94 M_5 x1 else gd x2 7 (lt (uM M_5 2 x2.toNatClampNeg (M_5 0 7)) (fun M_14 => bd (f_X11_next M_14) (fun M_17 => some (x1 ||| ((1 : Int32) <<< (x2 &&& 31)), M_17))))))) else b_X11_readsLine_94 M_5 x1)
set_option maxRecDepth 20000 in
set_option maxHeartbeats 2000000 in
theorem w_X11_readsLine_25 {x : xC} (C : CtM x RX11 cX11_readsLine 3 ({ frames := 5, cells := 0, slots := 0, locals := 108 } : Room)) (M : xM) (x1 : Int32) (x2 : Int32)  (o : Int32 × xM) (h : b_X11_readsLine_25 M x1 x2 = some o) (hr : (x_me x).sig.returnType = some .int) (ev : x_rv x = some (.int o.1)) (eM : x_M x = o.2) : J x M 25 [(0, .ref (x_ad x 0)), (1, .int x1), (2, .int x2)] [] := by
  unfold b_X11_readsLine_25 at h
  refine r_iload_n C.1 2 dX11_readsLine_25 rfl rfl ?_
  refine r_bipush (v := 7) C.1 dX11_readsLine_26 (by decide) ?_
  refine r_icmp_eq C.1 40 dX11_readsLine_28 (by decide) (fun c_1 => ?_) (fun c_1 => ?_)
  · replace h := ite_T c_1 h
    exact r_sub [0, 1] rfl (w_X11_readsLine_40 C M x1 _ h hr ev eM)
  · replace h := ite_F c_1 h
    refine r_iload_n C.1 1 dX11_readsLine_31 rfl rfl ?_
    refine r_iload_n C.1 2 dX11_readsLine_32 rfl rfl ?_
    refine r_ishr C.1 dX11_readsLine_33 ?_
    refine r_iconst (v := 1) C.1 dX11_readsLine_34 rfl ?_
    refine r_iand C.1 dX11_readsLine_35 ?_
    refine r_iconst (v := 1) C.1 dX11_readsLine_36 rfl ?_
    refine r_icmp_ne C.1 46 dX11_readsLine_37 (by decide) (fun c_2 => ?_) (fun c_2 => ?_)
    · replace h := ite_F c_2 h
      refine r_aload_n C.1 0 dX11_readsLine_46 rfl rfl ?_
      obtain ⟨M_5, hc_4, h⟩ := bd_E h
      refine cl_X11_142 C ⟨Nat.le_of_ble_eq_true rfl, Nat.le_of_ble_eq_true rfl⟩ (m_X11_next _ _ _ M hc_4) (Nat.le_of_ble_eq_true rfl) dX11_readsLine_47 ?_
      refine r_aload_n C.1 0 dX11_readsLine_50 rfl rfl ?_
      refine gf_X11_88 C dX11_readsLine_51 ?_
      refine r_iconst (v := 2) C.1 dX11_readsLine_54 rfl ?_
      refine r_icmp_ne C.1 94 dX11_readsLine_55 (by decide) (fun c_6 => ?_) (fun c_6 => ?_)
      · replace h := ite_F c_6 h
        exact r_sub [0, 1] rfl (w_X11_readsLine_94 C M_5 x1 _ h hr ev eM)
      · replace h := ite_T c_6 h
        refine r_aload_n C.1 0 dX11_readsLine_58 rfl rfl ?_
        refine gf_X11_71 C dX11_readsLine_59 ?_
        refine r_aload_n C.1 0 dX11_readsLine_62 rfl rfl ?_
        refine gf_X11_78 C dX11_readsLine_63 ?_
        refine r_isub C.1 dX11_readsLine_66 ?_
        refine r_iconst (v := 4) C.1 dX11_readsLine_67 rfl ?_
        refine r_icmp_gt C.1 94 dX11_readsLine_68 (by decide) (fun c_7 => ?_) (fun c_7 => ?_)
        · replace h := ite_T c_7 h
          exact r_sub [0, 1] rfl (w_X11_readsLine_94 C M_5 x1 _ h hr ev eM)
        · replace h := ite_F c_7 h
          refine r_aload_n C.1 0 dX11_readsLine_71 rfl rfl ?_
          refine gf_X11_91 C dX11_readsLine_72 ?_
          refine r_i2l C.1 dX11_readsLine_75 ?_
          refine r_gets C.1 (C.2.2.2.2.2.2.1.1) kw_1408 rfl dX11_readsLine_76 ?_
          refine r_iload_n C.1 2 dX11_readsLine_79 rfl rfl ?_
          obtain ⟨q_8, h⟩ := gd_E h
          refine r_ti C.1 (C.2.2.2.2.2.2.1.2) q_8 rfl dX11_readsLine_80 ?_
          refine r_i2l C.1 dX11_readsLine_81 ?_
          refine r_gets C.1 (C.2.2.2.2.2.2.2.1.1) kw_1410 rfl dX11_readsLine_82 ?_
          refine r_iload_n C.1 2 dX11_readsLine_85 rfl rfl ?_
          obtain ⟨q_9, h⟩ := gd_E h
          refine r_ti C.1 (C.2.2.2.2.2.2.2.1.2) q_9 rfl dX11_readsLine_86 ?_
          refine r_i2l C.1 dX11_readsLine_87 ?_
          obtain ⟨r_10, hc_11, h⟩ := bd_E h
          refine cl_X11_67 C ⟨Nat.le_of_ble_eq_true rfl, Nat.le_of_ble_eq_true rfl⟩ (m_X11_in _ _ _ M_5 ((M_5 0 7).toInt64) ((fLo x2.toNatClampNeg).toInt64) ((fHi x2.toNatClampNeg).toInt64) hc_11) (Nat.le_of_ble_eq_true rfl) dX11_readsLine_88 ?_
          refine r_if_ne C.1 100 dX11_readsLine_91 (by decide) (fun c_12 => ?_) (fun c_12 => ?_)
          · replace h := ite_F c_12 h
            refine r_aload_n C.1 0 dX11_readsLine_100 rfl rfl ?_
            refine gf_X11_13 C dX11_readsLine_101 ?_
            refine r_iload_n C.1 2 dX11_readsLine_104 rfl rfl ?_
            refine r_aload_n C.1 0 dX11_readsLine_105 rfl rfl ?_
            refine gf_X11_91 C dX11_readsLine_106 ?_
            obtain ⟨q_13, h⟩ := gd_E h
            obtain ⟨M_14, eM_14, h⟩ := lt_E h
            refine r_iast C.1 (mK C (by decide)) (mS C (shm_2)) 0 (mT0 C) q_13 eM_14 dX11_readsLine_109 ?_
            refine r_aload_n C.1 0 dX11_readsLine_110 rfl rfl ?_
            obtain ⟨M_17, hc_16, h⟩ := bd_E h
            refine cl_X11_142 C ⟨Nat.le_of_ble_eq_true rfl, Nat.le_of_ble_eq_true rfl⟩ (m_X11_next _ _ _ M_14 hc_16) (Nat.le_of_ble_eq_true rfl) dX11_readsLine_111 ?_
            refine r_iload_n C.1 1 dX11_readsLine_114 rfl rfl ?_
            refine r_iconst (v := 1) C.1 dX11_readsLine_115 rfl ?_
            refine r_iload_n C.1 2 dX11_readsLine_116 rfl rfl ?_
            refine r_ishl C.1 dX11_readsLine_117 ?_
            refine r_ior C.1 dX11_readsLine_118 ?_
            obtain rfl := Option.some.inj h
            exact r_iret C.1 hr ev eM dX11_readsLine_119
          · replace h := ite_T c_12 h
            exact r_sub [0, 1] rfl (w_X11_readsLine_94 C M_5 x1 _ h hr ev eM)
    · replace h := ite_T c_2 h
      exact r_sub [0, 1] rfl (w_X11_readsLine_40 C M x1 _ h hr ev eM)

def bl_X11_readsLine_2 (M : xM) (x1 : Int32) (x2 : Int32) : Option ((Int32) ⊕ (Int32)) :=
  if (7 : Int32) ≤ x2 then some (.inr x2) else bd (f_X11_wordOf M x2) (fun r_2 => bd (f_X11_isWord M r_2) (fun r_4 => if r_4 = 0 then lt (x2 + (1 : Int32)) (fun y_7 => some (.inl y_7)) else some (.inr x2)))
set_option maxRecDepth 20000 in
set_option maxHeartbeats 2000000 in
theorem wl_X11_readsLine_2 {x : xC} (C : CtM x RX11 cX11_readsLine 3 ({ frames := 5, cells := 0, slots := 0, locals := 108 } : Room)) (M : xM) (x1 : Int32) (x2 : Int32)  (o : (Int32) ⊕ (Int32)) (h : bl_X11_readsLine_2 M x1 x2 = some o) (kh : ∀ s : Int32, o = .inl s → J x M 2 [(0, .ref (x_ad x 0)), (1, .int x1), (2, .int s)] []) (ke_0 : ∀ v : Int32, o = .inr v → J x M 25 [(0, .ref (x_ad x 0)), (1, .int x1), (2, .int v)] []) : J x M 2 [(0, .ref (x_ad x 0)), (1, .int x1), (2, .int x2)] [] := by
  unfold bl_X11_readsLine_2 at h
  refine r_iload_n C.1 2 dX11_readsLine_2 rfl rfl ?_
  refine r_bipush (v := 7) C.1 dX11_readsLine_3 (by decide) ?_
  refine r_icmp_ge C.1 25 dX11_readsLine_5 (by decide) (fun c_1 => ?_) (fun c_1 => ?_)
  · replace h := ite_T c_1 h
    exact r_sub [0, 1, 2] rfl (ke_0 _ (Option.some.inj h).symm)
  · replace h := ite_F c_1 h
    refine r_aload_n C.1 0 dX11_readsLine_8 rfl rfl ?_
    refine r_iload_n C.1 2 dX11_readsLine_9 rfl rfl ?_
    obtain ⟨r_2, hc_3, h⟩ := bd_E h
    refine cl_X11_131 C ⟨Nat.le_of_ble_eq_true rfl, Nat.le_of_ble_eq_true rfl⟩ (m_X11_wordOf _ _ _ M x2 hc_3) (Nat.le_of_ble_eq_true rfl) dX11_readsLine_10 ?_
    obtain ⟨r_4, hc_5, h⟩ := bd_E h
    refine cl_X11_135 C ⟨Nat.le_of_ble_eq_true rfl, Nat.le_of_ble_eq_true rfl⟩ (m_X11_isWord _ _ _ M r_2 (X11_wordOf_lt hc_3) hc_5) (Nat.le_of_ble_eq_true rfl) dX11_readsLine_13 ?_
    refine r_if_ne C.1 25 dX11_readsLine_16 (by decide) (fun c_6 => ?_) (fun c_6 => ?_)
    · replace h := ite_F c_6 h
      exact r_sub [0, 1, 2] rfl (ke_0 _ (Option.some.inj h).symm)
    · replace h := ite_T c_6 h
      obtain ⟨y_7, ey_7, h⟩ := lt_E h
      refine r_iinc C.1 2 [(2, .int y_7), (0, .ref (x_ad x 0)), (1, .int x1)] dX11_readsLine_19 rfl ey_7 (by decide) rfl ?_
      refine r_goto C.1 2 dX11_readsLine_22 (by decide) ?_
      exact r_sub [1, 2, 0] rfl (kh _ (Option.some.inj h).symm)

def b_X11_readsLine_2 (M : xM) (x1 : Int32) (x2 : Int32) : Option (Int32 × xM) :=
  bd (loopN (fun s : Int32 => bl_X11_readsLine_2 M x1 s) BG x2) (fun v => b_X11_readsLine_25 M x1 v)
set_option maxRecDepth 20000 in
set_option maxHeartbeats 2000000 in
theorem w_X11_readsLine_2 {x : xC} (C : CtM x RX11 cX11_readsLine 3 ({ frames := 5, cells := 0, slots := 0, locals := 108 } : Room)) (M : xM) (x1 : Int32) (x2 : Int32)  (o : Int32 × xM) (h : b_X11_readsLine_2 M x1 x2 = some o) (hr : (x_me x).sig.returnType = some .int) (ev : x_rv x = some (.int o.1)) (eM : x_M x = o.2) : J x M 2 [(0, .ref (x_ad x 0)), (1, .int x1), (2, .int x2)] [] := by
  unfold b_X11_readsLine_2 at h
  obtain ⟨r_0, hr_0, h⟩ := bd_E h
  refine loopN_ind (JJ := fun s => J x M 2 [(0, .ref (x_ad x 0)), (1, .int x1), (2, .int s)] []) (KX := fun q => q = r_0) ?_ BG x2 r_0 hr_0 rfl
  intro s o1 hb kk1 kk2
  refine wl_X11_readsLine_2 C M x1 s _ hb kk1 ?_
  · intro v e0
    have e1 := kk2 _ e0
    subst e1
    exact r_sub [0, 1, 2] rfl (w_X11_readsLine_25 C M x1 v _ h hr ev eM)

def b_X11_readsLine_0 (M : xM) (x1 : Int32) : Option (Int32 × xM) :=
  b_X11_readsLine_2 M x1 (0 : Int32)
set_option maxRecDepth 20000 in
set_option maxHeartbeats 2000000 in
theorem w_X11_readsLine_0 {x : xC} (C : CtM x RX11 cX11_readsLine 3 ({ frames := 5, cells := 0, slots := 0, locals := 108 } : Room)) (M : xM) (x1 : Int32)  (o : Int32 × xM) (h : b_X11_readsLine_0 M x1 = some o) (hr : (x_me x).sig.returnType = some .int) (ev : x_rv x = some (.int o.1)) (eM : x_M x = o.2) : J x M 0 [(0, .ref (x_ad x 0)), (1, .int x1)] [] := by
  unfold b_X11_readsLine_0 at h
  refine r_iconst (v := 0) C.1 dX11_readsLine_0 rfl ?_
  refine r_istore_n C.1 [(2, .int (0 : Int32)), (0, .ref (x_ad x 0)), (1, .int x1)] dX11_readsLine_1 rfl (by decide) rfl rfl ?_
  exact r_sub [1, 2, 0] rfl (w_X11_readsLine_2 C M x1 (0 : Int32) _ h hr ev eM)
def f_X11_readsLine (M : xM) (x1 : Int32) : Option (Int32 × xM) := b_X11_readsLine_0 M x1
set_option maxRecDepth 20000 in
theorem m_X11_readsLine (l : Launch) (D : va_G) (ad : Nat → Nat) (M : xM) (x1 : Int32)  {r : Int32} {M1 : xM} (h : f_X11_readsLine M x1 = some (r, M1)) : xMetM l yX11_readsLine cX11_readsLine 3 (some .int) ({ frames := 5, cells := 0, slots := 0, locals := 108 } : Room) [.ref (ad 0), .int x1] D ad M (some (.int r)) M1 := by
  refine xMetM_of (own := RX11) (by decide) rfl (Nat.le_of_ble_eq_true rfl) ?_
  intro x C e1 e2 e3 ev eM hr
  subst e1; subst e2; subst e3
  refine r_sub (L := [(0, .ref (x_ad x 0)), (1, .int x1)]) (L' := [(0, .ref (x_ad x 0)), (1, .int x1)]) [0, 1] rfl ?_
  exact w_X11_readsLine_0 C M x1 _ h hr ev eM

def b_X11_readsRules_127 (M : xM)  : Option (Int32 × xM) :=
  some (M 0 5, M)
set_option maxRecDepth 20000 in
set_option maxHeartbeats 2000000 in
theorem w_X11_readsRules_127 {x : xC} (C : CtM x RX11 cX11_readsRules 3 ({ frames := 6, cells := 0, slots := 0, locals := 130 } : Room)) (M : xM)   (o : Int32 × xM) (h : b_X11_readsRules_127 M = some o) (hr : (x_me x).sig.returnType = some .int) (ev : x_rv x = some (.int o.1)) (eM : x_M x = o.2) : J x M 127 [(0, .ref (x_ad x 0))] [] := by
  unfold b_X11_readsRules_127 at h
  refine r_aload_n C.1 0 dX11_readsRules_127 rfl rfl ?_
  refine gf_X11_101 C dX11_readsRules_128 ?_
  obtain rfl := Option.some.inj h
  exact r_iret C.1 hr ev eM dX11_readsRules_131

def b_X11_readsRules_96 (M : xM) (x1 : Int32) (s0 : Int32) : Option ((xM × Int32 × Int32) ⊕ (xM)) :=
  if s0 = 0 then some (.inl (M, x1, s0)) else bd (f_X11_next M) (fun M_4 => some (.inl (M_4, x1, s0)))
set_option maxRecDepth 20000 in
set_option maxHeartbeats 2000000 in
theorem w_X11_readsRules_96 {x : xC} (C : CtM x RX11 cX11_readsRules 3 ({ frames := 6, cells := 0, slots := 0, locals := 130 } : Room)) (M : xM) (x1 : Int32) (s0 : Int32)  (o : (xM × Int32 × Int32) ⊕ (xM)) (h : b_X11_readsRules_96 M x1 s0 = some o) (kh : ∀ s : xM × Int32 × Int32, o = .inl s → J x s.1 41 [(0, .ref (x_ad x 0)), (1, .int s.2.1), (2, .int s.2.2)] []) (ke_0 : ∀ v : xM, o = .inr v → J x v 108 [(0, .ref (x_ad x 0))] []) : J x M 96 [(0, .ref (x_ad x 0)), (1, .int x1)] [.int s0] := by
  unfold b_X11_readsRules_96 at h
  refine r_istore_n C.1 [(2, .int s0), (0, .ref (x_ad x 0)), (1, .int x1)] dX11_readsRules_96 rfl (by decide) rfl rfl ?_
  refine r_iload_n C.1 0 dX11_readsRules_97 rfl rfl ?_
  refine r_if_eq C.1 41 dX11_readsRules_98 (by decide) (fun c_1 => ?_) (fun c_1 => ?_)
  · replace h := ite_T c_1 h
    exact r_sub [1, 2, 0] rfl (kh _ (Option.some.inj h).symm)
  · replace h := ite_F c_1 h
    refine r_aload_n C.1 1 dX11_readsRules_101 rfl rfl ?_
    obtain ⟨M_4, hc_3, h⟩ := bd_E h
    refine cl_X11_142 C ⟨Nat.le_of_ble_eq_true rfl, Nat.le_of_ble_eq_true rfl⟩ (m_X11_next _ _ _ M hc_3) (Nat.le_of_ble_eq_true rfl) dX11_readsRules_102 ?_
    refine r_goto C.1 41 dX11_readsRules_105 (by decide) ?_
    exact r_sub [1, 2, 0] rfl (kh _ (Option.some.inj h).symm)

def b_X11_readsRules_95 (M : xM) (x1 : Int32) : Option ((xM × Int32 × Int32) ⊕ (xM)) :=
  b_X11_readsRules_96 M x1 (0 : Int32)
set_option maxRecDepth 20000 in
set_option maxHeartbeats 2000000 in
theorem w_X11_readsRules_95 {x : xC} (C : CtM x RX11 cX11_readsRules 3 ({ frames := 6, cells := 0, slots := 0, locals := 130 } : Room)) (M : xM) (x1 : Int32)  (o : (xM × Int32 × Int32) ⊕ (xM)) (h : b_X11_readsRules_95 M x1 = some o) (kh : ∀ s : xM × Int32 × Int32, o = .inl s → J x s.1 41 [(0, .ref (x_ad x 0)), (1, .int s.2.1), (2, .int s.2.2)] []) (ke_0 : ∀ v : xM, o = .inr v → J x v 108 [(0, .ref (x_ad x 0))] []) : J x M 95 [(0, .ref (x_ad x 0)), (1, .int x1)] [] := by
  unfold b_X11_readsRules_95 at h
  refine r_iconst (v := 0) C.1 dX11_readsRules_95 rfl ?_
  exact r_sub [0, 1] rfl (w_X11_readsRules_96 C M x1 (0 : Int32) _ h kh ke_0)

def bl_X11_readsRules_41 (M : xM) (x1 : Int32) (x2 : Int32) : Option ((xM × Int32 × Int32) ⊕ (xM)) :=
  if x2 = 0 then some (.inr M) else bd2 (f_X11_readsLine M x1) (fun r_2 M_4 => lt (uM M_4 0 10 ((M_4 0 10) + (1 : Int32))) (fun M_5 => if (M_5 0 5) = (-1 : Int32) then if (M_5 0 6) = (3 : Int32) then gd (M_5 0 4) 200 (if (M_5 1 (M_5 0 4).toNatClampNeg) = (59 : Int32) then b_X11_readsRules_96 M_5 r_2 (1 : Int32) else b_X11_readsRules_95 M_5 r_2) else b_X11_readsRules_95 M_5 r_2 else b_X11_readsRules_95 M_5 r_2))
set_option maxRecDepth 20000 in
set_option maxHeartbeats 2000000 in
theorem wl_X11_readsRules_41 {x : xC} (C : CtM x RX11 cX11_readsRules 3 ({ frames := 6, cells := 0, slots := 0, locals := 130 } : Room)) (M : xM) (x1 : Int32) (x2 : Int32)  (o : (xM × Int32 × Int32) ⊕ (xM)) (h : bl_X11_readsRules_41 M x1 x2 = some o) (kh : ∀ s : xM × Int32 × Int32, o = .inl s → J x s.1 41 [(0, .ref (x_ad x 0)), (1, .int s.2.1), (2, .int s.2.2)] []) (ke_0 : ∀ v : xM, o = .inr v → J x v 108 [(0, .ref (x_ad x 0))] []) : J x M 41 [(0, .ref (x_ad x 0)), (1, .int x1), (2, .int x2)] [] := by
  unfold bl_X11_readsRules_41 at h
  refine r_iload_n C.1 2 dX11_readsRules_41 rfl rfl ?_
  refine r_if_eq C.1 108 dX11_readsRules_42 (by decide) (fun c_1 => ?_) (fun c_1 => ?_)
  · replace h := ite_T c_1 h
    exact r_sub [0] rfl (ke_0 _ (Option.some.inj h).symm)
  · replace h := ite_F c_1 h
    refine r_aload_n C.1 0 dX11_readsRules_45 rfl rfl ?_
    refine r_iload_n C.1 1 dX11_readsRules_46 rfl rfl ?_
    obtain ⟨r_2, M_4, hc_3, h⟩ := bd2_E h
    refine cl_X11_154 C ⟨Nat.le_of_ble_eq_true rfl, Nat.le_of_ble_eq_true rfl⟩ (m_X11_readsLine _ _ _ M x1 hc_3) (Nat.le_of_ble_eq_true rfl) dX11_readsRules_47 ?_
    refine r_istore_n C.1 [(1, .int r_2), (0, .ref (x_ad x 0)), (2, .int x2)] dX11_readsRules_50 rfl (by decide) rfl rfl ?_
    refine r_aload_n C.1 1 dX11_readsRules_51 rfl rfl ?_
    refine r_dup C.1 rfl dX11_readsRules_52 ?_
    refine gf_X11_151 C dX11_readsRules_53 ?_
    refine r_iconst (v := 1) C.1 dX11_readsRules_56 rfl ?_
    refine r_iadd C.1 dX11_readsRules_57 ?_
    obtain ⟨M_5, eM_5, h⟩ := lt_E h
    refine pf_X11_151 C eM_5 dX11_readsRules_58 ?_
    refine r_aload_n C.1 1 dX11_readsRules_61 rfl rfl ?_
    refine gf_X11_101 C dX11_readsRules_62 ?_
    refine r_iconst (v := -1) C.1 dX11_readsRules_65 rfl ?_
    refine r_icmp_ne C.1 95 dX11_readsRules_66 (by decide) (fun c_6 => ?_) (fun c_6 => ?_)
    · replace h := ite_F c_6 h
      exact r_sub [1, 0] rfl (w_X11_readsRules_95 C M_5 r_2 _ h kh ke_0)
    · replace h := ite_T c_6 h
      refine r_aload_n C.1 1 dX11_readsRules_69 rfl rfl ?_
      refine gf_X11_88 C dX11_readsRules_70 ?_
      refine r_iconst (v := 3) C.1 dX11_readsRules_73 rfl ?_
      refine r_icmp_ne C.1 95 dX11_readsRules_74 (by decide) (fun c_7 => ?_) (fun c_7 => ?_)
      · replace h := ite_F c_7 h
        exact r_sub [1, 0] rfl (w_X11_readsRules_95 C M_5 r_2 _ h kh ke_0)
      · replace h := ite_T c_7 h
        refine r_aload_n C.1 1 dX11_readsRules_77 rfl rfl ?_
        refine gf_X11_9 C dX11_readsRules_78 ?_
        refine r_aload_n C.1 1 dX11_readsRules_81 rfl rfl ?_
        refine gf_X11_78 C dX11_readsRules_82 ?_
        obtain ⟨q_8, h⟩ := gd_E h
        refine r_iald C.1 (mK C (by decide)) (mS C (shm_1)) 0 (mT0 C) q_8 dX11_readsRules_85 ?_
        refine r_bipush (v := 59) C.1 dX11_readsRules_86 (by decide) ?_
        refine r_icmp_ne C.1 95 dX11_readsRules_88 (by decide) (fun c_9 => ?_) (fun c_9 => ?_)
        · replace h := ite_F c_9 h
          exact r_sub [1, 0] rfl (w_X11_readsRules_95 C M_5 r_2 _ h kh ke_0)
        · replace h := ite_T c_9 h
          refine r_iconst (v := 1) C.1 dX11_readsRules_91 rfl ?_
          refine r_goto C.1 96 dX11_readsRules_92 (by decide) ?_
          exact r_sub [1, 0] rfl (w_X11_readsRules_96 C M_5 r_2 (1 : Int32) _ h kh ke_0)

def b_X11_readsRules_41 (M : xM) (x1 : Int32) (x2 : Int32) : Option (Int32 × xM) :=
  bd (loopN (fun s : xM × Int32 × Int32 => bl_X11_readsRules_41 s.1 s.2.1 s.2.2) BG (M, x1, x2)) (fun v => if (v 0 5) = (-1 : Int32) then if (v 0 6) = 0 then b_X11_readsRules_127 v else bd (f_X11_bad v) (fun M_5 => b_X11_readsRules_127 M_5) else b_X11_readsRules_127 v)
set_option maxRecDepth 20000 in
set_option maxHeartbeats 2000000 in
theorem w_X11_readsRules_41 {x : xC} (C : CtM x RX11 cX11_readsRules 3 ({ frames := 6, cells := 0, slots := 0, locals := 130 } : Room)) (M : xM) (x1 : Int32) (x2 : Int32)  (o : Int32 × xM) (h : b_X11_readsRules_41 M x1 x2 = some o) (hr : (x_me x).sig.returnType = some .int) (ev : x_rv x = some (.int o.1)) (eM : x_M x = o.2) : J x M 41 [(0, .ref (x_ad x 0)), (1, .int x1), (2, .int x2)] [] := by
  unfold b_X11_readsRules_41 at h
  obtain ⟨r_0, hr_0, h⟩ := bd_E h
  refine loopN_ind (JJ := fun s => J x s.1 41 [(0, .ref (x_ad x 0)), (1, .int s.2.1), (2, .int s.2.2)] []) (KX := fun q => q = r_0) ?_ BG (M, x1, x2) r_0 hr_0 rfl
  intro s o1 hb kk1 kk2
  refine wl_X11_readsRules_41 C s.1 s.2.1 s.2.2 _ hb kk1 ?_
  · intro v e0
    have e1 := kk2 _ e0
    subst e1
    refine r_aload_n C.1 0 dX11_readsRules_108 rfl rfl ?_
    refine gf_X11_101 C dX11_readsRules_109 ?_
    refine r_iconst (v := -1) C.1 dX11_readsRules_112 rfl ?_
    refine r_icmp_ne C.1 127 dX11_readsRules_113 (by decide) (fun c_1 => ?_) (fun c_1 => ?_)
    · replace h := ite_F c_1 h
      exact r_sub [0] rfl (w_X11_readsRules_127 C v _ h hr ev eM)
    · replace h := ite_T c_1 h
      refine r_aload_n C.1 0 dX11_readsRules_116 rfl rfl ?_
      refine gf_X11_88 C dX11_readsRules_117 ?_
      refine r_if_eq C.1 127 dX11_readsRules_120 (by decide) (fun c_2 => ?_) (fun c_2 => ?_)
      · replace h := ite_T c_2 h
        exact r_sub [0] rfl (w_X11_readsRules_127 C v _ h hr ev eM)
      · replace h := ite_F c_2 h
        refine r_aload_n C.1 0 dX11_readsRules_123 rfl rfl ?_
        obtain ⟨M_5, hc_4, h⟩ := bd_E h
        refine cl_X11_139 C ⟨Nat.le_of_ble_eq_true rfl, Nat.le_of_ble_eq_true rfl⟩ (m_X11_bad _ _ _ v hc_4) (Nat.le_of_ble_eq_true rfl) dX11_readsRules_124 ?_
        exact r_sub [0] rfl (w_X11_readsRules_127 C M_5 _ h hr ev eM)

def b_X11_readsRules_40 (M : xM) (x1 : Int32) (s0 : Int32) : Option (Int32 × xM) :=
  b_X11_readsRules_41 M x1 s0
set_option maxRecDepth 20000 in
set_option maxHeartbeats 2000000 in
theorem w_X11_readsRules_40 {x : xC} (C : CtM x RX11 cX11_readsRules 3 ({ frames := 6, cells := 0, slots := 0, locals := 130 } : Room)) (M : xM) (x1 : Int32) (s0 : Int32)  (o : Int32 × xM) (h : b_X11_readsRules_40 M x1 s0 = some o) (hr : (x_me x).sig.returnType = some .int) (ev : x_rv x = some (.int o.1)) (eM : x_M x = o.2) : J x M 40 [(0, .ref (x_ad x 0)), (1, .int x1)] [.int s0] := by
  unfold b_X11_readsRules_40 at h
  refine r_istore_n C.1 [(2, .int s0), (0, .ref (x_ad x 0)), (1, .int x1)] dX11_readsRules_40 rfl (by decide) rfl rfl ?_
  exact r_sub [1, 2, 0] rfl (w_X11_readsRules_41 C M x1 s0 _ h hr ev eM)

def b_X11_readsRules_0 (M : xM)  : Option (Int32 × xM) :=
  lt (uM M 0 3 (0 : Int32)) (fun M_1 => lt (uM M_1 0 5 (-1 : Int32)) (fun M_2 => bd (f_X11_tellsNone M_2 2) (fun M_5 => bd (f_X11_next M_5) (fun M_8 => lt (uM M_8 0 10 (0 : Int32)) (fun M_9 => if (M_9 0 6) = 0 then b_X11_readsRules_40 M_9 (0 : Int32) (0 : Int32) else b_X11_readsRules_40 M_9 (0 : Int32) (1 : Int32))))))
set_option maxRecDepth 20000 in
set_option maxHeartbeats 2000000 in
theorem w_X11_readsRules_0 {x : xC} (C : CtM x RX11 cX11_readsRules 3 ({ frames := 6, cells := 0, slots := 0, locals := 130 } : Room)) (M : xM)   (o : Int32 × xM) (h : b_X11_readsRules_0 M = some o) (hr : (x_me x).sig.returnType = some .int) (ev : x_rv x = some (.int o.1)) (eM : x_M x = o.2) : J x M 0 [(0, .ref (x_ad x 0))] [] := by
  unfold b_X11_readsRules_0 at h
  refine r_aload_n C.1 0 dX11_readsRules_0 rfl rfl ?_
  refine r_iconst (v := 0) C.1 dX11_readsRules_1 rfl ?_
  obtain ⟨M_1, eM_1, h⟩ := lt_E h
  refine pf_X11_71 C eM_1 dX11_readsRules_2 ?_
  refine r_aload_n C.1 0 dX11_readsRules_5 rfl rfl ?_
  refine r_iconst (v := -1) C.1 dX11_readsRules_6 rfl ?_
  obtain ⟨M_2, eM_2, h⟩ := lt_E h
  refine pf_X11_101 C eM_2 dX11_readsRules_7 ?_
  refine r_aload_n C.1 0 dX11_readsRules_10 rfl rfl ?_
  refine gf_X11_13 C dX11_readsRules_11 ?_
  obtain ⟨M_5, hc_4, h⟩ := bd_E h
  refine cl_X11_52 C ⟨Nat.le_of_ble_eq_true rfl, Nat.le_of_ble_eq_true rfl⟩ (m_X11_tellsNone _ _ _ M_2 2 (Or.inl rfl) hc_4) (Nat.le_of_ble_eq_true rfl) dX11_readsRules_14 ?_
  refine r_aload_n C.1 0 dX11_readsRules_17 rfl rfl ?_
  obtain ⟨M_8, hc_7, h⟩ := bd_E h
  refine cl_X11_142 C ⟨Nat.le_of_ble_eq_true rfl, Nat.le_of_ble_eq_true rfl⟩ (m_X11_next _ _ _ M_5 hc_7) (Nat.le_of_ble_eq_true rfl) dX11_readsRules_18 ?_
  refine r_aload_n C.1 0 dX11_readsRules_21 rfl rfl ?_
  refine r_iconst (v := 0) C.1 dX11_readsRules_22 rfl ?_
  obtain ⟨M_9, eM_9, h⟩ := lt_E h
  refine pf_X11_151 C eM_9 dX11_readsRules_23 ?_
  refine r_iconst (v := 0) C.1 dX11_readsRules_26 rfl ?_
  refine r_istore_n C.1 [(1, .int (0 : Int32)), (0, .ref (x_ad x 0))] dX11_readsRules_27 rfl (by decide) rfl rfl ?_
  refine r_aload_n C.1 1 dX11_readsRules_28 rfl rfl ?_
  refine gf_X11_88 C dX11_readsRules_29 ?_
  refine r_if_eq C.1 39 dX11_readsRules_32 (by decide) (fun c_10 => ?_) (fun c_10 => ?_)
  · replace h := ite_T c_10 h
    refine r_iconst (v := 0) C.1 dX11_readsRules_39 rfl ?_
    exact r_sub [1, 0] rfl (w_X11_readsRules_40 C M_9 (0 : Int32) (0 : Int32) _ h hr ev eM)
  · replace h := ite_F c_10 h
    refine r_iconst (v := 1) C.1 dX11_readsRules_35 rfl ?_
    refine r_goto C.1 40 dX11_readsRules_36 (by decide) ?_
    exact r_sub [1, 0] rfl (w_X11_readsRules_40 C M_9 (0 : Int32) (1 : Int32) _ h hr ev eM)
def f_X11_readsRules (M : xM)  : Option (Int32 × xM) := b_X11_readsRules_0 M 
set_option maxRecDepth 20000 in
theorem m_X11_readsRules (l : Launch) (D : va_G) (ad : Nat → Nat) (M : xM)   {r : Int32} {M1 : xM} (h : f_X11_readsRules M = some (r, M1)) : xMetM l yX11_readsRules cX11_readsRules 3 (some .int) ({ frames := 6, cells := 0, slots := 0, locals := 130 } : Room) [.ref (ad 0)] D ad M (some (.int r)) M1 := by
  refine xMetM_of (own := RX11) (by decide) rfl (Nat.le_of_ble_eq_true rfl) ?_
  intro x C e1 e2 e3 ev eM hr
  subst e1; subst e2; subst e3
  refine r_sub (L := [(0, .ref (x_ad x 0))]) (L' := [(0, .ref (x_ad x 0))]) [0] rfl ?_
  exact w_X11_readsRules_0 C M _ h hr ev eM

def b_X11_fault_0 (M : xM)  : Option (Int32 × xM) :=
  lt (uM M 0 0 (0 : Int32)) (fun M_1 => bd2 (f_X11_readsRules M_1) (fun r_2 M_4 => some (r_2, M_4)))
set_option maxRecDepth 20000 in
set_option maxHeartbeats 2000000 in
theorem w_X11_fault_0 {x : xC} (C : CtM x RX11 cX11_fault 1 ({ frames := 7, cells := 0, slots := 0, locals := 152 } : Room)) (M : xM)   (o : Int32 × xM) (h : b_X11_fault_0 M = some o) (hr : (x_me x).sig.returnType = some .int) (ev : x_rv x = some (.int o.1)) (eM : x_M x = o.2) : J x M 0 [(0, .ref (x_ad x 0))] [] := by
  unfold b_X11_fault_0 at h
  refine r_aload_n C.1 0 dX11_fault_0 rfl rfl ?_
  refine r_iconst (v := 0) C.1 dX11_fault_1 rfl ?_
  obtain ⟨M_1, eM_1, h⟩ := lt_E h
  refine pf_X11_56 C eM_1 dX11_fault_2 ?_
  refine r_aload_n C.1 0 dX11_fault_5 rfl rfl ?_
  obtain ⟨r_2, M_4, hc_3, h⟩ := bd2_E h
  refine cl_X11_157 C ⟨Nat.le_of_ble_eq_true rfl, Nat.le_of_ble_eq_true rfl⟩ (m_X11_readsRules _ _ _ M_1 hc_3) (Nat.le_of_ble_eq_true rfl) dX11_fault_6 ?_
  obtain rfl := Option.some.inj h
  exact r_iret C.1 hr ev eM dX11_fault_9
def f_X11_fault (M : xM)  : Option (Int32 × xM) := b_X11_fault_0 M 
set_option maxRecDepth 20000 in
theorem m_X11_fault (l : Launch) (D : va_G) (ad : Nat → Nat) (M : xM)   {r : Int32} {M1 : xM} (h : f_X11_fault M = some (r, M1)) : xMetM l yX11_fault cX11_fault 1 (some .int) ({ frames := 7, cells := 0, slots := 0, locals := 152 } : Room) [.ref (ad 0)] D ad M (some (.int r)) M1 := by
  refine xMetM_of (own := RX11) (by decide) rfl (Nat.le_of_ble_eq_true rfl) ?_
  intro x C e1 e2 e3 ev eM hr
  subst e1; subst e2; subst e3
  refine r_sub (L := [(0, .ref (x_ad x 0))]) (L' := [(0, .ref (x_ad x 0))]) [0] rfl ?_
  exact w_X11_fault_0 C M _ h hr ev eM

def bl_X11_rules_48 (M : xM) (x1 : Int32) : Option ((xM × Int32) ⊕ (xM)) :=
  if (495 : Int32) ≤ x1 then some (.inr M) else gd x1 495 (lt (uM M 4 x1.toNatClampNeg (0 : Int32)) (fun M_3 => lt (x1 + (1 : Int32)) (fun y_4 => some (.inl (M_3, y_4)))))
set_option maxRecDepth 20000 in
set_option maxHeartbeats 2000000 in
theorem wl_X11_rules_48 {x : xC} (C : CtM x RX11 cX11_rules 2 ({ frames := 7, cells := 0, slots := 0, locals := 152 } : Room)) (M : xM) (x1 : Int32)  (o : (xM × Int32) ⊕ (xM)) (h : bl_X11_rules_48 M x1 = some o) (kh : ∀ s : xM × Int32, o = .inl s → J x s.1 48 [(0, .ref (x_ad x 0)), (1, .int s.2)] []) (ke_0 : ∀ v : xM, o = .inr v → J x v 68 [(0, .ref (x_ad x 0))] []) : J x M 48 [(0, .ref (x_ad x 0)), (1, .int x1)] [] := by
  unfold bl_X11_rules_48 at h
  refine r_iload_n C.1 1 dX11_rules_48 rfl rfl ?_
  refine r_sipush (v := 495) C.1 dX11_rules_49 (by decide) ?_
  refine r_icmp_ge C.1 68 dX11_rules_52 (by decide) (fun c_1 => ?_) (fun c_1 => ?_)
  · replace h := ite_T c_1 h
    exact r_sub [0] rfl (ke_0 _ (Option.some.inj h).symm)
  · replace h := ite_F c_1 h
    refine r_aload_n C.1 0 dX11_rules_55 rfl rfl ?_
    refine gf_X11_19 C dX11_rules_56 ?_
    refine r_iload_n C.1 1 dX11_rules_59 rfl rfl ?_
    refine r_iconst (v := 0) C.1 dX11_rules_60 rfl ?_
    obtain ⟨q_2, h⟩ := gd_E h
    obtain ⟨M_3, eM_3, h⟩ := lt_E h
    refine r_iast C.1 (mK C (by decide)) (mS C (shm_4)) 0 (mT0 C) q_2 eM_3 dX11_rules_61 ?_
    obtain ⟨y_4, ey_4, h⟩ := lt_E h
    refine r_iinc C.1 1 [(1, .int y_4), (0, .ref (x_ad x 0))] dX11_rules_62 rfl ey_4 (by decide) rfl ?_
    refine r_goto C.1 48 dX11_rules_65 (by decide) ?_
    exact r_sub [1, 0] rfl (kh _ (Option.some.inj h).symm)

def b_X11_rules_48 (M : xM) (x1 : Int32) : Option (Int32 × xM) :=
  bd (loopN (fun s : xM × Int32 => bl_X11_rules_48 s.1 s.2) BG (M, x1)) (fun v => lt (uM v 0 13 (0 : Int32)) (fun M_1 => lt (uM M_1 0 15 (0 : Int32)) (fun M_2 => some (M_2 0 10, M_2))))
set_option maxRecDepth 20000 in
set_option maxHeartbeats 2000000 in
theorem w_X11_rules_48 {x : xC} (C : CtM x RX11 cX11_rules 2 ({ frames := 7, cells := 0, slots := 0, locals := 152 } : Room)) (M : xM) (x1 : Int32)  (o : Int32 × xM) (h : b_X11_rules_48 M x1 = some o) (hr : (x_me x).sig.returnType = some .int) (ev : x_rv x = some (.int o.1)) (eM : x_M x = o.2) : J x M 48 [(0, .ref (x_ad x 0)), (1, .int x1)] [] := by
  unfold b_X11_rules_48 at h
  obtain ⟨r_0, hr_0, h⟩ := bd_E h
  refine loopN_ind (JJ := fun s => J x s.1 48 [(0, .ref (x_ad x 0)), (1, .int s.2)] []) (KX := fun q => q = r_0) ?_ BG (M, x1) r_0 hr_0 rfl
  intro s o1 hb kk1 kk2
  refine wl_X11_rules_48 C s.1 s.2 _ hb kk1 ?_
  · intro v e0
    have e1 := kk2 _ e0
    subst e1
    refine r_aload_n C.1 0 dX11_rules_68 rfl rfl ?_
    refine r_iconst (v := 0) C.1 dX11_rules_69 rfl ?_
    obtain ⟨M_1, eM_1, h⟩ := lt_E h
    refine pf_X11_160 C eM_1 dX11_rules_70 ?_
    refine r_aload_n C.1 0 dX11_rules_73 rfl rfl ?_
    refine r_iconst (v := 0) C.1 dX11_rules_74 rfl ?_
    obtain ⟨M_2, eM_2, h⟩ := lt_E h
    refine pf_X11_163 C (by decide) eM_2 dX11_rules_75 ?_
    refine r_aload_n C.1 0 dX11_rules_78 rfl rfl ?_
    refine gf_X11_151 C dX11_rules_79 ?_
    obtain rfl := Option.some.inj h
    exact r_iret C.1 hr ev eM dX11_rules_82

def bl_X11_rules_22 (M : xM) (x1 : Int32) : Option ((xM × Int32) ⊕ (xM)) :=
  if (7 : Int32) ≤ x1 then some (.inr M) else gd x1 7 (gd x1 7 (lt (uM M 3 x1.toNatClampNeg (M 2 x1.toNatClampNeg)) (fun M_4 => lt (x1 + (1 : Int32)) (fun y_5 => some (.inl (M_4, y_5))))))
set_option maxRecDepth 20000 in
set_option maxHeartbeats 2000000 in
theorem wl_X11_rules_22 {x : xC} (C : CtM x RX11 cX11_rules 2 ({ frames := 7, cells := 0, slots := 0, locals := 152 } : Room)) (M : xM) (x1 : Int32)  (o : (xM × Int32) ⊕ (xM)) (h : bl_X11_rules_22 M x1 = some o) (kh : ∀ s : xM × Int32, o = .inl s → J x s.1 22 [(0, .ref (x_ad x 0)), (1, .int s.2)] []) (ke_0 : ∀ v : xM, o = .inr v → J x v 46 [(0, .ref (x_ad x 0))] []) : J x M 22 [(0, .ref (x_ad x 0)), (1, .int x1)] [] := by
  unfold bl_X11_rules_22 at h
  refine r_iload_n C.1 1 dX11_rules_22 rfl rfl ?_
  refine r_bipush (v := 7) C.1 dX11_rules_23 (by decide) ?_
  refine r_icmp_ge C.1 46 dX11_rules_25 (by decide) (fun c_1 => ?_) (fun c_1 => ?_)
  · replace h := ite_T c_1 h
    exact r_sub [0] rfl (ke_0 _ (Option.some.inj h).symm)
  · replace h := ite_F c_1 h
    refine r_aload_n C.1 0 dX11_rules_28 rfl rfl ?_
    refine gf_X11_16 C dX11_rules_29 ?_
    refine r_iload_n C.1 1 dX11_rules_32 rfl rfl ?_
    refine r_aload_n C.1 0 dX11_rules_33 rfl rfl ?_
    refine gf_X11_13 C dX11_rules_34 ?_
    refine r_iload_n C.1 1 dX11_rules_37 rfl rfl ?_
    obtain ⟨q_2, h⟩ := gd_E h
    refine r_iald C.1 (mK C (by decide)) (mS C (shm_2)) 0 (mT0 C) q_2 dX11_rules_38 ?_
    obtain ⟨q_3, h⟩ := gd_E h
    obtain ⟨M_4, eM_4, h⟩ := lt_E h
    refine r_iast C.1 (mK C (by decide)) (mS C (shm_3)) 0 (mT0 C) q_3 eM_4 dX11_rules_39 ?_
    obtain ⟨y_5, ey_5, h⟩ := lt_E h
    refine r_iinc C.1 1 [(1, .int y_5), (0, .ref (x_ad x 0))] dX11_rules_40 rfl ey_5 (by decide) rfl ?_
    refine r_goto C.1 22 dX11_rules_43 (by decide) ?_
    exact r_sub [1, 0] rfl (kh _ (Option.some.inj h).symm)

def b_X11_rules_22 (M : xM) (x1 : Int32) : Option (Int32 × xM) :=
  bd (loopN (fun s : xM × Int32 => bl_X11_rules_22 s.1 s.2) BG (M, x1)) (fun v => b_X11_rules_48 v (0 : Int32))
set_option maxRecDepth 20000 in
set_option maxHeartbeats 2000000 in
theorem w_X11_rules_22 {x : xC} (C : CtM x RX11 cX11_rules 2 ({ frames := 7, cells := 0, slots := 0, locals := 152 } : Room)) (M : xM) (x1 : Int32)  (o : Int32 × xM) (h : b_X11_rules_22 M x1 = some o) (hr : (x_me x).sig.returnType = some .int) (ev : x_rv x = some (.int o.1)) (eM : x_M x = o.2) : J x M 22 [(0, .ref (x_ad x 0)), (1, .int x1)] [] := by
  unfold b_X11_rules_22 at h
  obtain ⟨r_0, hr_0, h⟩ := bd_E h
  refine loopN_ind (JJ := fun s => J x s.1 22 [(0, .ref (x_ad x 0)), (1, .int s.2)] []) (KX := fun q => q = r_0) ?_ BG (M, x1) r_0 hr_0 rfl
  intro s o1 hb kk1 kk2
  refine wl_X11_rules_22 C s.1 s.2 _ hb kk1 ?_
  · intro v e0
    have e1 := kk2 _ e0
    subst e1
    refine r_iconst (v := 0) C.1 dX11_rules_46 rfl ?_
    refine r_istore_n C.1 [(1, .int (0 : Int32)), (0, .ref (x_ad x 0))] dX11_rules_47 rfl (by decide) rfl rfl ?_
    exact r_sub [1, 0] rfl (w_X11_rules_48 C v (0 : Int32) _ h hr ev eM)

def b_X11_rules_0 (M : xM)  : Option (Int32 × xM) :=
  lt (uM M 0 0 (0 : Int32)) (fun M_1 => bd2 (f_X11_readsRules M_1) (fun r_2 M_4 => if r_2 = (-1 : Int32) then lt (uM M_4 0 2 (0 : Int32)) (fun M_6 => b_X11_rules_22 M_6 (0 : Int32)) else some ((-1 : Int32), M_4)))
set_option maxRecDepth 20000 in
set_option maxHeartbeats 2000000 in
theorem w_X11_rules_0 {x : xC} (C : CtM x RX11 cX11_rules 2 ({ frames := 7, cells := 0, slots := 0, locals := 152 } : Room)) (M : xM)   (o : Int32 × xM) (h : b_X11_rules_0 M = some o) (hr : (x_me x).sig.returnType = some .int) (ev : x_rv x = some (.int o.1)) (eM : x_M x = o.2) : J x M 0 [(0, .ref (x_ad x 0))] [] := by
  unfold b_X11_rules_0 at h
  refine r_aload_n C.1 0 dX11_rules_0 rfl rfl ?_
  refine r_iconst (v := 0) C.1 dX11_rules_1 rfl ?_
  obtain ⟨M_1, eM_1, h⟩ := lt_E h
  refine pf_X11_56 C eM_1 dX11_rules_2 ?_
  refine r_aload_n C.1 0 dX11_rules_5 rfl rfl ?_
  obtain ⟨r_2, M_4, hc_3, h⟩ := bd2_E h
  refine cl_X11_157 C ⟨Nat.le_of_ble_eq_true rfl, Nat.le_of_ble_eq_true rfl⟩ (m_X11_readsRules _ _ _ M_1 hc_3) (Nat.le_of_ble_eq_true rfl) dX11_rules_6 ?_
  refine r_iconst (v := -1) C.1 dX11_rules_9 rfl ?_
  refine r_icmp_eq C.1 15 dX11_rules_10 (by decide) (fun c_5 => ?_) (fun c_5 => ?_)
  · replace h := ite_T c_5 h
    refine r_aload_n C.1 0 dX11_rules_15 rfl rfl ?_
    refine r_iconst (v := 0) C.1 dX11_rules_16 rfl ?_
    obtain ⟨M_6, eM_6, h⟩ := lt_E h
    refine pf_X11_64 C eM_6 dX11_rules_17 ?_
    refine r_iconst (v := 0) C.1 dX11_rules_20 rfl ?_
    refine r_istore_n C.1 [(1, .int (0 : Int32)), (0, .ref (x_ad x 0))] dX11_rules_21 rfl (by decide) rfl rfl ?_
    exact r_sub [1, 0] rfl (w_X11_rules_22 C M_6 (0 : Int32) _ h hr ev eM)
  · replace h := ite_F c_5 h
    refine r_iconst (v := -1) C.1 dX11_rules_13 rfl ?_
    obtain rfl := Option.some.inj h
    exact r_iret C.1 hr ev eM dX11_rules_14
def f_X11_rules (M : xM)  : Option (Int32 × xM) := b_X11_rules_0 M 
set_option maxRecDepth 20000 in
theorem m_X11_rules (l : Launch) (D : va_G) (ad : Nat → Nat) (M : xM)   {r : Int32} {M1 : xM} (h : f_X11_rules M = some (r, M1)) : xMetM l yX11_rules cX11_rules 2 (some .int) ({ frames := 7, cells := 0, slots := 0, locals := 152 } : Room) [.ref (ad 0)] D ad M (some (.int r)) M1 := by
  refine xMetM_of (own := RX11) (by decide) rfl (Nat.le_of_ble_eq_true rfl) ?_
  intro x C e1 e2 e3 ev eM hr
  subst e1; subst e2; subst e3
  refine r_sub (L := [(0, .ref (x_ad x 0))]) (L' := [(0, .ref (x_ad x 0))]) [0] rfl ?_
  exact w_X11_rules_0 C M _ h hr ev eM

def b_X11_rule_27 (M : xM) (s0 : Int32) : Option (Int32 × xM) :=
  some (s0, M)
set_option maxRecDepth 20000 in
set_option maxHeartbeats 2000000 in
theorem w_X11_rule_27 {x : xC} (C : CtM x RX11 cX11_rule 2 ({ frames := 1, cells := 0, slots := 0, locals := 25 } : Room)) (M : xM) (s0 : Int32)  (o : Int32 × xM) (h : b_X11_rule_27 M s0 = some o) (hr : (x_me x).sig.returnType = some .int) (ev : x_rv x = some (.int o.1)) (eM : x_M x = o.2) : J x M 27 [] [.int s0] := by
  unfold b_X11_rule_27 at h
  obtain rfl := Option.some.inj h
  exact r_iret C.1 hr ev eM dX11_rule_27

def b_X11_rule_0 (M : xM) (x1 : Int32) : Option (Int32 × xM) :=
  lt (uM M 0 0 (0 : Int32)) (fun M_1 => bd (f_X11_in M_1 x1.toInt64 (0 : Int64) (6 : Int64)) (fun r_2 => if r_2 = 0 then b_X11_rule_27 M_1 (-1 : Int32) else gd x1 7 (b_X11_rule_27 M_1 (M_1 3 x1.toNatClampNeg))))
set_option maxRecDepth 20000 in
set_option maxHeartbeats 2000000 in
theorem w_X11_rule_0 {x : xC} (C : CtM x RX11 cX11_rule 2 ({ frames := 1, cells := 0, slots := 0, locals := 25 } : Room)) (M : xM) (x1 : Int32)  (o : Int32 × xM) (h : b_X11_rule_0 M x1 = some o) (hr : (x_me x).sig.returnType = some .int) (ev : x_rv x = some (.int o.1)) (eM : x_M x = o.2) : J x M 0 [(0, .ref (x_ad x 0)), (1, .int x1)] [] := by
  unfold b_X11_rule_0 at h
  refine r_aload_n C.1 0 dX11_rule_0 rfl rfl ?_
  refine r_iconst (v := 0) C.1 dX11_rule_1 rfl ?_
  obtain ⟨M_1, eM_1, h⟩ := lt_E h
  refine pf_X11_56 C eM_1 dX11_rule_2 ?_
  refine r_iload_n C.1 1 dX11_rule_5 rfl rfl ?_
  refine r_i2l C.1 dX11_rule_6 ?_
  refine r_lconst (v := 0) C.1 dX11_rule_7 rfl ?_
  refine r_ldc2 (v := 6) C.1 kw_1420 dX11_rule_8 ?_
  obtain ⟨r_2, hc_3, h⟩ := bd_E h
  refine cl_X11_67 C ⟨Nat.le_of_ble_eq_true rfl, Nat.le_of_ble_eq_true rfl⟩ (m_X11_in _ _ _ M_1 x1.toInt64 (0 : Int64) (6 : Int64) hc_3) (Nat.le_of_ble_eq_true rfl) dX11_rule_11 ?_
  refine r_if_eq C.1 26 dX11_rule_14 (by decide) (fun c_4 => ?_) (fun c_4 => ?_)
  · replace h := ite_T c_4 h
    refine r_iconst (v := -1) C.1 dX11_rule_26 rfl ?_
    exact r_sub [] rfl (w_X11_rule_27 C M_1 (-1 : Int32) _ h hr ev eM)
  · replace h := ite_F c_4 h
    refine r_aload_n C.1 0 dX11_rule_17 rfl rfl ?_
    refine gf_X11_16 C dX11_rule_18 ?_
    refine r_iload_n C.1 1 dX11_rule_21 rfl rfl ?_
    obtain ⟨q_5, h⟩ := gd_E h
    refine r_iald C.1 (mK C (by decide)) (mS C (shm_3)) 0 (mT0 C) q_5 dX11_rule_22 ?_
    refine r_goto C.1 27 dX11_rule_23 (by decide) ?_
    exact r_sub [] rfl (w_X11_rule_27 C M_1 (M_1 3 x1.toNatClampNeg) _ h hr ev eM)
def f_X11_rule (M : xM) (x1 : Int32) : Option (Int32 × xM) := b_X11_rule_0 M x1
set_option maxRecDepth 20000 in
theorem m_X11_rule (l : Launch) (D : va_G) (ad : Nat → Nat) (M : xM) (x1 : Int32)  {r : Int32} {M1 : xM} (h : f_X11_rule M x1 = some (r, M1)) : xMetM l yX11_rule cX11_rule 2 (some .int) ({ frames := 1, cells := 0, slots := 0, locals := 25 } : Room) [.ref (ad 0), .int x1] D ad M (some (.int r)) M1 := by
  refine xMetM_of (own := RX11) (by decide) rfl (Nat.le_of_ble_eq_true rfl) ?_
  intro x C e1 e2 e3 ev eM hr
  subst e1; subst e2; subst e3
  refine r_sub (L := [(0, .ref (x_ad x 0)), (1, .int x1)]) (L' := [(0, .ref (x_ad x 0)), (1, .int x1)]) [0, 1] rfl ?_
  exact w_X11_rule_0 C M x1 _ h hr ev eM

def b_X11_refuses_0 (M : xM) (x1 : Int32) : Option (Int32 × xM) :=
  gd x1 5 (gd x1 5 (lt (uM M 7 x1.toNatClampNeg ((M 7 x1.toNatClampNeg) + (1 : Int32))) (fun M_3 => some ((-1 : Int32), M_3))))
set_option maxRecDepth 20000 in
set_option maxHeartbeats 2000000 in
theorem w_X11_refuses_0 {x : xC} (C : CtM x RX11 cX11_refuses 2 ({ frames := 0, cells := 0, slots := 0, locals := 0 } : Room)) (M : xM) (x1 : Int32)  (o : Int32 × xM) (h : b_X11_refuses_0 M x1 = some o) (hr : (x_me x).sig.returnType = some .int) (ev : x_rv x = some (.int o.1)) (eM : x_M x = o.2) : J x M 0 [(0, .ref (x_ad x 0)), (1, .int x1)] [] := by
  unfold b_X11_refuses_0 at h
  refine r_aload_n C.1 0 dX11_refuses_0 rfl rfl ?_
  refine gf_X11_28 C dX11_refuses_1 ?_
  refine r_iload_n C.1 1 dX11_refuses_4 rfl rfl ?_
  refine r_dup2 C.1 rfl rfl dX11_refuses_5 ?_
  obtain ⟨q_1, h⟩ := gd_E h
  refine r_iald C.1 (mK C (by decide)) (mS C (shm_7)) 0 (mT0 C) q_1 dX11_refuses_6 ?_
  refine r_iconst (v := 1) C.1 dX11_refuses_7 rfl ?_
  refine r_iadd C.1 dX11_refuses_8 ?_
  obtain ⟨q_2, h⟩ := gd_E h
  obtain ⟨M_3, eM_3, h⟩ := lt_E h
  refine r_iast C.1 (mK C (by decide)) (mS C (shm_7)) 0 (mT0 C) q_2 eM_3 dX11_refuses_9 ?_
  refine r_iconst (v := -1) C.1 dX11_refuses_10 rfl ?_
  obtain rfl := Option.some.inj h
  exact r_iret C.1 hr ev eM dX11_refuses_11
def f_X11_refuses (M : xM) (x1 : Int32) : Option (Int32 × xM) := b_X11_refuses_0 M x1
set_option maxRecDepth 20000 in
theorem m_X11_refuses (l : Launch) (D : va_G) (ad : Nat → Nat) (M : xM) (x1 : Int32)  {r : Int32} {M1 : xM} (h : f_X11_refuses M x1 = some (r, M1)) : xMetM l yX11_refuses cX11_refuses 2 (some .int) ({ frames := 0, cells := 0, slots := 0, locals := 0 } : Room) [.ref (ad 0), .int x1] D ad M (some (.int r)) M1 := by
  refine xMetM_of (own := RX11) (by decide) rfl (Nat.le_of_ble_eq_true rfl) ?_
  intro x C e1 e2 e3 ev eM hr
  subst e1; subst e2; subst e3
  refine r_sub (L := [(0, .ref (x_ad x 0)), (1, .int x1)]) (L' := [(0, .ref (x_ad x 0)), (1, .int x1)]) [0, 1] rfl ?_
  exact w_X11_refuses_0 C M x1 _ h hr ev eM

def bl_X11_keeps_54 (M : xM) (x1 : Int32) : Option ((xM × Int32) ⊕ (xM)) :=
  if (495 : Int32) ≤ x1 then some (.inr M) else gd x1 495 (gd (((495 : Int32) * (M 0 13)) + x1) 4950 (lt (uM M 5 (((495 : Int32) * (M 0 13)) + x1).toNatClampNeg (M 4 x1.toNatClampNeg)) (fun M_4 => lt (x1 + (1 : Int32)) (fun y_5 => some (.inl (M_4, y_5))))))
set_option maxRecDepth 20000 in
set_option maxHeartbeats 2000000 in
theorem wl_X11_keeps_54 {x : xC} (C : CtM x RX11 cX11_keeps 2 ({ frames := 0, cells := 0, slots := 0, locals := 0 } : Room)) (M : xM) (x1 : Int32)  (o : (xM × Int32) ⊕ (xM)) (h : bl_X11_keeps_54 M x1 = some o) (kh : ∀ s : xM × Int32, o = .inl s → J x s.1 54 [(0, .ref (x_ad x 0)), (1, .int s.2)] []) (ke_0 : ∀ v : xM, o = .inr v → J x v 88 [(0, .ref (x_ad x 0))] []) : J x M 54 [(0, .ref (x_ad x 0)), (1, .int x1)] [] := by
  unfold bl_X11_keeps_54 at h
  refine r_iload_n C.1 1 dX11_keeps_54 rfl rfl ?_
  refine r_sipush (v := 495) C.1 dX11_keeps_55 (by decide) ?_
  refine r_icmp_ge C.1 88 dX11_keeps_58 (by decide) (fun c_1 => ?_) (fun c_1 => ?_)
  · replace h := ite_T c_1 h
    exact r_sub [0] rfl (ke_0 _ (Option.some.inj h).symm)
  · replace h := ite_F c_1 h
    refine r_aload_n C.1 0 dX11_keeps_61 rfl rfl ?_
    refine gf_X11_22 C dX11_keeps_62 ?_
    refine r_sipush (v := 495) C.1 dX11_keeps_65 (by decide) ?_
    refine r_aload_n C.1 0 dX11_keeps_68 rfl rfl ?_
    refine gf_X11_160 C dX11_keeps_69 ?_
    refine r_imul C.1 dX11_keeps_72 ?_
    refine r_iload_n C.1 1 dX11_keeps_73 rfl rfl ?_
    refine r_iadd C.1 dX11_keeps_74 ?_
    refine r_aload_n C.1 0 dX11_keeps_75 rfl rfl ?_
    refine gf_X11_19 C dX11_keeps_76 ?_
    refine r_iload_n C.1 1 dX11_keeps_79 rfl rfl ?_
    obtain ⟨q_2, h⟩ := gd_E h
    refine r_iald C.1 (mK C (by decide)) (mS C (shm_4)) 0 (mT0 C) q_2 dX11_keeps_80 ?_
    obtain ⟨q_3, h⟩ := gd_E h
    obtain ⟨M_4, eM_4, h⟩ := lt_E h
    refine r_iast C.1 (mK C (by decide)) (mS C (shm_5)) 0 (mT0 C) q_3 eM_4 dX11_keeps_81 ?_
    obtain ⟨y_5, ey_5, h⟩ := lt_E h
    refine r_iinc C.1 1 [(1, .int y_5), (0, .ref (x_ad x 0))] dX11_keeps_82 rfl ey_5 (by decide) rfl ?_
    refine r_goto C.1 54 dX11_keeps_85 (by decide) ?_
    exact r_sub [1, 0] rfl (kh _ (Option.some.inj h).symm)

def b_X11_keeps_54 (M : xM) (x1 : Int32) : Option (xM) :=
  bd (loopN (fun s : xM × Int32 => bl_X11_keeps_54 s.1 s.2) BG (M, x1)) (fun v => lt (uM v 0 13 ((v 0 13) + (1 : Int32))) (fun M_1 => some M_1))
set_option maxRecDepth 20000 in
set_option maxHeartbeats 2000000 in
theorem w_X11_keeps_54 {x : xC} (C : CtM x RX11 cX11_keeps 2 ({ frames := 0, cells := 0, slots := 0, locals := 0 } : Room)) (M : xM) (x1 : Int32)  (o : xM) (h : b_X11_keeps_54 M x1 = some o) (hr : (x_me x).sig.returnType = none) (ev : x_rv x = none) (eM : x_M x = o) : J x M 54 [(0, .ref (x_ad x 0)), (1, .int x1)] [] := by
  unfold b_X11_keeps_54 at h
  obtain ⟨r_0, hr_0, h⟩ := bd_E h
  refine loopN_ind (JJ := fun s => J x s.1 54 [(0, .ref (x_ad x 0)), (1, .int s.2)] []) (KX := fun q => q = r_0) ?_ BG (M, x1) r_0 hr_0 rfl
  intro s o1 hb kk1 kk2
  refine wl_X11_keeps_54 C s.1 s.2 _ hb kk1 ?_
  · intro v e0
    have e1 := kk2 _ e0
    subst e1
    refine r_aload_n C.1 0 dX11_keeps_88 rfl rfl ?_
    refine r_dup C.1 rfl dX11_keeps_89 ?_
    refine gf_X11_160 C dX11_keeps_90 ?_
    refine r_iconst (v := 1) C.1 dX11_keeps_93 rfl ?_
    refine r_iadd C.1 dX11_keeps_94 ?_
    obtain ⟨M_1, eM_1, h⟩ := lt_E h
    refine pf_X11_160 C eM_1 dX11_keeps_95 ?_
    obtain rfl := Option.some.inj h
    exact r_vret C.1 hr ev eM dX11_keeps_98

def b_X11_keeps_52 (M : xM)  : Option (xM) :=
  b_X11_keeps_54 M (0 : Int32)
set_option maxRecDepth 20000 in
set_option maxHeartbeats 2000000 in
theorem w_X11_keeps_52 {x : xC} (C : CtM x RX11 cX11_keeps 2 ({ frames := 0, cells := 0, slots := 0, locals := 0 } : Room)) (M : xM)   (o : xM) (h : b_X11_keeps_52 M = some o) (hr : (x_me x).sig.returnType = none) (ev : x_rv x = none) (eM : x_M x = o) : J x M 52 [(0, .ref (x_ad x 0))] [] := by
  unfold b_X11_keeps_52 at h
  refine r_iconst (v := 0) C.1 dX11_keeps_52 rfl ?_
  refine r_istore_n C.1 [(1, .int (0 : Int32)), (0, .ref (x_ad x 0))] dX11_keeps_53 rfl (by decide) rfl rfl ?_
  exact r_sub [1, 0] rfl (w_X11_keeps_54 C M (0 : Int32) _ h hr ev eM)

def bl_X11_keeps_13 (M : xM) (x1 : Int32) : Option ((xM × Int32) ⊕ (xM)) :=
  if (4950 : Int32) ≤ x1 then some (.inr M) else gd x1 4950 (gd (x1 - (495 : Int32)) 4950 (lt (uM M 5 (x1 - (495 : Int32)).toNatClampNeg (M 5 x1.toNatClampNeg)) (fun M_4 => lt (x1 + (1 : Int32)) (fun y_5 => some (.inl (M_4, y_5))))))
set_option maxRecDepth 20000 in
set_option maxHeartbeats 2000000 in
theorem wl_X11_keeps_13 {x : xC} (C : CtM x RX11 cX11_keeps 2 ({ frames := 0, cells := 0, slots := 0, locals := 0 } : Room)) (M : xM) (x1 : Int32)  (o : (xM × Int32) ⊕ (xM)) (h : bl_X11_keeps_13 M x1 = some o) (kh : ∀ s : xM × Int32, o = .inl s → J x s.1 13 [(0, .ref (x_ad x 0)), (1, .int s.2)] []) (ke_0 : ∀ v : xM, o = .inr v → J x v 42 [(0, .ref (x_ad x 0))] []) : J x M 13 [(0, .ref (x_ad x 0)), (1, .int x1)] [] := by
  unfold bl_X11_keeps_13 at h
  refine r_iload_n C.1 1 dX11_keeps_13 rfl rfl ?_
  refine r_sipush (v := 4950) C.1 dX11_keeps_14 (by decide) ?_
  refine r_icmp_ge C.1 42 dX11_keeps_17 (by decide) (fun c_1 => ?_) (fun c_1 => ?_)
  · replace h := ite_T c_1 h
    exact r_sub [0] rfl (ke_0 _ (Option.some.inj h).symm)
  · replace h := ite_F c_1 h
    refine r_aload_n C.1 0 dX11_keeps_20 rfl rfl ?_
    refine gf_X11_22 C dX11_keeps_21 ?_
    refine r_iload_n C.1 1 dX11_keeps_24 rfl rfl ?_
    refine r_sipush (v := 495) C.1 dX11_keeps_25 (by decide) ?_
    refine r_isub C.1 dX11_keeps_28 ?_
    refine r_aload_n C.1 0 dX11_keeps_29 rfl rfl ?_
    refine gf_X11_22 C dX11_keeps_30 ?_
    refine r_iload_n C.1 1 dX11_keeps_33 rfl rfl ?_
    obtain ⟨q_2, h⟩ := gd_E h
    refine r_iald C.1 (mK C (by decide)) (mS C (shm_5)) 0 (mT0 C) q_2 dX11_keeps_34 ?_
    obtain ⟨q_3, h⟩ := gd_E h
    obtain ⟨M_4, eM_4, h⟩ := lt_E h
    refine r_iast C.1 (mK C (by decide)) (mS C (shm_5)) 0 (mT0 C) q_3 eM_4 dX11_keeps_35 ?_
    obtain ⟨y_5, ey_5, h⟩ := lt_E h
    refine r_iinc C.1 1 [(1, .int y_5), (0, .ref (x_ad x 0))] dX11_keeps_36 rfl ey_5 (by decide) rfl ?_
    refine r_goto C.1 13 dX11_keeps_39 (by decide) ?_
    exact r_sub [1, 0] rfl (kh _ (Option.some.inj h).symm)

def b_X11_keeps_13 (M : xM) (x1 : Int32) : Option (xM) :=
  bd (loopN (fun s : xM × Int32 => bl_X11_keeps_13 s.1 s.2) BG (M, x1)) (fun v => lt (uM v 0 13 ((v 0 13) - (1 : Int32))) (fun M_1 => b_X11_keeps_52 M_1))
set_option maxRecDepth 20000 in
set_option maxHeartbeats 2000000 in
theorem w_X11_keeps_13 {x : xC} (C : CtM x RX11 cX11_keeps 2 ({ frames := 0, cells := 0, slots := 0, locals := 0 } : Room)) (M : xM) (x1 : Int32)  (o : xM) (h : b_X11_keeps_13 M x1 = some o) (hr : (x_me x).sig.returnType = none) (ev : x_rv x = none) (eM : x_M x = o) : J x M 13 [(0, .ref (x_ad x 0)), (1, .int x1)] [] := by
  unfold b_X11_keeps_13 at h
  obtain ⟨r_0, hr_0, h⟩ := bd_E h
  refine loopN_ind (JJ := fun s => J x s.1 13 [(0, .ref (x_ad x 0)), (1, .int s.2)] []) (KX := fun q => q = r_0) ?_ BG (M, x1) r_0 hr_0 rfl
  intro s o1 hb kk1 kk2
  refine wl_X11_keeps_13 C s.1 s.2 _ hb kk1 ?_
  · intro v e0
    have e1 := kk2 _ e0
    subst e1
    refine r_aload_n C.1 0 dX11_keeps_42 rfl rfl ?_
    refine r_dup C.1 rfl dX11_keeps_43 ?_
    refine gf_X11_160 C dX11_keeps_44 ?_
    refine r_iconst (v := 1) C.1 dX11_keeps_47 rfl ?_
    refine r_isub C.1 dX11_keeps_48 ?_
    obtain ⟨M_1, eM_1, h⟩ := lt_E h
    refine pf_X11_160 C eM_1 dX11_keeps_49 ?_
    exact r_sub [0] rfl (w_X11_keeps_52 C M_1 _ h hr ev eM)

def b_X11_keeps_0 (M : xM)  : Option (xM) :=
  if (M 0 13) = (10 : Int32) then b_X11_keeps_13 M (495 : Int32) else b_X11_keeps_52 M
set_option maxRecDepth 20000 in
set_option maxHeartbeats 2000000 in
theorem w_X11_keeps_0 {x : xC} (C : CtM x RX11 cX11_keeps 2 ({ frames := 0, cells := 0, slots := 0, locals := 0 } : Room)) (M : xM)   (o : xM) (h : b_X11_keeps_0 M = some o) (hr : (x_me x).sig.returnType = none) (ev : x_rv x = none) (eM : x_M x = o) : J x M 0 [(0, .ref (x_ad x 0))] [] := by
  unfold b_X11_keeps_0 at h
  refine r_aload_n C.1 0 dX11_keeps_0 rfl rfl ?_
  refine gf_X11_160 C dX11_keeps_1 ?_
  refine r_bipush (v := 10) C.1 dX11_keeps_4 (by decide) ?_
  refine r_icmp_ne C.1 52 dX11_keeps_6 (by decide) (fun c_1 => ?_) (fun c_1 => ?_)
  · replace h := ite_F c_1 h
    exact r_sub [0] rfl (w_X11_keeps_52 C M _ h hr ev eM)
  · replace h := ite_T c_1 h
    refine r_sipush (v := 495) C.1 dX11_keeps_9 (by decide) ?_
    refine r_istore_n C.1 [(1, .int (495 : Int32)), (0, .ref (x_ad x 0))] dX11_keeps_12 rfl (by decide) rfl rfl ?_
    exact r_sub [1, 0] rfl (w_X11_keeps_13 C M (495 : Int32) _ h hr ev eM)
def f_X11_keeps (M : xM)  : Option (xM) := b_X11_keeps_0 M 
set_option maxRecDepth 20000 in
theorem m_X11_keeps (l : Launch) (D : va_G) (ad : Nat → Nat) (M : xM)   {o : xM} (h : f_X11_keeps M = some o) : xMetM l yX11_keeps cX11_keeps 2 none ({ frames := 0, cells := 0, slots := 0, locals := 0 } : Room) [.ref (ad 0)] D ad M none o := by
  refine xMetM_of (own := RX11) (by decide) rfl (Nat.le_of_ble_eq_true rfl) ?_
  intro x C e1 e2 e3 ev eM hr
  subst e1; subst e2; subst e3
  refine r_sub (L := [(0, .ref (x_ad x 0))]) (L' := [(0, .ref (x_ad x 0))]) [0] rfl ?_
  exact w_X11_keeps_0 C M _ h hr ev eM

def b_X11_its_0 (M : xM) (x1 : Int32) (x2 : Int32) : Option (Int32) :=
  gd (((7 : Int32) + ((37 : Int32) * x1)) + x2) 495 (some (M 4 (((7 : Int32) + ((37 : Int32) * x1)) + x2).toNatClampNeg))
set_option maxRecDepth 20000 in
set_option maxHeartbeats 2000000 in
theorem w_X11_its_0 {x : xC} (C : CtM x RX11 cX11_its 3 ({ frames := 0, cells := 0, slots := 0, locals := 0 } : Room)) (M : xM) (x1 : Int32) (x2 : Int32)  (o : Int32) (h : b_X11_its_0 M x1 x2 = some o) (hr : (x_me x).sig.returnType = some .int) (ev : x_rv x = some (.int o)) (eM : x_M x = M) : J x M 0 [(0, .ref (x_ad x 0)), (1, .int x1), (2, .int x2)] [] := by
  unfold b_X11_its_0 at h
  refine r_aload_n C.1 0 dX11_its_0 rfl rfl ?_
  refine gf_X11_19 C dX11_its_1 ?_
  refine r_bipush (v := 7) C.1 dX11_its_4 (by decide) ?_
  refine r_bipush (v := 37) C.1 dX11_its_6 (by decide) ?_
  refine r_iload_n C.1 1 dX11_its_8 rfl rfl ?_
  refine r_imul C.1 dX11_its_9 ?_
  refine r_iadd C.1 dX11_its_10 ?_
  refine r_iload_n C.1 2 dX11_its_11 rfl rfl ?_
  refine r_iadd C.1 dX11_its_12 ?_
  obtain ⟨q_1, h⟩ := gd_E h
  refine r_iald C.1 (mK C (by decide)) (mS C (shm_4)) 0 (mT0 C) q_1 dX11_its_13 ?_
  obtain rfl := Option.some.inj h
  exact r_iret C.1 hr ev eM dX11_its_14
def f_X11_its (M : xM) (x1 : Int32) (x2 : Int32) : Option (Int32) := b_X11_its_0 M x1 x2
set_option maxRecDepth 20000 in
theorem m_X11_its (l : Launch) (D : va_G) (ad : Nat → Nat) (M : xM) (x1 : Int32) (x2 : Int32)  {o : Int32} (h : f_X11_its M x1 x2 = some o) : xMetM l yX11_its cX11_its 3 (some .int) ({ frames := 0, cells := 0, slots := 0, locals := 0 } : Room) [.ref (ad 0), .int x1, .int x2] D ad M (some (.int o)) M := by
  refine xMetM_of (own := RX11) (by decide) rfl (Nat.le_of_ble_eq_true rfl) ?_
  intro x C e1 e2 e3 ev eM hr
  subst e1; subst e2; subst e3
  refine r_sub (L := [(0, .ref (x_ad x 0)), (1, .int x1), (2, .int x2)]) (L' := [(0, .ref (x_ad x 0)), (1, .int x1), (2, .int x2)]) [0, 1, 2] rfl ?_
  exact w_X11_its_0 C M x1 x2 _ h hr ev eM

def b_X11_entryOf_0 (M : xM) (x1 : Int32) (x2 : Int32) : Option (Int32) :=
  gd (((155 : Int32) + ((7 : Int32) * x1)) + x2) 495 (some (M 4 (((155 : Int32) + ((7 : Int32) * x1)) + x2).toNatClampNeg))
set_option maxRecDepth 20000 in
set_option maxHeartbeats 2000000 in
theorem w_X11_entryOf_0 {x : xC} (C : CtM x RX11 cX11_entryOf 3 ({ frames := 0, cells := 0, slots := 0, locals := 0 } : Room)) (M : xM) (x1 : Int32) (x2 : Int32)  (o : Int32) (h : b_X11_entryOf_0 M x1 x2 = some o) (hr : (x_me x).sig.returnType = some .int) (ev : x_rv x = some (.int o)) (eM : x_M x = M) : J x M 0 [(0, .ref (x_ad x 0)), (1, .int x1), (2, .int x2)] [] := by
  unfold b_X11_entryOf_0 at h
  refine r_aload_n C.1 0 dX11_entryOf_0 rfl rfl ?_
  refine gf_X11_19 C dX11_entryOf_1 ?_
  refine r_sipush (v := 155) C.1 dX11_entryOf_4 (by decide) ?_
  refine r_bipush (v := 7) C.1 dX11_entryOf_7 (by decide) ?_
  refine r_iload_n C.1 1 dX11_entryOf_9 rfl rfl ?_
  refine r_imul C.1 dX11_entryOf_10 ?_
  refine r_iadd C.1 dX11_entryOf_11 ?_
  refine r_iload_n C.1 2 dX11_entryOf_12 rfl rfl ?_
  refine r_iadd C.1 dX11_entryOf_13 ?_
  obtain ⟨q_1, h⟩ := gd_E h
  refine r_iald C.1 (mK C (by decide)) (mS C (shm_4)) 0 (mT0 C) q_1 dX11_entryOf_14 ?_
  obtain rfl := Option.some.inj h
  exact r_iret C.1 hr ev eM dX11_entryOf_15
def f_X11_entryOf (M : xM) (x1 : Int32) (x2 : Int32) : Option (Int32) := b_X11_entryOf_0 M x1 x2
set_option maxRecDepth 20000 in
theorem m_X11_entryOf (l : Launch) (D : va_G) (ad : Nat → Nat) (M : xM) (x1 : Int32) (x2 : Int32)  {o : Int32} (h : f_X11_entryOf M x1 x2 = some o) : xMetM l yX11_entryOf cX11_entryOf 3 (some .int) ({ frames := 0, cells := 0, slots := 0, locals := 0 } : Room) [.ref (ad 0), .int x1, .int x2] D ad M (some (.int o)) M := by
  refine xMetM_of (own := RX11) (by decide) rfl (Nat.le_of_ble_eq_true rfl) ?_
  intro x C e1 e2 e3 ev eM hr
  subst e1; subst e2; subst e3
  refine r_sub (L := [(0, .ref (x_ad x 0)), (1, .int x1), (2, .int x2)]) (L' := [(0, .ref (x_ad x 0)), (1, .int x1), (2, .int x2)]) [0, 1, 2] rfl ?_
  exact w_X11_entryOf_0 C M x1 x2 _ h hr ev eM

def b_X11_orderOf_0 (M : xM) (x1 : Int32) (x2 : Int32) : Option (Int32) :=
  gd (((435 : Int32) + ((5 : Int32) * x1)) + x2) 495 (some (M 4 (((435 : Int32) + ((5 : Int32) * x1)) + x2).toNatClampNeg))
set_option maxRecDepth 20000 in
set_option maxHeartbeats 2000000 in
theorem w_X11_orderOf_0 {x : xC} (C : CtM x RX11 cX11_orderOf 3 ({ frames := 0, cells := 0, slots := 0, locals := 0 } : Room)) (M : xM) (x1 : Int32) (x2 : Int32)  (o : Int32) (h : b_X11_orderOf_0 M x1 x2 = some o) (hr : (x_me x).sig.returnType = some .int) (ev : x_rv x = some (.int o)) (eM : x_M x = M) : J x M 0 [(0, .ref (x_ad x 0)), (1, .int x1), (2, .int x2)] [] := by
  unfold b_X11_orderOf_0 at h
  refine r_aload_n C.1 0 dX11_orderOf_0 rfl rfl ?_
  refine gf_X11_19 C dX11_orderOf_1 ?_
  refine r_sipush (v := 435) C.1 dX11_orderOf_4 (by decide) ?_
  refine r_iconst (v := 5) C.1 dX11_orderOf_7 rfl ?_
  refine r_iload_n C.1 1 dX11_orderOf_8 rfl rfl ?_
  refine r_imul C.1 dX11_orderOf_9 ?_
  refine r_iadd C.1 dX11_orderOf_10 ?_
  refine r_iload_n C.1 2 dX11_orderOf_11 rfl rfl ?_
  refine r_iadd C.1 dX11_orderOf_12 ?_
  obtain ⟨q_1, h⟩ := gd_E h
  refine r_iald C.1 (mK C (by decide)) (mS C (shm_4)) 0 (mT0 C) q_1 dX11_orderOf_13 ?_
  obtain rfl := Option.some.inj h
  exact r_iret C.1 hr ev eM dX11_orderOf_14
def f_X11_orderOf (M : xM) (x1 : Int32) (x2 : Int32) : Option (Int32) := b_X11_orderOf_0 M x1 x2
set_option maxRecDepth 20000 in
theorem m_X11_orderOf (l : Launch) (D : va_G) (ad : Nat → Nat) (M : xM) (x1 : Int32) (x2 : Int32)  {o : Int32} (h : f_X11_orderOf M x1 x2 = some o) : xMetM l yX11_orderOf cX11_orderOf 3 (some .int) ({ frames := 0, cells := 0, slots := 0, locals := 0 } : Room) [.ref (ad 0), .int x1, .int x2] D ad M (some (.int o)) M := by
  refine xMetM_of (own := RX11) (by decide) rfl (Nat.le_of_ble_eq_true rfl) ?_
  intro x C e1 e2 e3 ev eM hr
  subst e1; subst e2; subst e3
  refine r_sub (L := [(0, .ref (x_ad x 0)), (1, .int x1), (2, .int x2)]) (L' := [(0, .ref (x_ad x 0)), (1, .int x1), (2, .int x2)]) [0, 1, 2] rfl ?_
  exact w_X11_orderOf_0 C M x1 x2 _ h hr ev eM

def b_X11_isGuardian_0 (M : xM) (x1 : Int32) : Option (Int32) :=
  gd (0 : Int32) 495 (bd (f_X11_in M x1.toInt64 (0 : Int64) (((M 4 (0 : Int32).toNatClampNeg) - (1 : Int32)).toInt64)) (fun r_2 => gz r_2 (some r_2)))
set_option maxRecDepth 20000 in
set_option maxHeartbeats 2000000 in
theorem w_X11_isGuardian_0 {x : xC} (C : CtM x RX11 cX11_isGuardian 2 ({ frames := 1, cells := 0, slots := 0, locals := 25 } : Room)) (M : xM) (x1 : Int32)  (o : Int32) (h : b_X11_isGuardian_0 M x1 = some o) (hr : (x_me x).sig.returnType = some .boolean) (ev : x_rv x = some (.int o)) (eM : x_M x = M) : J x M 0 [(0, .ref (x_ad x 0)), (1, .int x1)] [] := by
  unfold b_X11_isGuardian_0 at h
  refine r_iload_n C.1 1 dX11_isGuardian_0 rfl rfl ?_
  refine r_i2l C.1 dX11_isGuardian_1 ?_
  refine r_lconst (v := 0) C.1 dX11_isGuardian_2 rfl ?_
  refine r_aload_n C.1 0 dX11_isGuardian_3 rfl rfl ?_
  refine gf_X11_19 C dX11_isGuardian_4 ?_
  refine r_iconst (v := 0) C.1 dX11_isGuardian_7 rfl ?_
  obtain ⟨q_1, h⟩ := gd_E h
  refine r_iald C.1 (mK C (by decide)) (mS C (shm_4)) 0 (mT0 C) q_1 dX11_isGuardian_8 ?_
  refine r_iconst (v := 1) C.1 dX11_isGuardian_9 rfl ?_
  refine r_isub C.1 dX11_isGuardian_10 ?_
  refine r_i2l C.1 dX11_isGuardian_11 ?_
  obtain ⟨r_2, hc_3, h⟩ := bd_E h
  refine cl_X11_67 C ⟨Nat.le_of_ble_eq_true rfl, Nat.le_of_ble_eq_true rfl⟩ (m_X11_in _ _ _ M x1.toInt64 (0 : Int64) (((M 4 (0 : Int32).toNatClampNeg) - (1 : Int32)).toInt64) hc_3) (Nat.le_of_ble_eq_true rfl) dX11_isGuardian_12 ?_
  obtain ⟨z_4, h⟩ := gz_E h
  obtain rfl := Option.some.inj h
  exact r_zret C.1 hr (nz_n z_4) ev eM dX11_isGuardian_15
def f_X11_isGuardian (M : xM) (x1 : Int32) : Option (Int32) := b_X11_isGuardian_0 M x1
set_option maxRecDepth 20000 in
theorem m_X11_isGuardian (l : Launch) (D : va_G) (ad : Nat → Nat) (M : xM) (x1 : Int32)  {o : Int32} (h : f_X11_isGuardian M x1 = some o) : xMetM l yX11_isGuardian cX11_isGuardian 2 (some .boolean) ({ frames := 1, cells := 0, slots := 0, locals := 25 } : Room) [.ref (ad 0), .int x1] D ad M (some (.int o)) M := by
  refine xMetM_of (own := RX11) (by decide) rfl (Nat.le_of_ble_eq_true rfl) ?_
  intro x C e1 e2 e3 ev eM hr
  subst e1; subst e2; subst e3
  refine r_sub (L := [(0, .ref (x_ad x 0)), (1, .int x1)]) (L' := [(0, .ref (x_ad x 0)), (1, .int x1)]) [0, 1] rfl ?_
  exact w_X11_isGuardian_0 C M x1 _ h hr ev eM

def b_X11_isWard_0 (M : xM) (x1 : Int32) : Option (Int32) :=
  gd (1 : Int32) 495 (bd (f_X11_in M x1.toInt64 (0 : Int64) (((M 4 (1 : Int32).toNatClampNeg) - (1 : Int32)).toInt64)) (fun r_2 => gz r_2 (some r_2)))
set_option maxRecDepth 20000 in
set_option maxHeartbeats 2000000 in
theorem w_X11_isWard_0 {x : xC} (C : CtM x RX11 cX11_isWard 2 ({ frames := 1, cells := 0, slots := 0, locals := 25 } : Room)) (M : xM) (x1 : Int32)  (o : Int32) (h : b_X11_isWard_0 M x1 = some o) (hr : (x_me x).sig.returnType = some .boolean) (ev : x_rv x = some (.int o)) (eM : x_M x = M) : J x M 0 [(0, .ref (x_ad x 0)), (1, .int x1)] [] := by
  unfold b_X11_isWard_0 at h
  refine r_iload_n C.1 1 dX11_isWard_0 rfl rfl ?_
  refine r_i2l C.1 dX11_isWard_1 ?_
  refine r_lconst (v := 0) C.1 dX11_isWard_2 rfl ?_
  refine r_aload_n C.1 0 dX11_isWard_3 rfl rfl ?_
  refine gf_X11_19 C dX11_isWard_4 ?_
  refine r_iconst (v := 1) C.1 dX11_isWard_7 rfl ?_
  obtain ⟨q_1, h⟩ := gd_E h
  refine r_iald C.1 (mK C (by decide)) (mS C (shm_4)) 0 (mT0 C) q_1 dX11_isWard_8 ?_
  refine r_iconst (v := 1) C.1 dX11_isWard_9 rfl ?_
  refine r_isub C.1 dX11_isWard_10 ?_
  refine r_i2l C.1 dX11_isWard_11 ?_
  obtain ⟨r_2, hc_3, h⟩ := bd_E h
  refine cl_X11_67 C ⟨Nat.le_of_ble_eq_true rfl, Nat.le_of_ble_eq_true rfl⟩ (m_X11_in _ _ _ M x1.toInt64 (0 : Int64) (((M 4 (1 : Int32).toNatClampNeg) - (1 : Int32)).toInt64) hc_3) (Nat.le_of_ble_eq_true rfl) dX11_isWard_12 ?_
  obtain ⟨z_4, h⟩ := gz_E h
  obtain rfl := Option.some.inj h
  exact r_zret C.1 hr (nz_n z_4) ev eM dX11_isWard_15
def f_X11_isWard (M : xM) (x1 : Int32) : Option (Int32) := b_X11_isWard_0 M x1
set_option maxRecDepth 20000 in
theorem m_X11_isWard (l : Launch) (D : va_G) (ad : Nat → Nat) (M : xM) (x1 : Int32)  {o : Int32} (h : f_X11_isWard M x1 = some o) : xMetM l yX11_isWard cX11_isWard 2 (some .boolean) ({ frames := 1, cells := 0, slots := 0, locals := 25 } : Room) [.ref (ad 0), .int x1] D ad M (some (.int o)) M := by
  refine xMetM_of (own := RX11) (by decide) rfl (Nat.le_of_ble_eq_true rfl) ?_
  intro x C e1 e2 e3 ev eM hr
  subst e1; subst e2; subst e3
  refine r_sub (L := [(0, .ref (x_ad x 0)), (1, .int x1)]) (L' := [(0, .ref (x_ad x 0)), (1, .int x1)]) [0, 1] rfl ?_
  exact w_X11_isWard_0 C M x1 _ h hr ev eM

def b_X11_isDay_0 (M : xM) (x0 : Int32) : Option (Int32) :=
  bd (f_X11_in M x0.toInt64 (0 : Int64) (3599 : Int64)) (fun r_1 => gz r_1 (some r_1))
set_option maxRecDepth 20000 in
set_option maxHeartbeats 2000000 in
theorem w_X11_isDay_0 {x : xC} (C : CtM x RX11 cX11_isDay 1 ({ frames := 1, cells := 0, slots := 0, locals := 25 } : Room)) (M : xM) (x0 : Int32)  (o : Int32) (h : b_X11_isDay_0 M x0 = some o) (hr : (x_me x).sig.returnType = some .boolean) (ev : x_rv x = some (.int o)) (eM : x_M x = M) : J x M 0 [(0, .int x0)] [] := by
  unfold b_X11_isDay_0 at h
  refine r_iload_n C.1 0 dX11_isDay_0 rfl rfl ?_
  refine r_i2l C.1 dX11_isDay_1 ?_
  refine r_lconst (v := 0) C.1 dX11_isDay_2 rfl ?_
  refine r_ldc2 (v := 3599) C.1 kw_1447 dX11_isDay_3 ?_
  obtain ⟨r_1, hc_2, h⟩ := bd_E h
  refine cl_X11_67 C ⟨Nat.le_of_ble_eq_true rfl, Nat.le_of_ble_eq_true rfl⟩ (m_X11_in _ _ _ M x0.toInt64 (0 : Int64) (3599 : Int64) hc_2) (Nat.le_of_ble_eq_true rfl) dX11_isDay_6 ?_
  obtain ⟨z_3, h⟩ := gz_E h
  obtain rfl := Option.some.inj h
  exact r_zret C.1 hr (nz_n z_3) ev eM dX11_isDay_9
def f_X11_isDay (M : xM) (x0 : Int32) : Option (Int32) := b_X11_isDay_0 M x0
set_option maxRecDepth 20000 in
theorem m_X11_isDay (l : Launch) (D : va_G) (ad : Nat → Nat) (M : xM) (x0 : Int32)  {o : Int32} (h : f_X11_isDay M x0 = some o) : xMetM l yX11_isDay cX11_isDay 1 (some .boolean) ({ frames := 1, cells := 0, slots := 0, locals := 25 } : Room) [.int x0] D ad M (some (.int o)) M := by
  refine xMetM_of (own := RX11) (by decide) rfl (Nat.le_of_ble_eq_true rfl) ?_
  intro x C e1 e2 e3 ev eM hr
  subst e1; subst e2; subst e3
  refine r_sub (L := [(0, .int x0)]) (L' := [(0, .int x0)]) [0] rfl ?_
  exact w_X11_isDay_0 C M x0 _ h hr ev eM

def b_X11_isYear_0 (M : xM) (x0 : Int32) : Option (Int32) :=
  bd (f_X11_in M x0.toInt64 (0 : Int64) (9 : Int64)) (fun r_1 => gz r_1 (some r_1))
set_option maxRecDepth 20000 in
set_option maxHeartbeats 2000000 in
theorem w_X11_isYear_0 {x : xC} (C : CtM x RX11 cX11_isYear 1 ({ frames := 1, cells := 0, slots := 0, locals := 25 } : Room)) (M : xM) (x0 : Int32)  (o : Int32) (h : b_X11_isYear_0 M x0 = some o) (hr : (x_me x).sig.returnType = some .boolean) (ev : x_rv x = some (.int o)) (eM : x_M x = M) : J x M 0 [(0, .int x0)] [] := by
  unfold b_X11_isYear_0 at h
  refine r_iload_n C.1 0 dX11_isYear_0 rfl rfl ?_
  refine r_i2l C.1 dX11_isYear_1 ?_
  refine r_lconst (v := 0) C.1 dX11_isYear_2 rfl ?_
  refine r_ldc2 (v := 9) C.1 kw_1651 dX11_isYear_3 ?_
  obtain ⟨r_1, hc_2, h⟩ := bd_E h
  refine cl_X11_67 C ⟨Nat.le_of_ble_eq_true rfl, Nat.le_of_ble_eq_true rfl⟩ (m_X11_in _ _ _ M x0.toInt64 (0 : Int64) (9 : Int64) hc_2) (Nat.le_of_ble_eq_true rfl) dX11_isYear_6 ?_
  obtain ⟨z_3, h⟩ := gz_E h
  obtain rfl := Option.some.inj h
  exact r_zret C.1 hr (nz_n z_3) ev eM dX11_isYear_9
def f_X11_isYear (M : xM) (x0 : Int32) : Option (Int32) := b_X11_isYear_0 M x0
set_option maxRecDepth 20000 in
theorem m_X11_isYear (l : Launch) (D : va_G) (ad : Nat → Nat) (M : xM) (x0 : Int32)  {o : Int32} (h : f_X11_isYear M x0 = some o) : xMetM l yX11_isYear cX11_isYear 1 (some .boolean) ({ frames := 1, cells := 0, slots := 0, locals := 25 } : Room) [.int x0] D ad M (some (.int o)) M := by
  refine xMetM_of (own := RX11) (by decide) rfl (Nat.le_of_ble_eq_true rfl) ?_
  intro x C e1 e2 e3 ev eM hr
  subst e1; subst e2; subst e3
  refine r_sub (L := [(0, .int x0)]) (L' := [(0, .int x0)]) [0] rfl ?_
  exact w_X11_isYear_0 C M x0 _ h hr ev eM

def b_X11_isPayment_33 (M : xM) (s0 : Int32) : Option (Int32) :=
  gz s0 (some s0)
set_option maxRecDepth 20000 in
set_option maxHeartbeats 2000000 in
theorem w_X11_isPayment_33 {x : xC} (C : CtM x RX11 cX11_isPayment 2 ({ frames := 1, cells := 0, slots := 0, locals := 25 } : Room)) (M : xM) (s0 : Int32)  (o : Int32) (h : b_X11_isPayment_33 M s0 = some o) (hr : (x_me x).sig.returnType = some .boolean) (ev : x_rv x = some (.int o)) (eM : x_M x = M) : J x M 33 [] [.int s0] := by
  unfold b_X11_isPayment_33 at h
  obtain ⟨z_1, h⟩ := gz_E h
  obtain rfl := Option.some.inj h
  exact r_zret C.1 hr (nz_n z_1) ev eM dX11_isPayment_33

def b_X11_isPayment_32 (M : xM)  : Option (Int32) :=
  b_X11_isPayment_33 M (0 : Int32)
set_option maxRecDepth 20000 in
set_option maxHeartbeats 2000000 in
theorem w_X11_isPayment_32 {x : xC} (C : CtM x RX11 cX11_isPayment 2 ({ frames := 1, cells := 0, slots := 0, locals := 25 } : Room)) (M : xM)   (o : Int32) (h : b_X11_isPayment_32 M = some o) (hr : (x_me x).sig.returnType = some .boolean) (ev : x_rv x = some (.int o)) (eM : x_M x = M) : J x M 32 [] [] := by
  unfold b_X11_isPayment_32 at h
  refine r_iconst (v := 0) C.1 dX11_isPayment_32 rfl ?_
  exact r_sub [] rfl (w_X11_isPayment_33 C M (0 : Int32) _ h hr ev eM)

def b_X11_isPayment_0 (M : xM) (x1 : Int32) : Option (Int32) :=
  gd (2 : Int32) 495 (bd (f_X11_in M x1.toInt64 (0 : Int64) (((M 4 (2 : Int32).toNatClampNeg) - (1 : Int32)).toInt64)) (fun r_2 => if r_2 = 0 then b_X11_isPayment_32 M else bd (f_X11_entryOf M x1 (0 : Int32)) (fun r_5 => if r_5 = (1 : Int32) then b_X11_isPayment_33 M (1 : Int32) else b_X11_isPayment_32 M)))
set_option maxRecDepth 20000 in
set_option maxHeartbeats 2000000 in
theorem w_X11_isPayment_0 {x : xC} (C : CtM x RX11 cX11_isPayment 2 ({ frames := 1, cells := 0, slots := 0, locals := 25 } : Room)) (M : xM) (x1 : Int32)  (o : Int32) (h : b_X11_isPayment_0 M x1 = some o) (hr : (x_me x).sig.returnType = some .boolean) (ev : x_rv x = some (.int o)) (eM : x_M x = M) : J x M 0 [(0, .ref (x_ad x 0)), (1, .int x1)] [] := by
  unfold b_X11_isPayment_0 at h
  refine r_iload_n C.1 1 dX11_isPayment_0 rfl rfl ?_
  refine r_i2l C.1 dX11_isPayment_1 ?_
  refine r_lconst (v := 0) C.1 dX11_isPayment_2 rfl ?_
  refine r_aload_n C.1 0 dX11_isPayment_3 rfl rfl ?_
  refine gf_X11_19 C dX11_isPayment_4 ?_
  refine r_iconst (v := 2) C.1 dX11_isPayment_7 rfl ?_
  obtain ⟨q_1, h⟩ := gd_E h
  refine r_iald C.1 (mK C (by decide)) (mS C (shm_4)) 0 (mT0 C) q_1 dX11_isPayment_8 ?_
  refine r_iconst (v := 1) C.1 dX11_isPayment_9 rfl ?_
  refine r_isub C.1 dX11_isPayment_10 ?_
  refine r_i2l C.1 dX11_isPayment_11 ?_
  obtain ⟨r_2, hc_3, h⟩ := bd_E h
  refine cl_X11_67 C ⟨Nat.le_of_ble_eq_true rfl, Nat.le_of_ble_eq_true rfl⟩ (m_X11_in _ _ _ M x1.toInt64 (0 : Int64) (((M 4 (2 : Int32).toNatClampNeg) - (1 : Int32)).toInt64) hc_3) (Nat.le_of_ble_eq_true rfl) dX11_isPayment_12 ?_
  refine r_if_eq C.1 32 dX11_isPayment_15 (by decide) (fun c_4 => ?_) (fun c_4 => ?_)
  · replace h := ite_T c_4 h
    exact r_sub [] rfl (w_X11_isPayment_32 C M _ h hr ev eM)
  · replace h := ite_F c_4 h
    refine r_aload_n C.1 0 dX11_isPayment_18 rfl rfl ?_
    refine r_iload_n C.1 1 dX11_isPayment_19 rfl rfl ?_
    refine r_iconst (v := 0) C.1 dX11_isPayment_20 rfl ?_
    obtain ⟨r_5, hc_6, h⟩ := bd_E h
    refine cl_X11_173 C ⟨Nat.le_of_ble_eq_true rfl, Nat.le_of_ble_eq_true rfl⟩ (m_X11_entryOf _ _ _ M x1 (0 : Int32) hc_6) (Nat.le_of_ble_eq_true rfl) dX11_isPayment_21 ?_
    refine r_iconst (v := 1) C.1 dX11_isPayment_24 rfl ?_
    refine r_icmp_ne C.1 32 dX11_isPayment_25 (by decide) (fun c_7 => ?_) (fun c_7 => ?_)
    · replace h := ite_F c_7 h
      exact r_sub [] rfl (w_X11_isPayment_32 C M _ h hr ev eM)
    · replace h := ite_T c_7 h
      refine r_iconst (v := 1) C.1 dX11_isPayment_28 rfl ?_
      refine r_goto C.1 33 dX11_isPayment_29 (by decide) ?_
      exact r_sub [] rfl (w_X11_isPayment_33 C M (1 : Int32) _ h hr ev eM)
def f_X11_isPayment (M : xM) (x1 : Int32) : Option (Int32) := b_X11_isPayment_0 M x1
set_option maxRecDepth 20000 in
theorem m_X11_isPayment (l : Launch) (D : va_G) (ad : Nat → Nat) (M : xM) (x1 : Int32)  {o : Int32} (h : f_X11_isPayment M x1 = some o) : xMetM l yX11_isPayment cX11_isPayment 2 (some .boolean) ({ frames := 1, cells := 0, slots := 0, locals := 25 } : Room) [.ref (ad 0), .int x1] D ad M (some (.int o)) M := by
  refine xMetM_of (own := RX11) (by decide) rfl (Nat.le_of_ble_eq_true rfl) ?_
  intro x C e1 e2 e3 ev eM hr
  subst e1; subst e2; subst e3
  refine r_sub (L := [(0, .ref (x_ad x 0)), (1, .int x1)]) (L' := [(0, .ref (x_ad x 0)), (1, .int x1)]) [0, 1] rfl ?_
  exact w_X11_isPayment_0 C M x1 _ h hr ev eM

def b_X11_isShut_31 (M : xM) (s0 : Int32) : Option (Int32) :=
  gz s0 (some s0)
set_option maxRecDepth 20000 in
set_option maxHeartbeats 2000000 in
theorem w_X11_isShut_31 {x : xC} (C : CtM x RX11 cX11_isShut 3 ({ frames := 1, cells := 0, slots := 0, locals := 22 } : Room)) (M : xM) (s0 : Int32)  (o : Int32) (h : b_X11_isShut_31 M s0 = some o) (hr : (x_me x).sig.returnType = some .boolean) (ev : x_rv x = some (.int o)) (eM : x_M x = M) : J x M 31 [] [.int s0] := by
  unfold b_X11_isShut_31 at h
  obtain ⟨z_1, h⟩ := gz_E h
  obtain rfl := Option.some.inj h
  exact r_zret C.1 hr (nz_n z_1) ev eM dX11_isShut_31

def b_X11_isShut_26 (M : xM)  : Option (Int32) :=
  b_X11_isShut_31 M (1 : Int32)
set_option maxRecDepth 20000 in
set_option maxHeartbeats 2000000 in
theorem w_X11_isShut_26 {x : xC} (C : CtM x RX11 cX11_isShut 3 ({ frames := 1, cells := 0, slots := 0, locals := 22 } : Room)) (M : xM)   (o : Int32) (h : b_X11_isShut_26 M = some o) (hr : (x_me x).sig.returnType = some .boolean) (ev : x_rv x = some (.int o)) (eM : x_M x = M) : J x M 26 [] [] := by
  unfold b_X11_isShut_26 at h
  refine r_iconst (v := 1) C.1 dX11_isShut_26 rfl ?_
  refine r_goto C.1 31 dX11_isShut_27 (by decide) ?_
  exact r_sub [] rfl (w_X11_isShut_31 C M (1 : Int32) _ h hr ev eM)

def b_X11_isShut_0 (M : xM) (x1 : Int32) (x2 : Int32) : Option (Int32) :=
  bd (f_X11_its M x1 (36 : Int32)) (fun r_1 => if r_1 = (1 : Int32) then b_X11_isShut_26 M else bd (f_X11_its M x1 (15 : Int32)) (fun r_4 => if r_4 ≤ (x2 / (360 : Int32)) then b_X11_isShut_31 M (0 : Int32) else b_X11_isShut_26 M))
set_option maxRecDepth 20000 in
set_option maxHeartbeats 2000000 in
theorem w_X11_isShut_0 {x : xC} (C : CtM x RX11 cX11_isShut 3 ({ frames := 1, cells := 0, slots := 0, locals := 22 } : Room)) (M : xM) (x1 : Int32) (x2 : Int32)  (o : Int32) (h : b_X11_isShut_0 M x1 x2 = some o) (hr : (x_me x).sig.returnType = some .boolean) (ev : x_rv x = some (.int o)) (eM : x_M x = M) : J x M 0 [(0, .ref (x_ad x 0)), (1, .int x1), (2, .int x2)] [] := by
  unfold b_X11_isShut_0 at h
  refine r_aload_n C.1 0 dX11_isShut_0 rfl rfl ?_
  refine r_iload_n C.1 1 dX11_isShut_1 rfl rfl ?_
  refine r_bipush (v := 36) C.1 dX11_isShut_2 (by decide) ?_
  obtain ⟨r_1, hc_2, h⟩ := bd_E h
  refine cl_X11_176 C ⟨Nat.le_of_ble_eq_true rfl, Nat.le_of_ble_eq_true rfl⟩ (m_X11_its _ _ _ M x1 (36 : Int32) hc_2) (Nat.le_of_ble_eq_true rfl) dX11_isShut_4 ?_
  refine r_iconst (v := 1) C.1 dX11_isShut_7 rfl ?_
  refine r_icmp_eq C.1 26 dX11_isShut_8 (by decide) (fun c_3 => ?_) (fun c_3 => ?_)
  · replace h := ite_T c_3 h
    exact r_sub [] rfl (w_X11_isShut_26 C M _ h hr ev eM)
  · replace h := ite_F c_3 h
    refine r_iload_n C.1 2 dX11_isShut_11 rfl rfl ?_
    refine r_sipush (v := 360) C.1 dX11_isShut_12 (by decide) ?_
    refine r_idiv C.1 (by decide) dX11_isShut_15 ?_
    refine r_aload_n C.1 0 dX11_isShut_16 rfl rfl ?_
    refine r_iload_n C.1 1 dX11_isShut_17 rfl rfl ?_
    refine r_bipush (v := 15) C.1 dX11_isShut_18 (by decide) ?_
    obtain ⟨r_4, hc_5, h⟩ := bd_E h
    refine cl_X11_176 C ⟨Nat.le_of_ble_eq_true rfl, Nat.le_of_ble_eq_true rfl⟩ (m_X11_its _ _ _ M x1 (15 : Int32) hc_5) (Nat.le_of_ble_eq_true rfl) dX11_isShut_20 ?_
    refine r_icmp_ge C.1 30 dX11_isShut_23 (by decide) (fun c_6 => ?_) (fun c_6 => ?_)
    · replace h := ite_T c_6 h
      refine r_iconst (v := 0) C.1 dX11_isShut_30 rfl ?_
      exact r_sub [] rfl (w_X11_isShut_31 C M (0 : Int32) _ h hr ev eM)
    · replace h := ite_F c_6 h
      exact r_sub [] rfl (w_X11_isShut_26 C M _ h hr ev eM)
def f_X11_isShut (M : xM) (x1 : Int32) (x2 : Int32) : Option (Int32) := b_X11_isShut_0 M x1 x2
set_option maxRecDepth 20000 in
theorem m_X11_isShut (l : Launch) (D : va_G) (ad : Nat → Nat) (M : xM) (x1 : Int32) (x2 : Int32)  {o : Int32} (h : f_X11_isShut M x1 x2 = some o) : xMetM l yX11_isShut cX11_isShut 3 (some .boolean) ({ frames := 1, cells := 0, slots := 0, locals := 22 } : Room) [.ref (ad 0), .int x1, .int x2] D ad M (some (.int o)) M := by
  refine xMetM_of (own := RX11) (by decide) rfl (Nat.le_of_ble_eq_true rfl) ?_
  intro x C e1 e2 e3 ev eM hr
  subst e1; subst e2; subst e3
  refine r_sub (L := [(0, .ref (x_ad x 0)), (1, .int x1), (2, .int x2)]) (L' := [(0, .ref (x_ad x 0)), (1, .int x1), (2, .int x2)]) [0, 1, 2] rfl ?_
  exact w_X11_isShut_0 C M x1 x2 _ h hr ev eM

def b_X11_guardianOf_53 (M : xM) (x1 : Int32) (x2 : Int32) (x4 : Int32) (s0 : Int32) : Option ((Int32 × Int32) ⊕ (Int32)) :=
  lt (x4 + (1 : Int32)) (fun y_1 => some (.inl (s0, y_1)))
set_option maxRecDepth 20000 in
set_option maxHeartbeats 2000000 in
theorem w_X11_guardianOf_53 {x : xC} (C : CtM x RX11 cX11_guardianOf 5 ({ frames := 1, cells := 0, slots := 0, locals := 22 } : Room)) (M : xM) (x1 : Int32) (x2 : Int32) (x4 : Int32) (s0 : Int32)  (o : (Int32 × Int32) ⊕ (Int32)) (h : b_X11_guardianOf_53 M x1 x2 x4 s0 = some o) (kh : ∀ s : Int32 × Int32, o = .inl s → J x M 10 [(0, .ref (x_ad x 0)), (1, .int x1), (2, .int x2), (3, .int s.1), (4, .int s.2)] []) (ke_0 : ∀ v : Int32, o = .inr v → J x M 60 [(3, .int v)] []) : J x M 53 [(0, .ref (x_ad x 0)), (1, .int x1), (2, .int x2), (4, .int x4)] [.int s0] := by
  unfold b_X11_guardianOf_53 at h
  refine r_istore_n C.1 [(3, .int s0), (0, .ref (x_ad x 0)), (1, .int x1), (2, .int x2), (4, .int x4)] dX11_guardianOf_53 rfl (by decide) rfl rfl ?_
  obtain ⟨y_1, ey_1, h⟩ := lt_E h
  refine r_iinc C.1 4 [(4, .int y_1), (3, .int s0), (0, .ref (x_ad x 0)), (1, .int x1), (2, .int x2)] dX11_guardianOf_54 rfl ey_1 (by decide) rfl ?_
  refine r_goto C.1 10 dX11_guardianOf_57 (by decide) ?_
  exact r_sub [2, 3, 4, 1, 0] rfl (kh _ (Option.some.inj h).symm)

def bl_X11_guardianOf_10 (M : xM) (x1 : Int32) (x2 : Int32) (x3 : Int32) (x4 : Int32) : Option ((Int32 × Int32) ⊕ (Int32)) :=
  bd (f_X11_its M x1 (2 : Int32)) (fun r_1 => if r_1 ≤ x4 then some (.inr x3) else bd (f_X11_its M x1 ((3 : Int32) + ((2 : Int32) * x4))) (fun r_4 => if x2 < r_4 then b_X11_guardianOf_53 M x1 x2 x4 x3 else bd (f_X11_its M x1 (((3 : Int32) + ((2 : Int32) * x4)) + (1 : Int32))) (fun r_7 => b_X11_guardianOf_53 M x1 x2 x4 r_7)))
set_option maxRecDepth 20000 in
set_option maxHeartbeats 2000000 in
theorem wl_X11_guardianOf_10 {x : xC} (C : CtM x RX11 cX11_guardianOf 5 ({ frames := 1, cells := 0, slots := 0, locals := 22 } : Room)) (M : xM) (x1 : Int32) (x2 : Int32) (x3 : Int32) (x4 : Int32)  (o : (Int32 × Int32) ⊕ (Int32)) (h : bl_X11_guardianOf_10 M x1 x2 x3 x4 = some o) (kh : ∀ s : Int32 × Int32, o = .inl s → J x M 10 [(0, .ref (x_ad x 0)), (1, .int x1), (2, .int x2), (3, .int s.1), (4, .int s.2)] []) (ke_0 : ∀ v : Int32, o = .inr v → J x M 60 [(3, .int v)] []) : J x M 10 [(0, .ref (x_ad x 0)), (1, .int x1), (2, .int x2), (3, .int x3), (4, .int x4)] [] := by
  unfold bl_X11_guardianOf_10 at h
  refine r_iload C.1 4 dX11_guardianOf_10 rfl ?_
  refine r_aload_n C.1 0 dX11_guardianOf_12 rfl rfl ?_
  refine r_iload_n C.1 1 dX11_guardianOf_13 rfl rfl ?_
  refine r_iconst (v := 2) C.1 dX11_guardianOf_14 rfl ?_
  obtain ⟨r_1, hc_2, h⟩ := bd_E h
  refine cl_X11_176 C ⟨Nat.le_of_ble_eq_true rfl, Nat.le_of_ble_eq_true rfl⟩ (m_X11_its _ _ _ M x1 (2 : Int32) hc_2) (Nat.le_of_ble_eq_true rfl) dX11_guardianOf_15 ?_
  refine r_icmp_ge C.1 60 dX11_guardianOf_18 (by decide) (fun c_3 => ?_) (fun c_3 => ?_)
  · replace h := ite_T c_3 h
    exact r_sub [3] rfl (ke_0 _ (Option.some.inj h).symm)
  · replace h := ite_F c_3 h
    refine r_aload_n C.1 0 dX11_guardianOf_21 rfl rfl ?_
    refine r_iload_n C.1 1 dX11_guardianOf_22 rfl rfl ?_
    refine r_iconst (v := 3) C.1 dX11_guardianOf_23 rfl ?_
    refine r_iconst (v := 2) C.1 dX11_guardianOf_24 rfl ?_
    refine r_iload C.1 4 dX11_guardianOf_25 rfl ?_
    refine r_imul C.1 dX11_guardianOf_27 ?_
    refine r_iadd C.1 dX11_guardianOf_28 ?_
    obtain ⟨r_4, hc_5, h⟩ := bd_E h
    refine cl_X11_176 C ⟨Nat.le_of_ble_eq_true rfl, Nat.le_of_ble_eq_true rfl⟩ (m_X11_its _ _ _ M x1 ((3 : Int32) + ((2 : Int32) * x4)) hc_5) (Nat.le_of_ble_eq_true rfl) dX11_guardianOf_29 ?_
    refine r_iload_n C.1 2 dX11_guardianOf_32 rfl rfl ?_
    refine r_icmp_gt C.1 52 dX11_guardianOf_33 (by decide) (fun c_6 => ?_) (fun c_6 => ?_)
    · replace h := ite_T c_6 h
      refine r_iload_n C.1 3 dX11_guardianOf_52 rfl rfl ?_
      exact r_sub [0, 1, 2, 4] rfl (w_X11_guardianOf_53 C M x1 x2 x4 x3 _ h kh ke_0)
    · replace h := ite_F c_6 h
      refine r_aload_n C.1 0 dX11_guardianOf_36 rfl rfl ?_
      refine r_iload_n C.1 1 dX11_guardianOf_37 rfl rfl ?_
      refine r_iconst (v := 3) C.1 dX11_guardianOf_38 rfl ?_
      refine r_iconst (v := 2) C.1 dX11_guardianOf_39 rfl ?_
      refine r_iload C.1 4 dX11_guardianOf_40 rfl ?_
      refine r_imul C.1 dX11_guardianOf_42 ?_
      refine r_iadd C.1 dX11_guardianOf_43 ?_
      refine r_iconst (v := 1) C.1 dX11_guardianOf_44 rfl ?_
      refine r_iadd C.1 dX11_guardianOf_45 ?_
      obtain ⟨r_7, hc_8, h⟩ := bd_E h
      refine cl_X11_176 C ⟨Nat.le_of_ble_eq_true rfl, Nat.le_of_ble_eq_true rfl⟩ (m_X11_its _ _ _ M x1 (((3 : Int32) + ((2 : Int32) * x4)) + (1 : Int32)) hc_8) (Nat.le_of_ble_eq_true rfl) dX11_guardianOf_46 ?_
      refine r_goto C.1 53 dX11_guardianOf_49 (by decide) ?_
      exact r_sub [0, 1, 2, 4] rfl (w_X11_guardianOf_53 C M x1 x2 x4 r_7 _ h kh ke_0)

def b_X11_guardianOf_10 (M : xM) (x1 : Int32) (x2 : Int32) (x3 : Int32) (x4 : Int32) : Option (Int32) :=
  bd (loopN (fun s : Int32 × Int32 => bl_X11_guardianOf_10 M x1 x2 s.1 s.2) BG (x3, x4)) (fun v => some v)
set_option maxRecDepth 20000 in
set_option maxHeartbeats 2000000 in
theorem w_X11_guardianOf_10 {x : xC} (C : CtM x RX11 cX11_guardianOf 5 ({ frames := 1, cells := 0, slots := 0, locals := 22 } : Room)) (M : xM) (x1 : Int32) (x2 : Int32) (x3 : Int32) (x4 : Int32)  (o : Int32) (h : b_X11_guardianOf_10 M x1 x2 x3 x4 = some o) (hr : (x_me x).sig.returnType = some .int) (ev : x_rv x = some (.int o)) (eM : x_M x = M) : J x M 10 [(0, .ref (x_ad x 0)), (1, .int x1), (2, .int x2), (3, .int x3), (4, .int x4)] [] := by
  unfold b_X11_guardianOf_10 at h
  obtain ⟨r_0, hr_0, h⟩ := bd_E h
  refine loopN_ind (JJ := fun s => J x M 10 [(0, .ref (x_ad x 0)), (1, .int x1), (2, .int x2), (3, .int s.1), (4, .int s.2)] []) (KX := fun q => q = r_0) ?_ BG (x3, x4) r_0 hr_0 rfl
  intro s o1 hb kk1 kk2
  refine wl_X11_guardianOf_10 C M x1 x2 s.1 s.2 _ hb kk1 ?_
  · intro v e0
    have e1 := kk2 _ e0
    subst e1
    refine r_iload_n C.1 0 dX11_guardianOf_60 rfl rfl ?_
    obtain rfl := Option.some.inj h
    exact r_iret C.1 hr ev eM dX11_guardianOf_61

def b_X11_guardianOf_0 (M : xM) (x1 : Int32) (x2 : Int32) : Option (Int32) :=
  bd (f_X11_its M x1 (1 : Int32)) (fun r_1 => b_X11_guardianOf_10 M x1 x2 r_1 (0 : Int32))
set_option maxRecDepth 20000 in
set_option maxHeartbeats 2000000 in
theorem w_X11_guardianOf_0 {x : xC} (C : CtM x RX11 cX11_guardianOf 5 ({ frames := 1, cells := 0, slots := 0, locals := 22 } : Room)) (M : xM) (x1 : Int32) (x2 : Int32)  (o : Int32) (h : b_X11_guardianOf_0 M x1 x2 = some o) (hr : (x_me x).sig.returnType = some .int) (ev : x_rv x = some (.int o)) (eM : x_M x = M) : J x M 0 [(0, .ref (x_ad x 0)), (1, .int x1), (2, .int x2)] [] := by
  unfold b_X11_guardianOf_0 at h
  refine r_aload_n C.1 0 dX11_guardianOf_0 rfl rfl ?_
  refine r_iload_n C.1 1 dX11_guardianOf_1 rfl rfl ?_
  refine r_iconst (v := 1) C.1 dX11_guardianOf_2 rfl ?_
  obtain ⟨r_1, hc_2, h⟩ := bd_E h
  refine cl_X11_176 C ⟨Nat.le_of_ble_eq_true rfl, Nat.le_of_ble_eq_true rfl⟩ (m_X11_its _ _ _ M x1 (1 : Int32) hc_2) (Nat.le_of_ble_eq_true rfl) dX11_guardianOf_3 ?_
  refine r_istore_n C.1 [(3, .int r_1), (0, .ref (x_ad x 0)), (1, .int x1), (2, .int x2)] dX11_guardianOf_6 rfl (by decide) rfl rfl ?_
  refine r_iconst (v := 0) C.1 dX11_guardianOf_7 rfl ?_
  refine r_istore C.1 [(4, .int (0 : Int32)), (3, .int r_1), (0, .ref (x_ad x 0)), (1, .int x1), (2, .int x2)] dX11_guardianOf_8 (by decide) rfl rfl ?_
  exact r_sub [2, 3, 4, 1, 0] rfl (w_X11_guardianOf_10 C M x1 x2 r_1 (0 : Int32) _ h hr ev eM)
def f_X11_guardianOf (M : xM) (x1 : Int32) (x2 : Int32) : Option (Int32) := b_X11_guardianOf_0 M x1 x2
set_option maxRecDepth 20000 in
theorem m_X11_guardianOf (l : Launch) (D : va_G) (ad : Nat → Nat) (M : xM) (x1 : Int32) (x2 : Int32)  {o : Int32} (h : f_X11_guardianOf M x1 x2 = some o) : xMetM l yX11_guardianOf cX11_guardianOf 5 (some .int) ({ frames := 1, cells := 0, slots := 0, locals := 22 } : Room) [.ref (ad 0), .int x1, .int x2] D ad M (some (.int o)) M := by
  refine xMetM_of (own := RX11) (by decide) rfl (Nat.le_of_ble_eq_true rfl) ?_
  intro x C e1 e2 e3 ev eM hr
  subst e1; subst e2; subst e3
  refine r_sub (L := [(0, .ref (x_ad x 0)), (1, .int x1), (2, .int x2)]) (L' := [(0, .ref (x_ad x 0)), (1, .int x1), (2, .int x2)]) [0, 1, 2] rfl ?_
  exact w_X11_guardianOf_0 C M x1 x2 _ h hr ev eM

def b_X11_isGood_56 (M : xM) (x1 : Int32) (x3 : Int32) (s0 : Int32) : Option ((Int32 × Int32) ⊕ (Int32)) :=
  lt (x3 + (1 : Int32)) (fun y_1 => some (.inl (s0, y_1)))
set_option maxRecDepth 20000 in
set_option maxHeartbeats 2000000 in
theorem w_X11_isGood_56 {x : xC} (C : CtM x RX11 cX11_isGood 4 ({ frames := 1, cells := 0, slots := 0, locals := 22 } : Room)) (M : xM) (x1 : Int32) (x3 : Int32) (s0 : Int32)  (o : (Int32 × Int32) ⊕ (Int32)) (h : b_X11_isGood_56 M x1 x3 s0 = some o) (kh : ∀ s : Int32 × Int32, o = .inl s → J x M 17 [(0, .ref (x_ad x 0)), (1, .int x1), (2, .int s.1), (3, .int s.2)] []) (ke_0 : ∀ v : Int32, o = .inr v → J x M 63 [(2, .int v)] []) : J x M 56 [(0, .ref (x_ad x 0)), (1, .int x1), (3, .int x3)] [.int s0] := by
  unfold b_X11_isGood_56 at h
  refine r_istore_n C.1 [(2, .int s0), (0, .ref (x_ad x 0)), (1, .int x1), (3, .int x3)] dX11_isGood_56 rfl (by decide) rfl rfl ?_
  obtain ⟨y_1, ey_1, h⟩ := lt_E h
  refine r_iinc C.1 3 [(3, .int y_1), (2, .int s0), (0, .ref (x_ad x 0)), (1, .int x1)] dX11_isGood_57 rfl ey_1 (by decide) rfl ?_
  refine r_goto C.1 17 dX11_isGood_60 (by decide) ?_
  exact r_sub [2, 3, 1, 0] rfl (kh _ (Option.some.inj h).symm)

def b_X11_isGood_51 (M : xM) (x1 : Int32) (x3 : Int32) : Option ((Int32 × Int32) ⊕ (Int32)) :=
  b_X11_isGood_56 M x1 x3 (1 : Int32)
set_option maxRecDepth 20000 in
set_option maxHeartbeats 2000000 in
theorem w_X11_isGood_51 {x : xC} (C : CtM x RX11 cX11_isGood 4 ({ frames := 1, cells := 0, slots := 0, locals := 22 } : Room)) (M : xM) (x1 : Int32) (x3 : Int32)  (o : (Int32 × Int32) ⊕ (Int32)) (h : b_X11_isGood_51 M x1 x3 = some o) (kh : ∀ s : Int32 × Int32, o = .inl s → J x M 17 [(0, .ref (x_ad x 0)), (1, .int x1), (2, .int s.1), (3, .int s.2)] []) (ke_0 : ∀ v : Int32, o = .inr v → J x M 63 [(2, .int v)] []) : J x M 51 [(0, .ref (x_ad x 0)), (1, .int x1), (3, .int x3)] [] := by
  unfold b_X11_isGood_51 at h
  refine r_iconst (v := 1) C.1 dX11_isGood_51 rfl ?_
  refine r_goto C.1 56 dX11_isGood_52 (by decide) ?_
  exact r_sub [0, 1, 2] rfl (w_X11_isGood_56 C M x1 x3 (1 : Int32) _ h kh ke_0)

def b_X11_isGood_55 (M : xM) (x1 : Int32) (x3 : Int32) : Option ((Int32 × Int32) ⊕ (Int32)) :=
  b_X11_isGood_56 M x1 x3 (0 : Int32)
set_option maxRecDepth 20000 in
set_option maxHeartbeats 2000000 in
theorem w_X11_isGood_55 {x : xC} (C : CtM x RX11 cX11_isGood 4 ({ frames := 1, cells := 0, slots := 0, locals := 22 } : Room)) (M : xM) (x1 : Int32) (x3 : Int32)  (o : (Int32 × Int32) ⊕ (Int32)) (h : b_X11_isGood_55 M x1 x3 = some o) (kh : ∀ s : Int32 × Int32, o = .inl s → J x M 17 [(0, .ref (x_ad x 0)), (1, .int x1), (2, .int s.1), (3, .int s.2)] []) (ke_0 : ∀ v : Int32, o = .inr v → J x M 63 [(2, .int v)] []) : J x M 55 [(0, .ref (x_ad x 0)), (1, .int x1), (3, .int x3)] [] := by
  unfold b_X11_isGood_55 at h
  refine r_iconst (v := 0) C.1 dX11_isGood_55 rfl ?_
  exact r_sub [0, 1, 2] rfl (w_X11_isGood_56 C M x1 x3 (0 : Int32) _ h kh ke_0)

def bl_X11_isGood_17 (M : xM) (x1 : Int32) (x2 : Int32) (x3 : Int32) : Option ((Int32 × Int32) ⊕ (Int32)) :=
  if x1 ≤ x3 then some (.inr x2) else if x2 = 0 then b_X11_isGood_55 M x1 x3 else bd (f_X11_entryOf M x3 (0 : Int32)) (fun r_3 => if r_3 = (1 : Int32) then bd (f_X11_entryOf M x3 (5 : Int32)) (fun r_6 => bd (f_X11_entryOf M x1 (5 : Int32)) (fun r_8 => if r_6 = r_8 then b_X11_isGood_55 M x1 x3 else b_X11_isGood_51 M x1 x3)) else b_X11_isGood_51 M x1 x3)
set_option maxRecDepth 20000 in
set_option maxHeartbeats 2000000 in
theorem wl_X11_isGood_17 {x : xC} (C : CtM x RX11 cX11_isGood 4 ({ frames := 1, cells := 0, slots := 0, locals := 22 } : Room)) (M : xM) (x1 : Int32) (x2 : Int32) (x3 : Int32)  (o : (Int32 × Int32) ⊕ (Int32)) (h : bl_X11_isGood_17 M x1 x2 x3 = some o) (kh : ∀ s : Int32 × Int32, o = .inl s → J x M 17 [(0, .ref (x_ad x 0)), (1, .int x1), (2, .int s.1), (3, .int s.2)] []) (ke_0 : ∀ v : Int32, o = .inr v → J x M 63 [(2, .int v)] []) : J x M 17 [(0, .ref (x_ad x 0)), (1, .int x1), (2, .int x2), (3, .int x3)] [] := by
  unfold bl_X11_isGood_17 at h
  refine r_iload_n C.1 3 dX11_isGood_17 rfl rfl ?_
  refine r_iload_n C.1 1 dX11_isGood_18 rfl rfl ?_
  refine r_icmp_ge C.1 63 dX11_isGood_19 (by decide) (fun c_1 => ?_) (fun c_1 => ?_)
  · replace h := ite_T c_1 h
    exact r_sub [2] rfl (ke_0 _ (Option.some.inj h).symm)
  · replace h := ite_F c_1 h
    refine r_iload_n C.1 2 dX11_isGood_22 rfl rfl ?_
    refine r_if_eq C.1 55 dX11_isGood_23 (by decide) (fun c_2 => ?_) (fun c_2 => ?_)
    · replace h := ite_T c_2 h
      exact r_sub [0, 1, 3] rfl (w_X11_isGood_55 C M x1 x3 _ h kh ke_0)
    · replace h := ite_F c_2 h
      refine r_aload_n C.1 0 dX11_isGood_26 rfl rfl ?_
      refine r_iload_n C.1 3 dX11_isGood_27 rfl rfl ?_
      refine r_iconst (v := 0) C.1 dX11_isGood_28 rfl ?_
      obtain ⟨r_3, hc_4, h⟩ := bd_E h
      refine cl_X11_173 C ⟨Nat.le_of_ble_eq_true rfl, Nat.le_of_ble_eq_true rfl⟩ (m_X11_entryOf _ _ _ M x3 (0 : Int32) hc_4) (Nat.le_of_ble_eq_true rfl) dX11_isGood_29 ?_
      refine r_iconst (v := 1) C.1 dX11_isGood_32 rfl ?_
      refine r_icmp_ne C.1 51 dX11_isGood_33 (by decide) (fun c_5 => ?_) (fun c_5 => ?_)
      · replace h := ite_F c_5 h
        exact r_sub [0, 1, 3] rfl (w_X11_isGood_51 C M x1 x3 _ h kh ke_0)
      · replace h := ite_T c_5 h
        refine r_aload_n C.1 0 dX11_isGood_36 rfl rfl ?_
        refine r_iload_n C.1 3 dX11_isGood_37 rfl rfl ?_
        refine r_iconst (v := 5) C.1 dX11_isGood_38 rfl ?_
        obtain ⟨r_6, hc_7, h⟩ := bd_E h
        refine cl_X11_173 C ⟨Nat.le_of_ble_eq_true rfl, Nat.le_of_ble_eq_true rfl⟩ (m_X11_entryOf _ _ _ M x3 (5 : Int32) hc_7) (Nat.le_of_ble_eq_true rfl) dX11_isGood_39 ?_
        refine r_aload_n C.1 0 dX11_isGood_42 rfl rfl ?_
        refine r_iload_n C.1 1 dX11_isGood_43 rfl rfl ?_
        refine r_iconst (v := 5) C.1 dX11_isGood_44 rfl ?_
        obtain ⟨r_8, hc_9, h⟩ := bd_E h
        refine cl_X11_173 C ⟨Nat.le_of_ble_eq_true rfl, Nat.le_of_ble_eq_true rfl⟩ (m_X11_entryOf _ _ _ M x1 (5 : Int32) hc_9) (Nat.le_of_ble_eq_true rfl) dX11_isGood_45 ?_
        refine r_icmp_eq C.1 55 dX11_isGood_48 (by decide) (fun c_10 => ?_) (fun c_10 => ?_)
        · replace h := ite_T c_10 h
          exact r_sub [0, 1, 3] rfl (w_X11_isGood_55 C M x1 x3 _ h kh ke_0)
        · replace h := ite_F c_10 h
          exact r_sub [0, 1, 3] rfl (w_X11_isGood_51 C M x1 x3 _ h kh ke_0)

def b_X11_isGood_17 (M : xM) (x1 : Int32) (x2 : Int32) (x3 : Int32) : Option (Int32) :=
  bd (loopN (fun s : Int32 × Int32 => bl_X11_isGood_17 M x1 s.1 s.2) BG (x2, x3)) (fun v => gz v (some v))
set_option maxRecDepth 20000 in
set_option maxHeartbeats 2000000 in
theorem w_X11_isGood_17 {x : xC} (C : CtM x RX11 cX11_isGood 4 ({ frames := 1, cells := 0, slots := 0, locals := 22 } : Room)) (M : xM) (x1 : Int32) (x2 : Int32) (x3 : Int32)  (o : Int32) (h : b_X11_isGood_17 M x1 x2 x3 = some o) (hr : (x_me x).sig.returnType = some .boolean) (ev : x_rv x = some (.int o)) (eM : x_M x = M) : J x M 17 [(0, .ref (x_ad x 0)), (1, .int x1), (2, .int x2), (3, .int x3)] [] := by
  unfold b_X11_isGood_17 at h
  obtain ⟨r_0, hr_0, h⟩ := bd_E h
  refine loopN_ind (JJ := fun s => J x M 17 [(0, .ref (x_ad x 0)), (1, .int x1), (2, .int s.1), (3, .int s.2)] []) (KX := fun q => q = r_0) ?_ BG (x2, x3) r_0 hr_0 rfl
  intro s o1 hb kk1 kk2
  refine wl_X11_isGood_17 C M x1 s.1 s.2 _ hb kk1 ?_
  · intro v e0
    have e1 := kk2 _ e0
    subst e1
    refine r_iload_n C.1 0 dX11_isGood_63 rfl rfl ?_
    obtain ⟨z_1, h⟩ := gz_E h
    obtain rfl := Option.some.inj h
    exact r_zret C.1 hr (nz_n z_1) ev eM dX11_isGood_64

def b_X11_isGood_14 (M : xM) (x1 : Int32) (s0 : Int32) : Option (Int32) :=
  b_X11_isGood_17 M x1 s0 (0 : Int32)
set_option maxRecDepth 20000 in
set_option maxHeartbeats 2000000 in
theorem w_X11_isGood_14 {x : xC} (C : CtM x RX11 cX11_isGood 4 ({ frames := 1, cells := 0, slots := 0, locals := 22 } : Room)) (M : xM) (x1 : Int32) (s0 : Int32)  (o : Int32) (h : b_X11_isGood_14 M x1 s0 = some o) (hr : (x_me x).sig.returnType = some .boolean) (ev : x_rv x = some (.int o)) (eM : x_M x = M) : J x M 14 [(0, .ref (x_ad x 0)), (1, .int x1)] [.int s0] := by
  unfold b_X11_isGood_14 at h
  refine r_istore_n C.1 [(2, .int s0), (0, .ref (x_ad x 0)), (1, .int x1)] dX11_isGood_14 rfl (by decide) rfl rfl ?_
  refine r_iconst (v := 0) C.1 dX11_isGood_15 rfl ?_
  refine r_istore_n C.1 [(3, .int (0 : Int32)), (2, .int s0), (0, .ref (x_ad x 0)), (1, .int x1)] dX11_isGood_16 rfl (by decide) rfl rfl ?_
  exact r_sub [2, 3, 1, 0] rfl (w_X11_isGood_17 C M x1 s0 (0 : Int32) _ h hr ev eM)

def b_X11_isGood_0 (M : xM) (x1 : Int32) : Option (Int32) :=
  bd (f_X11_entryOf M x1 (5 : Int32)) (fun r_1 => if r_1 = 0 then b_X11_isGood_14 M x1 (0 : Int32) else b_X11_isGood_14 M x1 (1 : Int32))
set_option maxRecDepth 20000 in
set_option maxHeartbeats 2000000 in
theorem w_X11_isGood_0 {x : xC} (C : CtM x RX11 cX11_isGood 4 ({ frames := 1, cells := 0, slots := 0, locals := 22 } : Room)) (M : xM) (x1 : Int32)  (o : Int32) (h : b_X11_isGood_0 M x1 = some o) (hr : (x_me x).sig.returnType = some .boolean) (ev : x_rv x = some (.int o)) (eM : x_M x = M) : J x M 0 [(0, .ref (x_ad x 0)), (1, .int x1)] [] := by
  unfold b_X11_isGood_0 at h
  refine r_aload_n C.1 0 dX11_isGood_0 rfl rfl ?_
  refine r_iload_n C.1 1 dX11_isGood_1 rfl rfl ?_
  refine r_iconst (v := 5) C.1 dX11_isGood_2 rfl ?_
  obtain ⟨r_1, hc_2, h⟩ := bd_E h
  refine cl_X11_173 C ⟨Nat.le_of_ble_eq_true rfl, Nat.le_of_ble_eq_true rfl⟩ (m_X11_entryOf _ _ _ M x1 (5 : Int32) hc_2) (Nat.le_of_ble_eq_true rfl) dX11_isGood_3 ?_
  refine r_if_eq C.1 13 dX11_isGood_6 (by decide) (fun c_3 => ?_) (fun c_3 => ?_)
  · replace h := ite_T c_3 h
    refine r_iconst (v := 0) C.1 dX11_isGood_13 rfl ?_
    exact r_sub [0, 1] rfl (w_X11_isGood_14 C M x1 (0 : Int32) _ h hr ev eM)
  · replace h := ite_F c_3 h
    refine r_iconst (v := 1) C.1 dX11_isGood_9 rfl ?_
    refine r_goto C.1 14 dX11_isGood_10 (by decide) ?_
    exact r_sub [0, 1] rfl (w_X11_isGood_14 C M x1 (1 : Int32) _ h hr ev eM)
def f_X11_isGood (M : xM) (x1 : Int32) : Option (Int32) := b_X11_isGood_0 M x1
set_option maxRecDepth 20000 in
theorem m_X11_isGood (l : Launch) (D : va_G) (ad : Nat → Nat) (M : xM) (x1 : Int32)  {o : Int32} (h : f_X11_isGood M x1 = some o) : xMetM l yX11_isGood cX11_isGood 4 (some .boolean) ({ frames := 1, cells := 0, slots := 0, locals := 22 } : Room) [.ref (ad 0), .int x1] D ad M (some (.int o)) M := by
  refine xMetM_of (own := RX11) (by decide) rfl (Nat.le_of_ble_eq_true rfl) ?_
  intro x C e1 e2 e3 ev eM hr
  subst e1; subst e2; subst e3
  refine r_sub (L := [(0, .ref (x_ad x 0)), (1, .int x1)]) (L' := [(0, .ref (x_ad x 0)), (1, .int x1)]) [0, 1] rfl ?_
  exact w_X11_isGood_0 C M x1 _ h hr ev eM

def b_X11_isBacked_39 (M : xM) (s0 : Int32) : Option (Int32) :=
  gz s0 (some s0)
set_option maxRecDepth 20000 in
set_option maxHeartbeats 2000000 in
theorem w_X11_isBacked_39 {x : xC} (C : CtM x RX11 cX11_isBacked 2 ({ frames := 2, cells := 0, slots := 0, locals := 45 } : Room)) (M : xM) (s0 : Int32)  (o : Int32) (h : b_X11_isBacked_39 M s0 = some o) (hr : (x_me x).sig.returnType = some .boolean) (ev : x_rv x = some (.int o)) (eM : x_M x = M) : J x M 39 [] [.int s0] := by
  unfold b_X11_isBacked_39 at h
  obtain ⟨z_1, h⟩ := gz_E h
  obtain rfl := Option.some.inj h
  exact r_zret C.1 hr (nz_n z_1) ev eM dX11_isBacked_39

def b_X11_isBacked_34 (M : xM)  : Option (Int32) :=
  b_X11_isBacked_39 M (1 : Int32)
set_option maxRecDepth 20000 in
set_option maxHeartbeats 2000000 in
theorem w_X11_isBacked_34 {x : xC} (C : CtM x RX11 cX11_isBacked 2 ({ frames := 2, cells := 0, slots := 0, locals := 45 } : Room)) (M : xM)   (o : Int32) (h : b_X11_isBacked_34 M = some o) (hr : (x_me x).sig.returnType = some .boolean) (ev : x_rv x = some (.int o)) (eM : x_M x = M) : J x M 34 [] [] := by
  unfold b_X11_isBacked_34 at h
  refine r_iconst (v := 1) C.1 dX11_isBacked_34 rfl ?_
  refine r_goto C.1 39 dX11_isBacked_35 (by decide) ?_
  exact r_sub [] rfl (w_X11_isBacked_39 C M (1 : Int32) _ h hr ev eM)

def b_X11_isBacked_0 (M : xM) (x1 : Int32) : Option (Int32) :=
  bd (f_X11_entryOf M x1 (6 : Int32)) (fun r_1 => if r_1 = (1 : Int32) then b_X11_isBacked_34 M else bd (f_X11_isGood M x1) (fun r_4 => if r_4 = 0 then bd (f_X11_entryOf M x1 (3 : Int32)) (fun r_7 => gd (1 : Int32) 7 (if (M 3 (1 : Int32).toNatClampNeg) < r_7 then b_X11_isBacked_39 M (0 : Int32) else b_X11_isBacked_34 M)) else b_X11_isBacked_34 M))
set_option maxRecDepth 20000 in
set_option maxHeartbeats 2000000 in
theorem w_X11_isBacked_0 {x : xC} (C : CtM x RX11 cX11_isBacked 2 ({ frames := 2, cells := 0, slots := 0, locals := 45 } : Room)) (M : xM) (x1 : Int32)  (o : Int32) (h : b_X11_isBacked_0 M x1 = some o) (hr : (x_me x).sig.returnType = some .boolean) (ev : x_rv x = some (.int o)) (eM : x_M x = M) : J x M 0 [(0, .ref (x_ad x 0)), (1, .int x1)] [] := by
  unfold b_X11_isBacked_0 at h
  refine r_aload_n C.1 0 dX11_isBacked_0 rfl rfl ?_
  refine r_iload_n C.1 1 dX11_isBacked_1 rfl rfl ?_
  refine r_bipush (v := 6) C.1 dX11_isBacked_2 (by decide) ?_
  obtain ⟨r_1, hc_2, h⟩ := bd_E h
  refine cl_X11_173 C ⟨Nat.le_of_ble_eq_true rfl, Nat.le_of_ble_eq_true rfl⟩ (m_X11_entryOf _ _ _ M x1 (6 : Int32) hc_2) (Nat.le_of_ble_eq_true rfl) dX11_isBacked_4 ?_
  refine r_iconst (v := 1) C.1 dX11_isBacked_7 rfl ?_
  refine r_icmp_eq C.1 34 dX11_isBacked_8 (by decide) (fun c_3 => ?_) (fun c_3 => ?_)
  · replace h := ite_T c_3 h
    exact r_sub [] rfl (w_X11_isBacked_34 C M _ h hr ev eM)
  · replace h := ite_F c_3 h
    refine r_aload_n C.1 0 dX11_isBacked_11 rfl rfl ?_
    refine r_iload_n C.1 1 dX11_isBacked_12 rfl rfl ?_
    obtain ⟨r_4, hc_5, h⟩ := bd_E h
    refine cl_X11_179 C ⟨Nat.le_of_ble_eq_true rfl, Nat.le_of_ble_eq_true rfl⟩ (m_X11_isGood _ _ _ M x1 hc_5) (Nat.le_of_ble_eq_true rfl) dX11_isBacked_13 ?_
    refine r_if_ne C.1 34 dX11_isBacked_16 (by decide) (fun c_6 => ?_) (fun c_6 => ?_)
    · replace h := ite_F c_6 h
      exact r_sub [] rfl (w_X11_isBacked_34 C M _ h hr ev eM)
    · replace h := ite_T c_6 h
      refine r_aload_n C.1 0 dX11_isBacked_19 rfl rfl ?_
      refine r_iload_n C.1 1 dX11_isBacked_20 rfl rfl ?_
      refine r_iconst (v := 3) C.1 dX11_isBacked_21 rfl ?_
      obtain ⟨r_7, hc_8, h⟩ := bd_E h
      refine cl_X11_173 C ⟨Nat.le_of_ble_eq_true rfl, Nat.le_of_ble_eq_true rfl⟩ (m_X11_entryOf _ _ _ M x1 (3 : Int32) hc_8) (Nat.le_of_ble_eq_true rfl) dX11_isBacked_22 ?_
      refine r_aload_n C.1 0 dX11_isBacked_25 rfl rfl ?_
      refine gf_X11_16 C dX11_isBacked_26 ?_
      refine r_iconst (v := 1) C.1 dX11_isBacked_29 rfl ?_
      obtain ⟨q_9, h⟩ := gd_E h
      refine r_iald C.1 (mK C (by decide)) (mS C (shm_3)) 0 (mT0 C) q_9 dX11_isBacked_30 ?_
      refine r_icmp_gt C.1 38 dX11_isBacked_31 (by decide) (fun c_10 => ?_) (fun c_10 => ?_)
      · replace h := ite_T c_10 h
        refine r_iconst (v := 0) C.1 dX11_isBacked_38 rfl ?_
        exact r_sub [] rfl (w_X11_isBacked_39 C M (0 : Int32) _ h hr ev eM)
      · replace h := ite_F c_10 h
        exact r_sub [] rfl (w_X11_isBacked_34 C M _ h hr ev eM)
def f_X11_isBacked (M : xM) (x1 : Int32) : Option (Int32) := b_X11_isBacked_0 M x1
set_option maxRecDepth 20000 in
theorem m_X11_isBacked (l : Launch) (D : va_G) (ad : Nat → Nat) (M : xM) (x1 : Int32)  {o : Int32} (h : f_X11_isBacked M x1 = some o) : xMetM l yX11_isBacked cX11_isBacked 2 (some .boolean) ({ frames := 2, cells := 0, slots := 0, locals := 45 } : Room) [.ref (ad 0), .int x1] D ad M (some (.int o)) M := by
  refine xMetM_of (own := RX11) (by decide) rfl (Nat.le_of_ble_eq_true rfl) ?_
  intro x C e1 e2 e3 ev eM hr
  subst e1; subst e2; subst e3
  refine r_sub (L := [(0, .ref (x_ad x 0)), (1, .int x1)]) (L' := [(0, .ref (x_ad x 0)), (1, .int x1)]) [0, 1] rfl ?_
  exact w_X11_isBacked_0 C M x1 _ h hr ev eM

def b_X11_allowanceOf_117 (M : xM) (x1 : Int32) (x2 : Int32) (x3 : Int32) (x4 : Int32) (x5 : Int32) : Option ((Int32 × Int32) ⊕ (Int32)) :=
  lt (x5 + (1 : Int32)) (fun y_1 => some (.inl (x4, y_1)))
set_option maxRecDepth 20000 in
set_option maxHeartbeats 2000000 in
theorem w_X11_allowanceOf_117 {x : xC} (C : CtM x RX11 cX11_allowanceOf 8 ({ frames := 1, cells := 0, slots := 0, locals := 24 } : Room)) (M : xM) (x1 : Int32) (x2 : Int32) (x3 : Int32) (x4 : Int32) (x5 : Int32)  (o : (Int32 × Int32) ⊕ (Int32)) (h : b_X11_allowanceOf_117 M x1 x2 x3 x4 x5 = some o) (kh : ∀ s : Int32 × Int32, o = .inl s → J x M 6 [(0, .ref (x_ad x 0)), (1, .int x1), (2, .int x2), (3, .int x3), (4, .int s.1), (5, .int s.2)] []) (ke_0 : ∀ v : Int32, o = .inr v → J x M 123 [(4, .int v)] []) : J x M 117 [(0, .ref (x_ad x 0)), (1, .int x1), (2, .int x2), (3, .int x3), (4, .int x4), (5, .int x5)] [] := by
  unfold b_X11_allowanceOf_117 at h
  obtain ⟨y_1, ey_1, h⟩ := lt_E h
  refine r_iinc C.1 5 [(5, .int y_1), (0, .ref (x_ad x 0)), (1, .int x1), (2, .int x2), (3, .int x3), (4, .int x4)] dX11_allowanceOf_117 rfl ey_1 (by decide) rfl ?_
  refine r_goto C.1 6 dX11_allowanceOf_120 (by decide) ?_
  exact r_sub [1, 2, 3, 4, 5, 0] rfl (kh _ (Option.some.inj h).symm)

def b_X11_allowanceOf_114 (M : xM) (x1 : Int32) (x2 : Int32) (x3 : Int32) (x5 : Int32) (s0 : Int32) (s1 : Int32) : Option ((Int32 × Int32) ⊕ (Int32)) :=
  lt (s1 + s0) (fun y_1 => b_X11_allowanceOf_117 M x1 x2 x3 y_1 x5)
set_option maxRecDepth 20000 in
set_option maxHeartbeats 2000000 in
theorem w_X11_allowanceOf_114 {x : xC} (C : CtM x RX11 cX11_allowanceOf 8 ({ frames := 1, cells := 0, slots := 0, locals := 24 } : Room)) (M : xM) (x1 : Int32) (x2 : Int32) (x3 : Int32) (x5 : Int32) (s0 : Int32) (s1 : Int32)  (o : (Int32 × Int32) ⊕ (Int32)) (h : b_X11_allowanceOf_114 M x1 x2 x3 x5 s0 s1 = some o) (kh : ∀ s : Int32 × Int32, o = .inl s → J x M 6 [(0, .ref (x_ad x 0)), (1, .int x1), (2, .int x2), (3, .int x3), (4, .int s.1), (5, .int s.2)] []) (ke_0 : ∀ v : Int32, o = .inr v → J x M 123 [(4, .int v)] []) : J x M 114 [(0, .ref (x_ad x 0)), (1, .int x1), (2, .int x2), (3, .int x3), (5, .int x5)] [.int s0, .int s1] := by
  unfold b_X11_allowanceOf_114 at h
  refine r_iadd C.1 dX11_allowanceOf_114 ?_
  obtain ⟨y_1, ey_1, h⟩ := lt_E h
  refine r_istore C.1 [(4, .int y_1), (0, .ref (x_ad x 0)), (1, .int x1), (2, .int x2), (3, .int x3), (5, .int x5)] dX11_allowanceOf_115 (by decide) ey_1 rfl ?_
  exact r_sub [1, 2, 3, 4, 0, 5] rfl (w_X11_allowanceOf_117 C M x1 x2 x3 y_1 x5 _ h kh ke_0)

def bl_X11_allowanceOf_6 (M : xM) (x1 : Int32) (x2 : Int32) (x3 : Int32) (x4 : Int32) (x5 : Int32) : Option ((Int32 × Int32) ⊕ (Int32)) :=
  gd (3 : Int32) 495 (if (M 4 (3 : Int32).toNatClampNeg) ≤ x5 then some (.inr x4) else bd (f_X11_orderOf M x5 (0 : Int32)) (fun r_3 => if r_3 = x1 then bd (f_X11_orderOf M x5 (1 : Int32)) (fun r_6 => if r_6 = x2 then bd (f_X11_orderOf M x5 (2 : Int32)) (fun r_9 => lt (imax r_9 ((360 : Int32) * x3)) (fun y_11 => bd (f_X11_orderOf M x5 (3 : Int32)) (fun r_12 => lt (imin r_12 ((((360 : Int32) * x3) + (360 : Int32)) - (1 : Int32))) (fun y_14 => if y_14 < y_11 then b_X11_allowanceOf_114 M x1 x2 x3 x5 (0 : Int32) x4 else bd (f_X11_orderOf M x5 (4 : Int32)) (fun r_16 => b_X11_allowanceOf_114 M x1 x2 x3 x5 (((r_16.toInt64 * (((y_14 - y_11) + (1 : Int32)).toInt64)) / (360 : Int64)).toInt32) x4))))) else b_X11_allowanceOf_117 M x1 x2 x3 x4 x5) else b_X11_allowanceOf_117 M x1 x2 x3 x4 x5))
set_option maxRecDepth 20000 in
set_option maxHeartbeats 2000000 in
theorem wl_X11_allowanceOf_6 {x : xC} (C : CtM x RX11 cX11_allowanceOf 8 ({ frames := 1, cells := 0, slots := 0, locals := 24 } : Room)) (M : xM) (x1 : Int32) (x2 : Int32) (x3 : Int32) (x4 : Int32) (x5 : Int32)  (o : (Int32 × Int32) ⊕ (Int32)) (h : bl_X11_allowanceOf_6 M x1 x2 x3 x4 x5 = some o) (kh : ∀ s : Int32 × Int32, o = .inl s → J x M 6 [(0, .ref (x_ad x 0)), (1, .int x1), (2, .int x2), (3, .int x3), (4, .int s.1), (5, .int s.2)] []) (ke_0 : ∀ v : Int32, o = .inr v → J x M 123 [(4, .int v)] []) : J x M 6 [(0, .ref (x_ad x 0)), (1, .int x1), (2, .int x2), (3, .int x3), (4, .int x4), (5, .int x5)] [] := by
  unfold bl_X11_allowanceOf_6 at h
  refine r_iload C.1 5 dX11_allowanceOf_6 rfl ?_
  refine r_aload_n C.1 0 dX11_allowanceOf_8 rfl rfl ?_
  refine gf_X11_19 C dX11_allowanceOf_9 ?_
  refine r_iconst (v := 3) C.1 dX11_allowanceOf_12 rfl ?_
  obtain ⟨q_1, h⟩ := gd_E h
  refine r_iald C.1 (mK C (by decide)) (mS C (shm_4)) 0 (mT0 C) q_1 dX11_allowanceOf_13 ?_
  refine r_icmp_ge C.1 123 dX11_allowanceOf_14 (by decide) (fun c_2 => ?_) (fun c_2 => ?_)
  · replace h := ite_T c_2 h
    exact r_sub [4] rfl (ke_0 _ (Option.some.inj h).symm)
  · replace h := ite_F c_2 h
    refine r_aload_n C.1 0 dX11_allowanceOf_17 rfl rfl ?_
    refine r_iload C.1 5 dX11_allowanceOf_18 rfl ?_
    refine r_iconst (v := 0) C.1 dX11_allowanceOf_20 rfl ?_
    obtain ⟨r_3, hc_4, h⟩ := bd_E h
    refine cl_X11_182 C ⟨Nat.le_of_ble_eq_true rfl, Nat.le_of_ble_eq_true rfl⟩ (m_X11_orderOf _ _ _ M x5 (0 : Int32) hc_4) (Nat.le_of_ble_eq_true rfl) dX11_allowanceOf_21 ?_
    refine r_iload_n C.1 1 dX11_allowanceOf_24 rfl rfl ?_
    refine r_icmp_ne C.1 117 dX11_allowanceOf_25 (by decide) (fun c_5 => ?_) (fun c_5 => ?_)
    · replace h := ite_F c_5 h
      exact r_sub [0, 1, 2, 3, 4, 5] rfl (w_X11_allowanceOf_117 C M x1 x2 x3 x4 x5 _ h kh ke_0)
    · replace h := ite_T c_5 h
      refine r_aload_n C.1 0 dX11_allowanceOf_28 rfl rfl ?_
      refine r_iload C.1 5 dX11_allowanceOf_29 rfl ?_
      refine r_iconst (v := 1) C.1 dX11_allowanceOf_31 rfl ?_
      obtain ⟨r_6, hc_7, h⟩ := bd_E h
      refine cl_X11_182 C ⟨Nat.le_of_ble_eq_true rfl, Nat.le_of_ble_eq_true rfl⟩ (m_X11_orderOf _ _ _ M x5 (1 : Int32) hc_7) (Nat.le_of_ble_eq_true rfl) dX11_allowanceOf_32 ?_
      refine r_iload_n C.1 2 dX11_allowanceOf_35 rfl rfl ?_
      refine r_icmp_ne C.1 117 dX11_allowanceOf_36 (by decide) (fun c_8 => ?_) (fun c_8 => ?_)
      · replace h := ite_F c_8 h
        exact r_sub [0, 1, 2, 3, 4, 5] rfl (w_X11_allowanceOf_117 C M x1 x2 x3 x4 x5 _ h kh ke_0)
      · replace h := ite_T c_8 h
        refine r_aload_n C.1 0 dX11_allowanceOf_39 rfl rfl ?_
        refine r_iload C.1 5 dX11_allowanceOf_40 rfl ?_
        refine r_iconst (v := 2) C.1 dX11_allowanceOf_42 rfl ?_
        obtain ⟨r_9, hc_10, h⟩ := bd_E h
        refine cl_X11_182 C ⟨Nat.le_of_ble_eq_true rfl, Nat.le_of_ble_eq_true rfl⟩ (m_X11_orderOf _ _ _ M x5 (2 : Int32) hc_10) (Nat.le_of_ble_eq_true rfl) dX11_allowanceOf_43 ?_
        refine r_sipush (v := 360) C.1 dX11_allowanceOf_46 (by decide) ?_
        refine r_iload_n C.1 3 dX11_allowanceOf_49 rfl rfl ?_
        refine r_imul C.1 dX11_allowanceOf_50 ?_
        refine cm_X11_185 C.1 (by decide) (by decide) (Nat.le_of_ble_eq_true rfl) dX11_allowanceOf_51 ?_
        obtain ⟨y_11, ey_11, h⟩ := lt_E h
        refine r_istore C.1 [(6, .int y_11), (0, .ref (x_ad x 0)), (1, .int x1), (2, .int x2), (3, .int x3), (4, .int x4), (5, .int x5)] dX11_allowanceOf_54 (by decide) ey_11 rfl ?_
        refine r_aload_n C.1 1 dX11_allowanceOf_56 rfl rfl ?_
        refine r_iload C.1 6 dX11_allowanceOf_57 rfl ?_
        refine r_iconst (v := 3) C.1 dX11_allowanceOf_59 rfl ?_
        obtain ⟨r_12, hc_13, h⟩ := bd_E h
        refine cl_X11_182 C ⟨Nat.le_of_ble_eq_true rfl, Nat.le_of_ble_eq_true rfl⟩ (m_X11_orderOf _ _ _ M x5 (3 : Int32) hc_13) (Nat.le_of_ble_eq_true rfl) dX11_allowanceOf_60 ?_
        refine r_sipush (v := 360) C.1 dX11_allowanceOf_63 (by decide) ?_
        refine r_iload_n C.1 4 dX11_allowanceOf_66 rfl rfl ?_
        refine r_imul C.1 dX11_allowanceOf_67 ?_
        refine r_sipush (v := 360) C.1 dX11_allowanceOf_68 (by decide) ?_
        refine r_iadd C.1 dX11_allowanceOf_71 ?_
        refine r_iconst (v := 1) C.1 dX11_allowanceOf_72 rfl ?_
        refine r_isub C.1 dX11_allowanceOf_73 ?_
        refine cm_X11_95 C.1 (by decide) (by decide) (Nat.le_of_ble_eq_true rfl) dX11_allowanceOf_74 ?_
        obtain ⟨y_14, ey_14, h⟩ := lt_E h
        refine r_istore C.1 [(7, .int y_14), (6, .int y_11), (0, .ref (x_ad x 0)), (1, .int x1), (2, .int x2), (3, .int x3), (4, .int x4), (5, .int x5)] dX11_allowanceOf_77 (by decide) ey_14 rfl ?_
        refine r_iload C.1 6 dX11_allowanceOf_79 rfl ?_
        refine r_iload C.1 1 dX11_allowanceOf_81 rfl ?_
        refine r_iload C.1 0 dX11_allowanceOf_83 rfl ?_
        refine r_icmp_gt C.1 113 dX11_allowanceOf_85 (by decide) (fun c_15 => ?_) (fun c_15 => ?_)
        · replace h := ite_T c_15 h
          refine r_iconst (v := 0) C.1 dX11_allowanceOf_113 rfl ?_
          exact r_sub [2, 3, 4, 5, 7] rfl (w_X11_allowanceOf_114 C M x1 x2 x3 x5 (0 : Int32) x4 _ h kh ke_0)
        · replace h := ite_F c_15 h
          refine r_aload_n C.1 2 dX11_allowanceOf_88 rfl rfl ?_
          refine r_iload C.1 7 dX11_allowanceOf_89 rfl ?_
          refine r_iconst (v := 4) C.1 dX11_allowanceOf_91 rfl ?_
          obtain ⟨r_16, hc_17, h⟩ := bd_E h
          refine cl_X11_182 C ⟨Nat.le_of_ble_eq_true rfl, Nat.le_of_ble_eq_true rfl⟩ (m_X11_orderOf _ _ _ M x5 (4 : Int32) hc_17) (Nat.le_of_ble_eq_true rfl) dX11_allowanceOf_92 ?_
          refine r_i2l C.1 dX11_allowanceOf_95 ?_
          refine r_iload C.1 0 dX11_allowanceOf_96 rfl ?_
          refine r_iload C.1 1 dX11_allowanceOf_98 rfl ?_
          refine r_isub C.1 dX11_allowanceOf_100 ?_
          refine r_iconst (v := 1) C.1 dX11_allowanceOf_101 rfl ?_
          refine r_iadd C.1 dX11_allowanceOf_102 ?_
          refine r_i2l C.1 dX11_allowanceOf_103 ?_
          refine r_lmul C.1 dX11_allowanceOf_104 ?_
          refine r_ldc2 (v := 360) C.1 kw_1542 dX11_allowanceOf_105 ?_
          refine r_ldiv C.1 (by decide) dX11_allowanceOf_108 ?_
          refine r_l2i C.1 dX11_allowanceOf_109 ?_
          refine r_goto C.1 114 dX11_allowanceOf_110 (by decide) ?_
          exact r_sub [2, 3, 4, 5, 7] rfl (w_X11_allowanceOf_114 C M x1 x2 x3 x5 (((r_16.toInt64 * (((y_14 - y_11) + (1 : Int32)).toInt64)) / (360 : Int64)).toInt32) x4 _ h kh ke_0)

def b_X11_allowanceOf_6 (M : xM) (x1 : Int32) (x2 : Int32) (x3 : Int32) (x4 : Int32) (x5 : Int32) : Option (Int32) :=
  bd (loopN (fun s : Int32 × Int32 => bl_X11_allowanceOf_6 M x1 x2 x3 s.1 s.2) BG (x4, x5)) (fun v => some v)
set_option maxRecDepth 20000 in
set_option maxHeartbeats 2000000 in
theorem w_X11_allowanceOf_6 {x : xC} (C : CtM x RX11 cX11_allowanceOf 8 ({ frames := 1, cells := 0, slots := 0, locals := 24 } : Room)) (M : xM) (x1 : Int32) (x2 : Int32) (x3 : Int32) (x4 : Int32) (x5 : Int32)  (o : Int32) (h : b_X11_allowanceOf_6 M x1 x2 x3 x4 x5 = some o) (hr : (x_me x).sig.returnType = some .int) (ev : x_rv x = some (.int o)) (eM : x_M x = M) : J x M 6 [(0, .ref (x_ad x 0)), (1, .int x1), (2, .int x2), (3, .int x3), (4, .int x4), (5, .int x5)] [] := by
  unfold b_X11_allowanceOf_6 at h
  obtain ⟨r_0, hr_0, h⟩ := bd_E h
  refine loopN_ind (JJ := fun s => J x M 6 [(0, .ref (x_ad x 0)), (1, .int x1), (2, .int x2), (3, .int x3), (4, .int s.1), (5, .int s.2)] []) (KX := fun q => q = r_0) ?_ BG (x4, x5) r_0 hr_0 rfl
  intro s o1 hb kk1 kk2
  refine wl_X11_allowanceOf_6 C M x1 x2 x3 s.1 s.2 _ hb kk1 ?_
  · intro v e0
    have e1 := kk2 _ e0
    subst e1
    refine r_iload C.1 0 dX11_allowanceOf_123 rfl ?_
    obtain rfl := Option.some.inj h
    exact r_iret C.1 hr ev eM dX11_allowanceOf_125

def b_X11_allowanceOf_0 (M : xM) (x1 : Int32) (x2 : Int32) (x3 : Int32) : Option (Int32) :=
  b_X11_allowanceOf_6 M x1 x2 x3 (0 : Int32) (0 : Int32)
set_option maxRecDepth 20000 in
set_option maxHeartbeats 2000000 in
theorem w_X11_allowanceOf_0 {x : xC} (C : CtM x RX11 cX11_allowanceOf 8 ({ frames := 1, cells := 0, slots := 0, locals := 24 } : Room)) (M : xM) (x1 : Int32) (x2 : Int32) (x3 : Int32)  (o : Int32) (h : b_X11_allowanceOf_0 M x1 x2 x3 = some o) (hr : (x_me x).sig.returnType = some .int) (ev : x_rv x = some (.int o)) (eM : x_M x = M) : J x M 0 [(0, .ref (x_ad x 0)), (1, .int x1), (2, .int x2), (3, .int x3)] [] := by
  unfold b_X11_allowanceOf_0 at h
  refine r_iconst (v := 0) C.1 dX11_allowanceOf_0 rfl ?_
  refine r_istore C.1 [(4, .int (0 : Int32)), (0, .ref (x_ad x 0)), (1, .int x1), (2, .int x2), (3, .int x3)] dX11_allowanceOf_1 (by decide) rfl rfl ?_
  refine r_iconst (v := 0) C.1 dX11_allowanceOf_3 rfl ?_
  refine r_istore C.1 [(5, .int (0 : Int32)), (4, .int (0 : Int32)), (0, .ref (x_ad x 0)), (1, .int x1), (2, .int x2), (3, .int x3)] dX11_allowanceOf_4 (by decide) rfl rfl ?_
  exact r_sub [2, 3, 4, 5, 1, 0] rfl (w_X11_allowanceOf_6 C M x1 x2 x3 (0 : Int32) (0 : Int32) _ h hr ev eM)
def f_X11_allowanceOf (M : xM) (x1 : Int32) (x2 : Int32) (x3 : Int32) : Option (Int32) := b_X11_allowanceOf_0 M x1 x2 x3
set_option maxRecDepth 20000 in
theorem m_X11_allowanceOf (l : Launch) (D : va_G) (ad : Nat → Nat) (M : xM) (x1 : Int32) (x2 : Int32) (x3 : Int32)  {o : Int32} (h : f_X11_allowanceOf M x1 x2 x3 = some o) : xMetM l yX11_allowanceOf cX11_allowanceOf 8 (some .int) ({ frames := 1, cells := 0, slots := 0, locals := 24 } : Room) [.ref (ad 0), .int x1, .int x2, .int x3] D ad M (some (.int o)) M := by
  refine xMetM_of (own := RX11) (by decide) rfl (Nat.le_of_ble_eq_true rfl) ?_
  intro x C e1 e2 e3 ev eM hr
  subst e1; subst e2; subst e3
  refine r_sub (L := [(0, .ref (x_ad x 0)), (1, .int x1), (2, .int x2), (3, .int x3)]) (L' := [(0, .ref (x_ad x 0)), (1, .int x1), (2, .int x2), (3, .int x3)]) [0, 1, 2, 3] rfl ?_
  exact w_X11_allowanceOf_0 C M x1 x2 x3 _ h hr ev eM

def b_X11_takes_43 (M : xM) (s0 : Int32) : Option (Int32) :=
  gz s0 (some s0)
set_option maxRecDepth 20000 in
set_option maxHeartbeats 2000000 in
theorem w_X11_takes_43 {x : xC} (C : CtM x RX11 cX11_takes 2 ({ frames := 3, cells := 0, slots := 0, locals := 66 } : Room)) (M : xM) (s0 : Int32)  (o : Int32) (h : b_X11_takes_43 M s0 = some o) (hr : (x_me x).sig.returnType = some .boolean) (ev : x_rv x = some (.int o)) (eM : x_M x = M) : J x M 43 [] [.int s0] := by
  unfold b_X11_takes_43 at h
  obtain ⟨z_1, h⟩ := gz_E h
  obtain rfl := Option.some.inj h
  exact r_zret C.1 hr (nz_n z_1) ev eM dX11_takes_43

def b_X11_takes_42 (M : xM)  : Option (Int32) :=
  b_X11_takes_43 M (0 : Int32)
set_option maxRecDepth 20000 in
set_option maxHeartbeats 2000000 in
theorem w_X11_takes_42 {x : xC} (C : CtM x RX11 cX11_takes 2 ({ frames := 3, cells := 0, slots := 0, locals := 66 } : Room)) (M : xM)   (o : Int32) (h : b_X11_takes_42 M = some o) (hr : (x_me x).sig.returnType = some .boolean) (ev : x_rv x = some (.int o)) (eM : x_M x = M) : J x M 42 [] [] := by
  unfold b_X11_takes_42 at h
  refine r_iconst (v := 0) C.1 dX11_takes_42 rfl ?_
  exact r_sub [] rfl (w_X11_takes_43 C M (0 : Int32) _ h hr ev eM)

def b_X11_takes_0 (M : xM) (x1 : Int32) : Option (Int32) :=
  bd (f_X11_entryOf M x1 (0 : Int32)) (fun r_1 => if r_1 = (1 : Int32) then bd (f_X11_entryOf M x1 (4 : Int32)) (fun r_4 => if (2 : Int32) ≤ r_4 then b_X11_takes_42 M else bd (f_X11_entryOf M x1 (6 : Int32)) (fun r_7 => if r_7 = 0 then bd (f_X11_isBacked M x1) (fun r_10 => if r_10 = 0 then b_X11_takes_42 M else b_X11_takes_43 M (1 : Int32)) else b_X11_takes_42 M)) else b_X11_takes_42 M)
set_option maxRecDepth 20000 in
set_option maxHeartbeats 2000000 in
theorem w_X11_takes_0 {x : xC} (C : CtM x RX11 cX11_takes 2 ({ frames := 3, cells := 0, slots := 0, locals := 66 } : Room)) (M : xM) (x1 : Int32)  (o : Int32) (h : b_X11_takes_0 M x1 = some o) (hr : (x_me x).sig.returnType = some .boolean) (ev : x_rv x = some (.int o)) (eM : x_M x = M) : J x M 0 [(0, .ref (x_ad x 0)), (1, .int x1)] [] := by
  unfold b_X11_takes_0 at h
  refine r_aload_n C.1 0 dX11_takes_0 rfl rfl ?_
  refine r_iload_n C.1 1 dX11_takes_1 rfl rfl ?_
  refine r_iconst (v := 0) C.1 dX11_takes_2 rfl ?_
  obtain ⟨r_1, hc_2, h⟩ := bd_E h
  refine cl_X11_173 C ⟨Nat.le_of_ble_eq_true rfl, Nat.le_of_ble_eq_true rfl⟩ (m_X11_entryOf _ _ _ M x1 (0 : Int32) hc_2) (Nat.le_of_ble_eq_true rfl) dX11_takes_3 ?_
  refine r_iconst (v := 1) C.1 dX11_takes_6 rfl ?_
  refine r_icmp_ne C.1 42 dX11_takes_7 (by decide) (fun c_3 => ?_) (fun c_3 => ?_)
  · replace h := ite_F c_3 h
    exact r_sub [] rfl (w_X11_takes_42 C M _ h hr ev eM)
  · replace h := ite_T c_3 h
    refine r_aload_n C.1 0 dX11_takes_10 rfl rfl ?_
    refine r_iload_n C.1 1 dX11_takes_11 rfl rfl ?_
    refine r_iconst (v := 4) C.1 dX11_takes_12 rfl ?_
    obtain ⟨r_4, hc_5, h⟩ := bd_E h
    refine cl_X11_173 C ⟨Nat.le_of_ble_eq_true rfl, Nat.le_of_ble_eq_true rfl⟩ (m_X11_entryOf _ _ _ M x1 (4 : Int32) hc_5) (Nat.le_of_ble_eq_true rfl) dX11_takes_13 ?_
    refine r_iconst (v := 2) C.1 dX11_takes_16 rfl ?_
    refine r_icmp_ge C.1 42 dX11_takes_17 (by decide) (fun c_6 => ?_) (fun c_6 => ?_)
    · replace h := ite_T c_6 h
      exact r_sub [] rfl (w_X11_takes_42 C M _ h hr ev eM)
    · replace h := ite_F c_6 h
      refine r_aload_n C.1 0 dX11_takes_20 rfl rfl ?_
      refine r_iload_n C.1 1 dX11_takes_21 rfl rfl ?_
      refine r_bipush (v := 6) C.1 dX11_takes_22 (by decide) ?_
      obtain ⟨r_7, hc_8, h⟩ := bd_E h
      refine cl_X11_173 C ⟨Nat.le_of_ble_eq_true rfl, Nat.le_of_ble_eq_true rfl⟩ (m_X11_entryOf _ _ _ M x1 (6 : Int32) hc_8) (Nat.le_of_ble_eq_true rfl) dX11_takes_24 ?_
      refine r_if_ne C.1 42 dX11_takes_27 (by decide) (fun c_9 => ?_) (fun c_9 => ?_)
      · replace h := ite_F c_9 h
        exact r_sub [] rfl (w_X11_takes_42 C M _ h hr ev eM)
      · replace h := ite_T c_9 h
        refine r_aload_n C.1 0 dX11_takes_30 rfl rfl ?_
        refine r_iload_n C.1 1 dX11_takes_31 rfl rfl ?_
        obtain ⟨r_10, hc_11, h⟩ := bd_E h
        refine cl_X11_190 C ⟨Nat.le_of_ble_eq_true rfl, Nat.le_of_ble_eq_true rfl⟩ (m_X11_isBacked _ _ _ M x1 hc_11) (Nat.le_of_ble_eq_true rfl) dX11_takes_32 ?_
        refine r_if_eq C.1 42 dX11_takes_35 (by decide) (fun c_12 => ?_) (fun c_12 => ?_)
        · replace h := ite_T c_12 h
          exact r_sub [] rfl (w_X11_takes_42 C M _ h hr ev eM)
        · replace h := ite_F c_12 h
          refine r_iconst (v := 1) C.1 dX11_takes_38 rfl ?_
          refine r_goto C.1 43 dX11_takes_39 (by decide) ?_
          exact r_sub [] rfl (w_X11_takes_43 C M (1 : Int32) _ h hr ev eM)
def f_X11_takes (M : xM) (x1 : Int32) : Option (Int32) := b_X11_takes_0 M x1
set_option maxRecDepth 20000 in
theorem m_X11_takes (l : Launch) (D : va_G) (ad : Nat → Nat) (M : xM) (x1 : Int32)  {o : Int32} (h : f_X11_takes M x1 = some o) : xMetM l yX11_takes cX11_takes 2 (some .boolean) ({ frames := 3, cells := 0, slots := 0, locals := 66 } : Room) [.ref (ad 0), .int x1] D ad M (some (.int o)) M := by
  refine xMetM_of (own := RX11) (by decide) rfl (Nat.le_of_ble_eq_true rfl) ?_
  intro x C e1 e2 e3 ev eM hr
  subst e1; subst e2; subst e3
  refine r_sub (L := [(0, .ref (x_ad x 0)), (1, .int x1)]) (L' := [(0, .ref (x_ad x 0)), (1, .int x1)]) [0, 1] rfl ?_
  exact w_X11_takes_0 C M x1 _ h hr ev eM

def b_X11_isAhead_40 (M : xM) (s0 : Int32) : Option (Int32) :=
  gz s0 (some s0)
set_option maxRecDepth 20000 in
set_option maxHeartbeats 2000000 in
theorem w_X11_isAhead_40 {x : xC} (C : CtM x RX11 cX11_isAhead 3 ({ frames := 1, cells := 0, slots := 0, locals := 22 } : Room)) (M : xM) (s0 : Int32)  (o : Int32) (h : b_X11_isAhead_40 M s0 = some o) (hr : (x_me x).sig.returnType = some .boolean) (ev : x_rv x = some (.int o)) (eM : x_M x = M) : J x M 40 [] [.int s0] := by
  unfold b_X11_isAhead_40 at h
  obtain ⟨z_1, h⟩ := gz_E h
  obtain rfl := Option.some.inj h
  exact r_zret C.1 hr (nz_n z_1) ev eM dX11_isAhead_40

def b_X11_isAhead_35 (M : xM)  : Option (Int32) :=
  b_X11_isAhead_40 M (1 : Int32)
set_option maxRecDepth 20000 in
set_option maxHeartbeats 2000000 in
theorem w_X11_isAhead_35 {x : xC} (C : CtM x RX11 cX11_isAhead 3 ({ frames := 1, cells := 0, slots := 0, locals := 22 } : Room)) (M : xM)   (o : Int32) (h : b_X11_isAhead_35 M = some o) (hr : (x_me x).sig.returnType = some .boolean) (ev : x_rv x = some (.int o)) (eM : x_M x = M) : J x M 35 [] [] := by
  unfold b_X11_isAhead_35 at h
  refine r_iconst (v := 1) C.1 dX11_isAhead_35 rfl ?_
  refine r_goto C.1 40 dX11_isAhead_36 (by decide) ?_
  exact r_sub [] rfl (w_X11_isAhead_40 C M (1 : Int32) _ h hr ev eM)

def b_X11_isAhead_39 (M : xM)  : Option (Int32) :=
  b_X11_isAhead_40 M (0 : Int32)
set_option maxRecDepth 20000 in
set_option maxHeartbeats 2000000 in
theorem w_X11_isAhead_39 {x : xC} (C : CtM x RX11 cX11_isAhead 3 ({ frames := 1, cells := 0, slots := 0, locals := 22 } : Room)) (M : xM)   (o : Int32) (h : b_X11_isAhead_39 M = some o) (hr : (x_me x).sig.returnType = some .boolean) (ev : x_rv x = some (.int o)) (eM : x_M x = M) : J x M 39 [] [] := by
  unfold b_X11_isAhead_39 at h
  refine r_iconst (v := 0) C.1 dX11_isAhead_39 rfl ?_
  exact r_sub [] rfl (w_X11_isAhead_40 C M (0 : Int32) _ h hr ev eM)

def b_X11_isAhead_0 (M : xM) (x1 : Int32) (x2 : Int32) : Option (Int32) :=
  bd (f_X11_entryOf M x1 (2 : Int32)) (fun r_1 => bd (f_X11_entryOf M x2 (2 : Int32)) (fun r_3 => if r_1 < r_3 then b_X11_isAhead_35 M else bd (f_X11_entryOf M x1 (2 : Int32)) (fun r_6 => bd (f_X11_entryOf M x2 (2 : Int32)) (fun r_8 => if r_6 = r_8 then if x2 ≤ x1 then b_X11_isAhead_39 M else b_X11_isAhead_35 M else b_X11_isAhead_39 M))))
set_option maxRecDepth 20000 in
set_option maxHeartbeats 2000000 in
theorem w_X11_isAhead_0 {x : xC} (C : CtM x RX11 cX11_isAhead 3 ({ frames := 1, cells := 0, slots := 0, locals := 22 } : Room)) (M : xM) (x1 : Int32) (x2 : Int32)  (o : Int32) (h : b_X11_isAhead_0 M x1 x2 = some o) (hr : (x_me x).sig.returnType = some .boolean) (ev : x_rv x = some (.int o)) (eM : x_M x = M) : J x M 0 [(0, .ref (x_ad x 0)), (1, .int x1), (2, .int x2)] [] := by
  unfold b_X11_isAhead_0 at h
  refine r_aload_n C.1 0 dX11_isAhead_0 rfl rfl ?_
  refine r_iload_n C.1 1 dX11_isAhead_1 rfl rfl ?_
  refine r_iconst (v := 2) C.1 dX11_isAhead_2 rfl ?_
  obtain ⟨r_1, hc_2, h⟩ := bd_E h
  refine cl_X11_173 C ⟨Nat.le_of_ble_eq_true rfl, Nat.le_of_ble_eq_true rfl⟩ (m_X11_entryOf _ _ _ M x1 (2 : Int32) hc_2) (Nat.le_of_ble_eq_true rfl) dX11_isAhead_3 ?_
  refine r_aload_n C.1 0 dX11_isAhead_6 rfl rfl ?_
  refine r_iload_n C.1 2 dX11_isAhead_7 rfl rfl ?_
  refine r_iconst (v := 2) C.1 dX11_isAhead_8 rfl ?_
  obtain ⟨r_3, hc_4, h⟩ := bd_E h
  refine cl_X11_173 C ⟨Nat.le_of_ble_eq_true rfl, Nat.le_of_ble_eq_true rfl⟩ (m_X11_entryOf _ _ _ M x2 (2 : Int32) hc_4) (Nat.le_of_ble_eq_true rfl) dX11_isAhead_9 ?_
  refine r_icmp_lt C.1 35 dX11_isAhead_12 (by decide) (fun c_5 => ?_) (fun c_5 => ?_)
  · replace h := ite_T c_5 h
    exact r_sub [] rfl (w_X11_isAhead_35 C M _ h hr ev eM)
  · replace h := ite_F c_5 h
    refine r_aload_n C.1 0 dX11_isAhead_15 rfl rfl ?_
    refine r_iload_n C.1 1 dX11_isAhead_16 rfl rfl ?_
    refine r_iconst (v := 2) C.1 dX11_isAhead_17 rfl ?_
    obtain ⟨r_6, hc_7, h⟩ := bd_E h
    refine cl_X11_173 C ⟨Nat.le_of_ble_eq_true rfl, Nat.le_of_ble_eq_true rfl⟩ (m_X11_entryOf _ _ _ M x1 (2 : Int32) hc_7) (Nat.le_of_ble_eq_true rfl) dX11_isAhead_18 ?_
    refine r_aload_n C.1 0 dX11_isAhead_21 rfl rfl ?_
    refine r_iload_n C.1 2 dX11_isAhead_22 rfl rfl ?_
    refine r_iconst (v := 2) C.1 dX11_isAhead_23 rfl ?_
    obtain ⟨r_8, hc_9, h⟩ := bd_E h
    refine cl_X11_173 C ⟨Nat.le_of_ble_eq_true rfl, Nat.le_of_ble_eq_true rfl⟩ (m_X11_entryOf _ _ _ M x2 (2 : Int32) hc_9) (Nat.le_of_ble_eq_true rfl) dX11_isAhead_24 ?_
    refine r_icmp_ne C.1 39 dX11_isAhead_27 (by decide) (fun c_10 => ?_) (fun c_10 => ?_)
    · replace h := ite_F c_10 h
      exact r_sub [] rfl (w_X11_isAhead_39 C M _ h hr ev eM)
    · replace h := ite_T c_10 h
      refine r_iload_n C.1 1 dX11_isAhead_30 rfl rfl ?_
      refine r_iload_n C.1 2 dX11_isAhead_31 rfl rfl ?_
      refine r_icmp_ge C.1 39 dX11_isAhead_32 (by decide) (fun c_11 => ?_) (fun c_11 => ?_)
      · replace h := ite_T c_11 h
        exact r_sub [] rfl (w_X11_isAhead_39 C M _ h hr ev eM)
      · replace h := ite_F c_11 h
        exact r_sub [] rfl (w_X11_isAhead_35 C M _ h hr ev eM)
def f_X11_isAhead (M : xM) (x1 : Int32) (x2 : Int32) : Option (Int32) := b_X11_isAhead_0 M x1 x2
set_option maxRecDepth 20000 in
theorem m_X11_isAhead (l : Launch) (D : va_G) (ad : Nat → Nat) (M : xM) (x1 : Int32) (x2 : Int32)  {o : Int32} (h : f_X11_isAhead M x1 x2 = some o) : xMetM l yX11_isAhead cX11_isAhead 3 (some .boolean) ({ frames := 1, cells := 0, slots := 0, locals := 22 } : Room) [.ref (ad 0), .int x1, .int x2] D ad M (some (.int o)) M := by
  refine xMetM_of (own := RX11) (by decide) rfl (Nat.le_of_ble_eq_true rfl) ?_
  intro x C e1 e2 e3 ev eM hr
  subst e1; subst e2; subst e3
  refine r_sub (L := [(0, .ref (x_ad x 0)), (1, .int x1), (2, .int x2)]) (L' := [(0, .ref (x_ad x 0)), (1, .int x1), (2, .int x2)]) [0, 1, 2] rfl ?_
  exact w_X11_isAhead_0 C M x1 x2 _ h hr ev eM

def b_X11_areAlike_58 (M : xM) (s0 : Int32) : Option (Int32) :=
  gz s0 (some s0)
set_option maxRecDepth 20000 in
set_option maxHeartbeats 2000000 in
theorem w_X11_areAlike_58 {x : xC} (C : CtM x RX11 cX11_areAlike 3 ({ frames := 1, cells := 0, slots := 0, locals := 22 } : Room)) (M : xM) (s0 : Int32)  (o : Int32) (h : b_X11_areAlike_58 M s0 = some o) (hr : (x_me x).sig.returnType = some .boolean) (ev : x_rv x = some (.int o)) (eM : x_M x = M) : J x M 58 [] [.int s0] := by
  unfold b_X11_areAlike_58 at h
  obtain ⟨z_1, h⟩ := gz_E h
  obtain rfl := Option.some.inj h
  exact r_zret C.1 hr (nz_n z_1) ev eM dX11_areAlike_58

def b_X11_areAlike_57 (M : xM)  : Option (Int32) :=
  b_X11_areAlike_58 M (0 : Int32)
set_option maxRecDepth 20000 in
set_option maxHeartbeats 2000000 in
theorem w_X11_areAlike_57 {x : xC} (C : CtM x RX11 cX11_areAlike 3 ({ frames := 1, cells := 0, slots := 0, locals := 22 } : Room)) (M : xM)   (o : Int32) (h : b_X11_areAlike_57 M = some o) (hr : (x_me x).sig.returnType = some .boolean) (ev : x_rv x = some (.int o)) (eM : x_M x = M) : J x M 57 [] [] := by
  unfold b_X11_areAlike_57 at h
  refine r_iconst (v := 0) C.1 dX11_areAlike_57 rfl ?_
  exact r_sub [] rfl (w_X11_areAlike_58 C M (0 : Int32) _ h hr ev eM)

def b_X11_areAlike_0 (M : xM) (x1 : Int32) (x2 : Int32) : Option (Int32) :=
  bd (f_X11_entryOf M x1 (1 : Int32)) (fun r_1 => bd (f_X11_entryOf M x2 (1 : Int32)) (fun r_3 => if r_1 = r_3 then bd (f_X11_entryOf M x1 (4 : Int32)) (fun r_6 => bd (f_X11_entryOf M x2 (4 : Int32)) (fun r_8 => if r_6 = r_8 then bd (f_X11_entryOf M x1 (2 : Int32)) (fun r_11 => bd (f_X11_entryOf M x2 (2 : Int32)) (fun r_13 => if (r_11 / (360 : Int32)) = (r_13 / (360 : Int32)) then b_X11_areAlike_58 M (1 : Int32) else b_X11_areAlike_57 M)) else b_X11_areAlike_57 M)) else b_X11_areAlike_57 M))
set_option maxRecDepth 20000 in
set_option maxHeartbeats 2000000 in
theorem w_X11_areAlike_0 {x : xC} (C : CtM x RX11 cX11_areAlike 3 ({ frames := 1, cells := 0, slots := 0, locals := 22 } : Room)) (M : xM) (x1 : Int32) (x2 : Int32)  (o : Int32) (h : b_X11_areAlike_0 M x1 x2 = some o) (hr : (x_me x).sig.returnType = some .boolean) (ev : x_rv x = some (.int o)) (eM : x_M x = M) : J x M 0 [(0, .ref (x_ad x 0)), (1, .int x1), (2, .int x2)] [] := by
  unfold b_X11_areAlike_0 at h
  refine r_aload_n C.1 0 dX11_areAlike_0 rfl rfl ?_
  refine r_iload_n C.1 1 dX11_areAlike_1 rfl rfl ?_
  refine r_iconst (v := 1) C.1 dX11_areAlike_2 rfl ?_
  obtain ⟨r_1, hc_2, h⟩ := bd_E h
  refine cl_X11_173 C ⟨Nat.le_of_ble_eq_true rfl, Nat.le_of_ble_eq_true rfl⟩ (m_X11_entryOf _ _ _ M x1 (1 : Int32) hc_2) (Nat.le_of_ble_eq_true rfl) dX11_areAlike_3 ?_
  refine r_aload_n C.1 0 dX11_areAlike_6 rfl rfl ?_
  refine r_iload_n C.1 2 dX11_areAlike_7 rfl rfl ?_
  refine r_iconst (v := 1) C.1 dX11_areAlike_8 rfl ?_
  obtain ⟨r_3, hc_4, h⟩ := bd_E h
  refine cl_X11_173 C ⟨Nat.le_of_ble_eq_true rfl, Nat.le_of_ble_eq_true rfl⟩ (m_X11_entryOf _ _ _ M x2 (1 : Int32) hc_4) (Nat.le_of_ble_eq_true rfl) dX11_areAlike_9 ?_
  refine r_icmp_ne C.1 57 dX11_areAlike_12 (by decide) (fun c_5 => ?_) (fun c_5 => ?_)
  · replace h := ite_F c_5 h
    exact r_sub [] rfl (w_X11_areAlike_57 C M _ h hr ev eM)
  · replace h := ite_T c_5 h
    refine r_aload_n C.1 0 dX11_areAlike_15 rfl rfl ?_
    refine r_iload_n C.1 1 dX11_areAlike_16 rfl rfl ?_
    refine r_iconst (v := 4) C.1 dX11_areAlike_17 rfl ?_
    obtain ⟨r_6, hc_7, h⟩ := bd_E h
    refine cl_X11_173 C ⟨Nat.le_of_ble_eq_true rfl, Nat.le_of_ble_eq_true rfl⟩ (m_X11_entryOf _ _ _ M x1 (4 : Int32) hc_7) (Nat.le_of_ble_eq_true rfl) dX11_areAlike_18 ?_
    refine r_aload_n C.1 0 dX11_areAlike_21 rfl rfl ?_
    refine r_iload_n C.1 2 dX11_areAlike_22 rfl rfl ?_
    refine r_iconst (v := 4) C.1 dX11_areAlike_23 rfl ?_
    obtain ⟨r_8, hc_9, h⟩ := bd_E h
    refine cl_X11_173 C ⟨Nat.le_of_ble_eq_true rfl, Nat.le_of_ble_eq_true rfl⟩ (m_X11_entryOf _ _ _ M x2 (4 : Int32) hc_9) (Nat.le_of_ble_eq_true rfl) dX11_areAlike_24 ?_
    refine r_icmp_ne C.1 57 dX11_areAlike_27 (by decide) (fun c_10 => ?_) (fun c_10 => ?_)
    · replace h := ite_F c_10 h
      exact r_sub [] rfl (w_X11_areAlike_57 C M _ h hr ev eM)
    · replace h := ite_T c_10 h
      refine r_aload_n C.1 0 dX11_areAlike_30 rfl rfl ?_
      refine r_iload_n C.1 1 dX11_areAlike_31 rfl rfl ?_
      refine r_iconst (v := 2) C.1 dX11_areAlike_32 rfl ?_
      obtain ⟨r_11, hc_12, h⟩ := bd_E h
      refine cl_X11_173 C ⟨Nat.le_of_ble_eq_true rfl, Nat.le_of_ble_eq_true rfl⟩ (m_X11_entryOf _ _ _ M x1 (2 : Int32) hc_12) (Nat.le_of_ble_eq_true rfl) dX11_areAlike_33 ?_
      refine r_sipush (v := 360) C.1 dX11_areAlike_36 (by decide) ?_
      refine r_idiv C.1 (by decide) dX11_areAlike_39 ?_
      refine r_aload_n C.1 0 dX11_areAlike_40 rfl rfl ?_
      refine r_iload_n C.1 2 dX11_areAlike_41 rfl rfl ?_
      refine r_iconst (v := 2) C.1 dX11_areAlike_42 rfl ?_
      obtain ⟨r_13, hc_14, h⟩ := bd_E h
      refine cl_X11_173 C ⟨Nat.le_of_ble_eq_true rfl, Nat.le_of_ble_eq_true rfl⟩ (m_X11_entryOf _ _ _ M x2 (2 : Int32) hc_14) (Nat.le_of_ble_eq_true rfl) dX11_areAlike_43 ?_
      refine r_sipush (v := 360) C.1 dX11_areAlike_46 (by decide) ?_
      refine r_idiv C.1 (by decide) dX11_areAlike_49 ?_
      refine r_icmp_ne C.1 57 dX11_areAlike_50 (by decide) (fun c_15 => ?_) (fun c_15 => ?_)
      · replace h := ite_F c_15 h
        exact r_sub [] rfl (w_X11_areAlike_57 C M _ h hr ev eM)
      · replace h := ite_T c_15 h
        refine r_iconst (v := 1) C.1 dX11_areAlike_53 rfl ?_
        refine r_goto C.1 58 dX11_areAlike_54 (by decide) ?_
        exact r_sub [] rfl (w_X11_areAlike_58 C M (1 : Int32) _ h hr ev eM)
def f_X11_areAlike (M : xM) (x1 : Int32) (x2 : Int32) : Option (Int32) := b_X11_areAlike_0 M x1 x2
set_option maxRecDepth 20000 in
theorem m_X11_areAlike (l : Launch) (D : va_G) (ad : Nat → Nat) (M : xM) (x1 : Int32) (x2 : Int32)  {o : Int32} (h : f_X11_areAlike M x1 x2 = some o) : xMetM l yX11_areAlike cX11_areAlike 3 (some .boolean) ({ frames := 1, cells := 0, slots := 0, locals := 22 } : Room) [.ref (ad 0), .int x1, .int x2] D ad M (some (.int o)) M := by
  refine xMetM_of (own := RX11) (by decide) rfl (Nat.le_of_ble_eq_true rfl) ?_
  intro x C e1 e2 e3 ev eM hr
  subst e1; subst e2; subst e3
  refine r_sub (L := [(0, .ref (x_ad x 0)), (1, .int x1), (2, .int x2)]) (L' := [(0, .ref (x_ad x 0)), (1, .int x1), (2, .int x2)]) [0, 1, 2] rfl ?_
  exact w_X11_areAlike_0 C M x1 x2 _ h hr ev eM

def b_X11_allowedOf_18 (M : xM)  : Option (Int32) :=
  some (0 : Int32)
set_option maxRecDepth 20000 in
set_option maxHeartbeats 2000000 in
theorem w_X11_allowedOf_18 {x : xC} (C : CtM x RX11 cX11_allowedOf 6 ({ frames := 4, cells := 0, slots := 0, locals := 87 } : Room)) (M : xM)   (o : Int32) (h : b_X11_allowedOf_18 M = some o) (hr : (x_me x).sig.returnType = some .int) (ev : x_rv x = some (.int o)) (eM : x_M x = M) : J x M 18 [] [] := by
  unfold b_X11_allowedOf_18 at h
  refine r_iconst (v := 0) C.1 dX11_allowedOf_18 rfl ?_
  obtain rfl := Option.some.inj h
  exact r_iret C.1 hr ev eM dX11_allowedOf_19

def b_X11_allowedOf_93 (M : xM) (x1 : Int32) (x4 : Int32) (s0 : Int64) (s1 : Int64) : Option ((Int64 × Int32) ⊕ (Int64)) :=
  lt (s1 + s0) (fun y_1 => lt (x4 + (1 : Int32)) (fun y_2 => some (.inl (y_1, y_2))))
set_option maxRecDepth 20000 in
set_option maxHeartbeats 2000000 in
theorem w_X11_allowedOf_93 {x : xC} (C : CtM x RX11 cX11_allowedOf 6 ({ frames := 4, cells := 0, slots := 0, locals := 87 } : Room)) (M : xM) (x1 : Int32) (x4 : Int32) (s0 : Int64) (s1 : Int64)  (o : (Int64 × Int32) ⊕ (Int64)) (h : b_X11_allowedOf_93 M x1 x4 s0 s1 = some o) (kh : ∀ s : Int64 × Int32, o = .inl s → J x M 40 [(0, .ref (x_ad x 0)), (1, .int x1), (2, .long s.1), (4, .int s.2)] []) (ke_0 : ∀ v : Int64, o = .inr v → J x M 101 [(0, .ref (x_ad x 0)), (1, .int x1), (2, .long v)] []) : J x M 93 [(0, .ref (x_ad x 0)), (1, .int x1), (4, .int x4)] [.long s0, .long s1] := by
  unfold b_X11_allowedOf_93 at h
  refine r_ladd C.1 dX11_allowedOf_93 ?_
  obtain ⟨y_1, ey_1, h⟩ := lt_E h
  refine r_lstore_n C.1 [(2, .long y_1), (0, .ref (x_ad x 0)), (1, .int x1), (4, .int x4)] dX11_allowedOf_94 rfl (by decide) ey_1 rfl ?_
  obtain ⟨y_2, ey_2, h⟩ := lt_E h
  refine r_iinc C.1 3 [(4, .int y_2), (2, .long y_1), (0, .ref (x_ad x 0)), (1, .int x1)] dX11_allowedOf_95 rfl ey_2 (by decide) rfl ?_
  refine r_goto C.1 40 dX11_allowedOf_98 (by decide) ?_
  exact r_sub [2, 3, 1, 0] rfl (kh _ (Option.some.inj h).symm)

def b_X11_allowedOf_92 (M : xM) (x1 : Int32) (x4 : Int32) (s0 : Int64) : Option ((Int64 × Int32) ⊕ (Int64)) :=
  b_X11_allowedOf_93 M x1 x4 (0 : Int64) s0
set_option maxRecDepth 20000 in
set_option maxHeartbeats 2000000 in
theorem w_X11_allowedOf_92 {x : xC} (C : CtM x RX11 cX11_allowedOf 6 ({ frames := 4, cells := 0, slots := 0, locals := 87 } : Room)) (M : xM) (x1 : Int32) (x4 : Int32) (s0 : Int64)  (o : (Int64 × Int32) ⊕ (Int64)) (h : b_X11_allowedOf_92 M x1 x4 s0 = some o) (kh : ∀ s : Int64 × Int32, o = .inl s → J x M 40 [(0, .ref (x_ad x 0)), (1, .int x1), (2, .long s.1), (4, .int s.2)] []) (ke_0 : ∀ v : Int64, o = .inr v → J x M 101 [(0, .ref (x_ad x 0)), (1, .int x1), (2, .long v)] []) : J x M 92 [(0, .ref (x_ad x 0)), (1, .int x1), (4, .int x4)] [.long s0] := by
  unfold b_X11_allowedOf_92 at h
  refine r_lconst (v := 0) C.1 dX11_allowedOf_92 rfl ?_
  exact r_sub [0, 1, 2] rfl (w_X11_allowedOf_93 C M x1 x4 (0 : Int64) s0 _ h kh ke_0)

def bl_X11_allowedOf_40 (M : xM) (x1 : Int32) (x2 : Int64) (x4 : Int32) : Option ((Int64 × Int32) ⊕ (Int64)) :=
  gd (2 : Int32) 495 (if (M 4 (2 : Int32).toNatClampNeg) ≤ x4 then some (.inr x2) else bd (f_X11_takes M x4) (fun r_3 => if r_3 = 0 then b_X11_allowedOf_92 M x1 x4 x2 else bd (f_X11_areAlike M x4 x1) (fun r_6 => if r_6 = 0 then b_X11_allowedOf_92 M x1 x4 x2 else bd (f_X11_isAhead M x4 x1) (fun r_9 => if r_9 = 0 then b_X11_allowedOf_92 M x1 x4 x2 else bd (f_X11_entryOf M x4 (3 : Int32)) (fun r_12 => b_X11_allowedOf_93 M x1 x4 r_12.toInt64 x2)))))
set_option maxRecDepth 20000 in
set_option maxHeartbeats 2000000 in
theorem wl_X11_allowedOf_40 {x : xC} (C : CtM x RX11 cX11_allowedOf 6 ({ frames := 4, cells := 0, slots := 0, locals := 87 } : Room)) (M : xM) (x1 : Int32) (x2 : Int64) (x4 : Int32)  (o : (Int64 × Int32) ⊕ (Int64)) (h : bl_X11_allowedOf_40 M x1 x2 x4 = some o) (kh : ∀ s : Int64 × Int32, o = .inl s → J x M 40 [(0, .ref (x_ad x 0)), (1, .int x1), (2, .long s.1), (4, .int s.2)] []) (ke_0 : ∀ v : Int64, o = .inr v → J x M 101 [(0, .ref (x_ad x 0)), (1, .int x1), (2, .long v)] []) : J x M 40 [(0, .ref (x_ad x 0)), (1, .int x1), (2, .long x2), (4, .int x4)] [] := by
  unfold bl_X11_allowedOf_40 at h
  refine r_iload C.1 3 dX11_allowedOf_40 rfl ?_
  refine r_aload_n C.1 0 dX11_allowedOf_42 rfl rfl ?_
  refine gf_X11_19 C dX11_allowedOf_43 ?_
  refine r_iconst (v := 2) C.1 dX11_allowedOf_46 rfl ?_
  obtain ⟨q_1, h⟩ := gd_E h
  refine r_iald C.1 (mK C (by decide)) (mS C (shm_4)) 0 (mT0 C) q_1 dX11_allowedOf_47 ?_
  refine r_icmp_ge C.1 101 dX11_allowedOf_48 (by decide) (fun c_2 => ?_) (fun c_2 => ?_)
  · replace h := ite_T c_2 h
    exact r_sub [0, 1, 2] rfl (ke_0 _ (Option.some.inj h).symm)
  · replace h := ite_F c_2 h
    refine r_lload_n C.1 2 dX11_allowedOf_51 rfl rfl ?_
    refine r_aload_n C.1 0 dX11_allowedOf_52 rfl rfl ?_
    refine r_iload C.1 3 dX11_allowedOf_53 rfl ?_
    obtain ⟨r_3, hc_4, h⟩ := bd_E h
    refine cl_X11_193 C ⟨Nat.le_of_ble_eq_true rfl, Nat.le_of_ble_eq_true rfl⟩ (m_X11_takes _ _ _ M x4 hc_4) (Nat.le_of_ble_eq_true rfl) dX11_allowedOf_55 ?_
    refine r_if_eq C.1 92 dX11_allowedOf_58 (by decide) (fun c_5 => ?_) (fun c_5 => ?_)
    · replace h := ite_T c_5 h
      exact r_sub [0, 1, 3] rfl (w_X11_allowedOf_92 C M x1 x4 x2 _ h kh ke_0)
    · replace h := ite_F c_5 h
      refine r_aload_n C.1 0 dX11_allowedOf_61 rfl rfl ?_
      refine r_iload C.1 3 dX11_allowedOf_62 rfl ?_
      refine r_iload_n C.1 1 dX11_allowedOf_64 rfl rfl ?_
      obtain ⟨r_6, hc_7, h⟩ := bd_E h
      refine cl_X11_196 C ⟨Nat.le_of_ble_eq_true rfl, Nat.le_of_ble_eq_true rfl⟩ (m_X11_areAlike _ _ _ M x4 x1 hc_7) (Nat.le_of_ble_eq_true rfl) dX11_allowedOf_65 ?_
      refine r_if_eq C.1 92 dX11_allowedOf_68 (by decide) (fun c_8 => ?_) (fun c_8 => ?_)
      · replace h := ite_T c_8 h
        exact r_sub [0, 1, 3] rfl (w_X11_allowedOf_92 C M x1 x4 x2 _ h kh ke_0)
      · replace h := ite_F c_8 h
        refine r_aload_n C.1 0 dX11_allowedOf_71 rfl rfl ?_
        refine r_iload C.1 3 dX11_allowedOf_72 rfl ?_
        refine r_iload_n C.1 1 dX11_allowedOf_74 rfl rfl ?_
        obtain ⟨r_9, hc_10, h⟩ := bd_E h
        refine cl_X11_200 C ⟨Nat.le_of_ble_eq_true rfl, Nat.le_of_ble_eq_true rfl⟩ (m_X11_isAhead _ _ _ M x4 x1 hc_10) (Nat.le_of_ble_eq_true rfl) dX11_allowedOf_75 ?_
        refine r_if_eq C.1 92 dX11_allowedOf_78 (by decide) (fun c_11 => ?_) (fun c_11 => ?_)
        · replace h := ite_T c_11 h
          exact r_sub [0, 1, 3] rfl (w_X11_allowedOf_92 C M x1 x4 x2 _ h kh ke_0)
        · replace h := ite_F c_11 h
          refine r_aload_n C.1 0 dX11_allowedOf_81 rfl rfl ?_
          refine r_iload C.1 3 dX11_allowedOf_82 rfl ?_
          refine r_iconst (v := 3) C.1 dX11_allowedOf_84 rfl ?_
          obtain ⟨r_12, hc_13, h⟩ := bd_E h
          refine cl_X11_173 C ⟨Nat.le_of_ble_eq_true rfl, Nat.le_of_ble_eq_true rfl⟩ (m_X11_entryOf _ _ _ M x4 (3 : Int32) hc_13) (Nat.le_of_ble_eq_true rfl) dX11_allowedOf_85 ?_
          refine r_i2l C.1 dX11_allowedOf_88 ?_
          refine r_goto C.1 93 dX11_allowedOf_89 (by decide) ?_
          exact r_sub [0, 1, 3] rfl (w_X11_allowedOf_93 C M x1 x4 r_12.toInt64 x2 _ h kh ke_0)

def b_X11_allowedOf_40 (M : xM) (x1 : Int32) (x2 : Int64) (x4 : Int32) : Option (Int32) :=
  bd (loopN (fun s : Int64 × Int32 => bl_X11_allowedOf_40 M x1 s.1 s.2) BG (x2, x4)) (fun v => bd (f_X11_entryOf M x1 (1 : Int32)) (fun r_1 => bd (f_X11_entryOf M x1 (4 : Int32)) (fun r_3 => bd (f_X11_entryOf M x1 (2 : Int32)) (fun r_5 => bd (f_X11_allowanceOf M r_1 r_3 (r_5 / (360 : Int32))) (fun r_7 => lt (lmax (0 : Int64) (r_7.toInt64 - v)) (fun y_9 => bd (f_X11_entryOf M x1 (3 : Int32)) (fun r_10 => some ((lmin y_9 r_10.toInt64).toInt32))))))))
set_option maxRecDepth 20000 in
set_option maxHeartbeats 2000000 in
theorem w_X11_allowedOf_40 {x : xC} (C : CtM x RX11 cX11_allowedOf 6 ({ frames := 4, cells := 0, slots := 0, locals := 87 } : Room)) (M : xM) (x1 : Int32) (x2 : Int64) (x4 : Int32)  (o : Int32) (h : b_X11_allowedOf_40 M x1 x2 x4 = some o) (hr : (x_me x).sig.returnType = some .int) (ev : x_rv x = some (.int o)) (eM : x_M x = M) : J x M 40 [(0, .ref (x_ad x 0)), (1, .int x1), (2, .long x2), (4, .int x4)] [] := by
  unfold b_X11_allowedOf_40 at h
  obtain ⟨r_0, hr_0, h⟩ := bd_E h
  refine loopN_ind (JJ := fun s => J x M 40 [(0, .ref (x_ad x 0)), (1, .int x1), (2, .long s.1), (4, .int s.2)] []) (KX := fun q => q = r_0) ?_ BG (x2, x4) r_0 hr_0 rfl
  intro s o1 hb kk1 kk2
  refine wl_X11_allowedOf_40 C M x1 s.1 s.2 _ hb kk1 ?_
  · intro v e0
    have e1 := kk2 _ e0
    subst e1
    refine r_lconst (v := 0) C.1 dX11_allowedOf_101 rfl ?_
    refine r_aload_n C.1 0 dX11_allowedOf_102 rfl rfl ?_
    refine r_aload_n C.1 0 dX11_allowedOf_103 rfl rfl ?_
    refine r_iload_n C.1 1 dX11_allowedOf_104 rfl rfl ?_
    refine r_iconst (v := 1) C.1 dX11_allowedOf_105 rfl ?_
    obtain ⟨r_1, hc_2, h⟩ := bd_E h
    refine cl_X11_173 C ⟨Nat.le_of_ble_eq_true rfl, Nat.le_of_ble_eq_true rfl⟩ (m_X11_entryOf _ _ _ M x1 (1 : Int32) hc_2) (Nat.le_of_ble_eq_true rfl) dX11_allowedOf_106 ?_
    refine r_aload_n C.1 0 dX11_allowedOf_109 rfl rfl ?_
    refine r_iload_n C.1 1 dX11_allowedOf_110 rfl rfl ?_
    refine r_iconst (v := 4) C.1 dX11_allowedOf_111 rfl ?_
    obtain ⟨r_3, hc_4, h⟩ := bd_E h
    refine cl_X11_173 C ⟨Nat.le_of_ble_eq_true rfl, Nat.le_of_ble_eq_true rfl⟩ (m_X11_entryOf _ _ _ M x1 (4 : Int32) hc_4) (Nat.le_of_ble_eq_true rfl) dX11_allowedOf_112 ?_
    refine r_aload_n C.1 0 dX11_allowedOf_115 rfl rfl ?_
    refine r_iload_n C.1 1 dX11_allowedOf_116 rfl rfl ?_
    refine r_iconst (v := 2) C.1 dX11_allowedOf_117 rfl ?_
    obtain ⟨r_5, hc_6, h⟩ := bd_E h
    refine cl_X11_173 C ⟨Nat.le_of_ble_eq_true rfl, Nat.le_of_ble_eq_true rfl⟩ (m_X11_entryOf _ _ _ M x1 (2 : Int32) hc_6) (Nat.le_of_ble_eq_true rfl) dX11_allowedOf_118 ?_
    refine r_sipush (v := 360) C.1 dX11_allowedOf_121 (by decide) ?_
    refine r_idiv C.1 (by decide) dX11_allowedOf_124 ?_
    obtain ⟨r_7, hc_8, h⟩ := bd_E h
    refine cl_X11_203 C ⟨Nat.le_of_ble_eq_true rfl, Nat.le_of_ble_eq_true rfl⟩ (m_X11_allowanceOf _ _ _ M r_1 r_3 (r_5 / (360 : Int32)) hc_8) (Nat.le_of_ble_eq_true rfl) dX11_allowedOf_125 ?_
    refine r_i2l C.1 dX11_allowedOf_128 ?_
    refine r_lload_n C.1 2 dX11_allowedOf_129 rfl rfl ?_
    refine r_lsub C.1 dX11_allowedOf_130 ?_
    refine cm_X11_207 C.1 (by decide) (by decide) (Nat.le_of_ble_eq_true rfl) dX11_allowedOf_131 ?_
    obtain ⟨y_9, ey_9, h⟩ := lt_E h
    refine r_lstore C.1 [(4, .long y_9), (0, .ref (x_ad x 0)), (1, .int x1), (2, .long v)] dX11_allowedOf_134 (by decide) ey_9 rfl ?_
    refine r_lload C.1 0 dX11_allowedOf_136 rfl ?_
    refine r_aload_n C.1 1 dX11_allowedOf_138 rfl rfl ?_
    refine r_iload_n C.1 2 dX11_allowedOf_139 rfl rfl ?_
    refine r_iconst (v := 3) C.1 dX11_allowedOf_140 rfl ?_
    obtain ⟨r_10, hc_11, h⟩ := bd_E h
    refine cl_X11_173 C ⟨Nat.le_of_ble_eq_true rfl, Nat.le_of_ble_eq_true rfl⟩ (m_X11_entryOf _ _ _ M x1 (3 : Int32) hc_11) (Nat.le_of_ble_eq_true rfl) dX11_allowedOf_141 ?_
    refine r_i2l C.1 dX11_allowedOf_144 ?_
    refine cm_X11_210 C.1 (by decide) (by decide) (Nat.le_of_ble_eq_true rfl) dX11_allowedOf_145 ?_
    refine r_l2i C.1 dX11_allowedOf_148 ?_
    obtain rfl := Option.some.inj h
    exact r_iret C.1 hr ev eM dX11_allowedOf_149

def b_X11_allowedOf_0 (M : xM) (x1 : Int32) : Option (Int32) :=
  bd (f_X11_entryOf M x1 (0 : Int32)) (fun r_1 => if r_1 = (1 : Int32) then bd (f_X11_isBacked M x1) (fun r_4 => if r_4 = 0 then b_X11_allowedOf_18 M else bd (f_X11_takes M x1) (fun r_7 => if r_7 = 0 then bd (f_X11_entryOf M x1 (3 : Int32)) (fun r_10 => some r_10) else b_X11_allowedOf_40 M x1 (0 : Int64) (0 : Int32))) else b_X11_allowedOf_18 M)
set_option maxRecDepth 20000 in
set_option maxHeartbeats 2000000 in
theorem w_X11_allowedOf_0 {x : xC} (C : CtM x RX11 cX11_allowedOf 6 ({ frames := 4, cells := 0, slots := 0, locals := 87 } : Room)) (M : xM) (x1 : Int32)  (o : Int32) (h : b_X11_allowedOf_0 M x1 = some o) (hr : (x_me x).sig.returnType = some .int) (ev : x_rv x = some (.int o)) (eM : x_M x = M) : J x M 0 [(0, .ref (x_ad x 0)), (1, .int x1)] [] := by
  unfold b_X11_allowedOf_0 at h
  refine r_aload_n C.1 0 dX11_allowedOf_0 rfl rfl ?_
  refine r_iload_n C.1 1 dX11_allowedOf_1 rfl rfl ?_
  refine r_iconst (v := 0) C.1 dX11_allowedOf_2 rfl ?_
  obtain ⟨r_1, hc_2, h⟩ := bd_E h
  refine cl_X11_173 C ⟨Nat.le_of_ble_eq_true rfl, Nat.le_of_ble_eq_true rfl⟩ (m_X11_entryOf _ _ _ M x1 (0 : Int32) hc_2) (Nat.le_of_ble_eq_true rfl) dX11_allowedOf_3 ?_
  refine r_iconst (v := 1) C.1 dX11_allowedOf_6 rfl ?_
  refine r_icmp_ne C.1 18 dX11_allowedOf_7 (by decide) (fun c_3 => ?_) (fun c_3 => ?_)
  · replace h := ite_F c_3 h
    exact r_sub [] rfl (w_X11_allowedOf_18 C M _ h hr ev eM)
  · replace h := ite_T c_3 h
    refine r_aload_n C.1 0 dX11_allowedOf_10 rfl rfl ?_
    refine r_iload_n C.1 1 dX11_allowedOf_11 rfl rfl ?_
    obtain ⟨r_4, hc_5, h⟩ := bd_E h
    refine cl_X11_190 C ⟨Nat.le_of_ble_eq_true rfl, Nat.le_of_ble_eq_true rfl⟩ (m_X11_isBacked _ _ _ M x1 hc_5) (Nat.le_of_ble_eq_true rfl) dX11_allowedOf_12 ?_
    refine r_if_ne C.1 20 dX11_allowedOf_15 (by decide) (fun c_6 => ?_) (fun c_6 => ?_)
    · replace h := ite_F c_6 h
      refine r_aload_n C.1 0 dX11_allowedOf_20 rfl rfl ?_
      refine r_iload_n C.1 1 dX11_allowedOf_21 rfl rfl ?_
      obtain ⟨r_7, hc_8, h⟩ := bd_E h
      refine cl_X11_193 C ⟨Nat.le_of_ble_eq_true rfl, Nat.le_of_ble_eq_true rfl⟩ (m_X11_takes _ _ _ M x1 hc_8) (Nat.le_of_ble_eq_true rfl) dX11_allowedOf_22 ?_
      refine r_if_ne C.1 35 dX11_allowedOf_25 (by decide) (fun c_9 => ?_) (fun c_9 => ?_)
      · replace h := ite_F c_9 h
        refine r_lconst (v := 0) C.1 dX11_allowedOf_35 rfl ?_
        refine r_lstore_n C.1 [(2, .long (0 : Int64)), (0, .ref (x_ad x 0)), (1, .int x1)] dX11_allowedOf_36 rfl (by decide) rfl rfl ?_
        refine r_iconst (v := 0) C.1 dX11_allowedOf_37 rfl ?_
        refine r_istore C.1 [(4, .int (0 : Int32)), (2, .long (0 : Int64)), (0, .ref (x_ad x 0)), (1, .int x1)] dX11_allowedOf_38 (by decide) rfl rfl ?_
        exact r_sub [2, 3, 1, 0] rfl (w_X11_allowedOf_40 C M x1 (0 : Int64) (0 : Int32) _ h hr ev eM)
      · replace h := ite_T c_9 h
        refine r_aload_n C.1 0 dX11_allowedOf_28 rfl rfl ?_
        refine r_iload_n C.1 1 dX11_allowedOf_29 rfl rfl ?_
        refine r_iconst (v := 3) C.1 dX11_allowedOf_30 rfl ?_
        obtain ⟨r_10, hc_11, h⟩ := bd_E h
        refine cl_X11_173 C ⟨Nat.le_of_ble_eq_true rfl, Nat.le_of_ble_eq_true rfl⟩ (m_X11_entryOf _ _ _ M x1 (3 : Int32) hc_11) (Nat.le_of_ble_eq_true rfl) dX11_allowedOf_31 ?_
        obtain rfl := Option.some.inj h
        exact r_iret C.1 hr ev eM dX11_allowedOf_34
    · replace h := ite_T c_6 h
      exact r_sub [] rfl (w_X11_allowedOf_18 C M _ h hr ev eM)
def f_X11_allowedOf (M : xM) (x1 : Int32) : Option (Int32) := b_X11_allowedOf_0 M x1
set_option maxRecDepth 20000 in
theorem m_X11_allowedOf (l : Launch) (D : va_G) (ad : Nat → Nat) (M : xM) (x1 : Int32)  {o : Int32} (h : f_X11_allowedOf M x1 = some o) : xMetM l yX11_allowedOf cX11_allowedOf 6 (some .int) ({ frames := 4, cells := 0, slots := 0, locals := 87 } : Room) [.ref (ad 0), .int x1] D ad M (some (.int o)) M := by
  refine xMetM_of (own := RX11) (by decide) rfl (Nat.le_of_ble_eq_true rfl) ?_
  intro x C e1 e2 e3 ev eM hr
  subst e1; subst e2; subst e3
  refine r_sub (L := [(0, .ref (x_ad x 0)), (1, .int x1)]) (L' := [(0, .ref (x_ad x 0)), (1, .int x1)]) [0, 1] rfl ?_
  exact w_X11_allowedOf_0 C M x1 _ h hr ev eM

def bl_X11_lays_2 (M : xM) (x1 : Int32) : Option ((xM × Int32) ⊕ (xM)) :=
  gd (2 : Int32) 495 (if (M 4 (2 : Int32).toNatClampNeg) ≤ x1 then some (.inr M) else bd (f_X11_allowedOf M x1) (fun r_3 => gd x1 40 (lt (uM M 8 x1.toNatClampNeg r_3) (fun M_6 => lt (x1 + (1 : Int32)) (fun y_7 => some (.inl (M_6, y_7)))))))
set_option maxRecDepth 20000 in
set_option maxHeartbeats 2000000 in
theorem wl_X11_lays_2 {x : xC} (C : CtM x RX11 cX11_lays 2 ({ frames := 5, cells := 0, slots := 0, locals := 112 } : Room)) (M : xM) (x1 : Int32)  (o : (xM × Int32) ⊕ (xM)) (h : bl_X11_lays_2 M x1 = some o) (kh : ∀ s : xM × Int32, o = .inl s → J x s.1 2 [(0, .ref (x_ad x 0)), (1, .int s.2)] []) (ke_0 : ∀ v : xM, o = .inr v → J x v 29 [] []) : J x M 2 [(0, .ref (x_ad x 0)), (1, .int x1)] [] := by
  unfold bl_X11_lays_2 at h
  refine r_iload_n C.1 1 dX11_lays_2 rfl rfl ?_
  refine r_aload_n C.1 0 dX11_lays_3 rfl rfl ?_
  refine gf_X11_19 C dX11_lays_4 ?_
  refine r_iconst (v := 2) C.1 dX11_lays_7 rfl ?_
  obtain ⟨q_1, h⟩ := gd_E h
  refine r_iald C.1 (mK C (by decide)) (mS C (shm_4)) 0 (mT0 C) q_1 dX11_lays_8 ?_
  refine r_icmp_ge C.1 29 dX11_lays_9 (by decide) (fun c_2 => ?_) (fun c_2 => ?_)
  · replace h := ite_T c_2 h
    exact r_sub [] rfl (ke_0 _ (Option.some.inj h).symm)
  · replace h := ite_F c_2 h
    refine r_aload_n C.1 0 dX11_lays_12 rfl rfl ?_
    refine gf_X11_31 C dX11_lays_13 ?_
    refine r_iload_n C.1 1 dX11_lays_16 rfl rfl ?_
    refine r_aload_n C.1 0 dX11_lays_17 rfl rfl ?_
    refine r_iload_n C.1 1 dX11_lays_18 rfl rfl ?_
    obtain ⟨r_3, hc_4, h⟩ := bd_E h
    refine cl_X11_212 C ⟨Nat.le_of_ble_eq_true rfl, Nat.le_of_ble_eq_true rfl⟩ (m_X11_allowedOf _ _ _ M x1 hc_4) (Nat.le_of_ble_eq_true rfl) dX11_lays_19 ?_
    obtain ⟨q_5, h⟩ := gd_E h
    obtain ⟨M_6, eM_6, h⟩ := lt_E h
    refine r_iast C.1 (mK C (by decide)) (mS C (shm_8)) 0 (mT0 C) q_5 eM_6 dX11_lays_22 ?_
    obtain ⟨y_7, ey_7, h⟩ := lt_E h
    refine r_iinc C.1 1 [(1, .int y_7), (0, .ref (x_ad x 0))] dX11_lays_23 rfl ey_7 (by decide) rfl ?_
    refine r_goto C.1 2 dX11_lays_26 (by decide) ?_
    exact r_sub [1, 0] rfl (kh _ (Option.some.inj h).symm)

def b_X11_lays_2 (M : xM) (x1 : Int32) : Option (xM) :=
  bd (loopN (fun s : xM × Int32 => bl_X11_lays_2 s.1 s.2) BG (M, x1)) (fun v => some v)
set_option maxRecDepth 20000 in
set_option maxHeartbeats 2000000 in
theorem w_X11_lays_2 {x : xC} (C : CtM x RX11 cX11_lays 2 ({ frames := 5, cells := 0, slots := 0, locals := 112 } : Room)) (M : xM) (x1 : Int32)  (o : xM) (h : b_X11_lays_2 M x1 = some o) (hr : (x_me x).sig.returnType = none) (ev : x_rv x = none) (eM : x_M x = o) : J x M 2 [(0, .ref (x_ad x 0)), (1, .int x1)] [] := by
  unfold b_X11_lays_2 at h
  obtain ⟨r_0, hr_0, h⟩ := bd_E h
  refine loopN_ind (JJ := fun s => J x s.1 2 [(0, .ref (x_ad x 0)), (1, .int s.2)] []) (KX := fun q => q = r_0) ?_ BG (M, x1) r_0 hr_0 rfl
  intro s o1 hb kk1 kk2
  refine wl_X11_lays_2 C s.1 s.2 _ hb kk1 ?_
  · intro v e0
    have e1 := kk2 _ e0
    subst e1
    obtain rfl := Option.some.inj h
    exact r_vret C.1 hr ev eM dX11_lays_29

def b_X11_lays_0 (M : xM)  : Option (xM) :=
  b_X11_lays_2 M (0 : Int32)
set_option maxRecDepth 20000 in
set_option maxHeartbeats 2000000 in
theorem w_X11_lays_0 {x : xC} (C : CtM x RX11 cX11_lays 2 ({ frames := 5, cells := 0, slots := 0, locals := 112 } : Room)) (M : xM)   (o : xM) (h : b_X11_lays_0 M = some o) (hr : (x_me x).sig.returnType = none) (ev : x_rv x = none) (eM : x_M x = o) : J x M 0 [(0, .ref (x_ad x 0))] [] := by
  unfold b_X11_lays_0 at h
  refine r_iconst (v := 0) C.1 dX11_lays_0 rfl ?_
  refine r_istore_n C.1 [(1, .int (0 : Int32)), (0, .ref (x_ad x 0))] dX11_lays_1 rfl (by decide) rfl rfl ?_
  exact r_sub [1, 0] rfl (w_X11_lays_2 C M (0 : Int32) _ h hr ev eM)
def f_X11_lays (M : xM)  : Option (xM) := b_X11_lays_0 M 
set_option maxRecDepth 20000 in
theorem m_X11_lays (l : Launch) (D : va_G) (ad : Nat → Nat) (M : xM)   {o : xM} (h : f_X11_lays M = some o) : xMetM l yX11_lays cX11_lays 2 none ({ frames := 5, cells := 0, slots := 0, locals := 112 } : Room) [.ref (ad 0)] D ad M none o := by
  refine xMetM_of (own := RX11) (by decide) rfl (Nat.le_of_ble_eq_true rfl) ?_
  intro x C e1 e2 e3 ev eM hr
  subst e1; subst e2; subst e3
  refine r_sub (L := [(0, .ref (x_ad x 0))]) (L' := [(0, .ref (x_ad x 0))]) [0] rfl ?_
  exact w_X11_lays_0 C M _ h hr ev eM

def b_X11_disallowed_0 (M : xM) (x1 : Int32) : Option (Int32) :=
  bd (f_X11_entryOf M x1 (3 : Int32)) (fun r_1 => gd x1 40 (some (r_1 - (M 8 x1.toNatClampNeg))))
set_option maxRecDepth 20000 in
set_option maxHeartbeats 2000000 in
theorem w_X11_disallowed_0 {x : xC} (C : CtM x RX11 cX11_disallowed 2 ({ frames := 1, cells := 0, slots := 0, locals := 22 } : Room)) (M : xM) (x1 : Int32)  (o : Int32) (h : b_X11_disallowed_0 M x1 = some o) (hr : (x_me x).sig.returnType = some .int) (ev : x_rv x = some (.int o)) (eM : x_M x = M) : J x M 0 [(0, .ref (x_ad x 0)), (1, .int x1)] [] := by
  unfold b_X11_disallowed_0 at h
  refine r_aload_n C.1 0 dX11_disallowed_0 rfl rfl ?_
  refine r_iload_n C.1 1 dX11_disallowed_1 rfl rfl ?_
  refine r_iconst (v := 3) C.1 dX11_disallowed_2 rfl ?_
  obtain ⟨r_1, hc_2, h⟩ := bd_E h
  refine cl_X11_173 C ⟨Nat.le_of_ble_eq_true rfl, Nat.le_of_ble_eq_true rfl⟩ (m_X11_entryOf _ _ _ M x1 (3 : Int32) hc_2) (Nat.le_of_ble_eq_true rfl) dX11_disallowed_3 ?_
  refine r_aload_n C.1 0 dX11_disallowed_6 rfl rfl ?_
  refine gf_X11_31 C dX11_disallowed_7 ?_
  refine r_iload_n C.1 1 dX11_disallowed_10 rfl rfl ?_
  obtain ⟨q_3, h⟩ := gd_E h
  refine r_iald C.1 (mK C (by decide)) (mS C (shm_8)) 0 (mT0 C) q_3 dX11_disallowed_11 ?_
  refine r_isub C.1 dX11_disallowed_12 ?_
  obtain rfl := Option.some.inj h
  exact r_iret C.1 hr ev eM dX11_disallowed_13
def f_X11_disallowed (M : xM) (x1 : Int32) : Option (Int32) := b_X11_disallowed_0 M x1
set_option maxRecDepth 20000 in
theorem m_X11_disallowed (l : Launch) (D : va_G) (ad : Nat → Nat) (M : xM) (x1 : Int32)  {o : Int32} (h : f_X11_disallowed M x1 = some o) : xMetM l yX11_disallowed cX11_disallowed 2 (some .int) ({ frames := 1, cells := 0, slots := 0, locals := 22 } : Room) [.ref (ad 0), .int x1] D ad M (some (.int o)) M := by
  refine xMetM_of (own := RX11) (by decide) rfl (Nat.le_of_ble_eq_true rfl) ?_
  intro x C e1 e2 e3 ev eM hr
  subst e1; subst e2; subst e3
  refine r_sub (L := [(0, .ref (x_ad x 0)), (1, .int x1)]) (L' := [(0, .ref (x_ad x 0)), (1, .int x1)]) [0, 1] rfl ?_
  exact w_X11_disallowed_0 C M x1 _ h hr ev eM

def b_X11_brought_34 (M : xM) (s0 : Int32) : Option (Int32) :=
  some s0
set_option maxRecDepth 20000 in
set_option maxHeartbeats 2000000 in
theorem w_X11_brought_34 {x : xC} (C : CtM x RX11 cX11_brought 3 ({ frames := 1, cells := 0, slots := 0, locals := 22 } : Room)) (M : xM) (s0 : Int32)  (o : Int32) (h : b_X11_brought_34 M s0 = some o) (hr : (x_me x).sig.returnType = some .int) (ev : x_rv x = some (.int o)) (eM : x_M x = M) : J x M 34 [] [.int s0] := by
  unfold b_X11_brought_34 at h
  obtain rfl := Option.some.inj h
  exact r_iret C.1 hr ev eM dX11_brought_34

def b_X11_brought_0 (M : xM) (x1 : Int32) (x2 : Int32) : Option (Int32) :=
  bd (f_X11_its M x1 (15 : Int32)) (fun r_1 => if r_1 ≤ x2 then b_X11_brought_34 M (0 : Int32) else bd (f_X11_its M x1 ((16 : Int32) + x2)) (fun r_4 => bd (f_X11_its M x1 ((26 : Int32) + x2)) (fun r_6 => b_X11_brought_34 M (r_4 - r_6))))
set_option maxRecDepth 20000 in
set_option maxHeartbeats 2000000 in
theorem w_X11_brought_0 {x : xC} (C : CtM x RX11 cX11_brought 3 ({ frames := 1, cells := 0, slots := 0, locals := 22 } : Room)) (M : xM) (x1 : Int32) (x2 : Int32)  (o : Int32) (h : b_X11_brought_0 M x1 x2 = some o) (hr : (x_me x).sig.returnType = some .int) (ev : x_rv x = some (.int o)) (eM : x_M x = M) : J x M 0 [(0, .ref (x_ad x 0)), (1, .int x1), (2, .int x2)] [] := by
  unfold b_X11_brought_0 at h
  refine r_iload_n C.1 2 dX11_brought_0 rfl rfl ?_
  refine r_aload_n C.1 0 dX11_brought_1 rfl rfl ?_
  refine r_iload_n C.1 1 dX11_brought_2 rfl rfl ?_
  refine r_bipush (v := 15) C.1 dX11_brought_3 (by decide) ?_
  obtain ⟨r_1, hc_2, h⟩ := bd_E h
  refine cl_X11_176 C ⟨Nat.le_of_ble_eq_true rfl, Nat.le_of_ble_eq_true rfl⟩ (m_X11_its _ _ _ M x1 (15 : Int32) hc_2) (Nat.le_of_ble_eq_true rfl) dX11_brought_5 ?_
  refine r_icmp_ge C.1 33 dX11_brought_8 (by decide) (fun c_3 => ?_) (fun c_3 => ?_)
  · replace h := ite_T c_3 h
    refine r_iconst (v := 0) C.1 dX11_brought_33 rfl ?_
    exact r_sub [] rfl (w_X11_brought_34 C M (0 : Int32) _ h hr ev eM)
  · replace h := ite_F c_3 h
    refine r_aload_n C.1 0 dX11_brought_11 rfl rfl ?_
    refine r_iload_n C.1 1 dX11_brought_12 rfl rfl ?_
    refine r_bipush (v := 16) C.1 dX11_brought_13 (by decide) ?_
    refine r_iload_n C.1 2 dX11_brought_15 rfl rfl ?_
    refine r_iadd C.1 dX11_brought_16 ?_
    obtain ⟨r_4, hc_5, h⟩ := bd_E h
    refine cl_X11_176 C ⟨Nat.le_of_ble_eq_true rfl, Nat.le_of_ble_eq_true rfl⟩ (m_X11_its _ _ _ M x1 ((16 : Int32) + x2) hc_5) (Nat.le_of_ble_eq_true rfl) dX11_brought_17 ?_
    refine r_aload_n C.1 0 dX11_brought_20 rfl rfl ?_
    refine r_iload_n C.1 1 dX11_brought_21 rfl rfl ?_
    refine r_bipush (v := 26) C.1 dX11_brought_22 (by decide) ?_
    refine r_iload_n C.1 2 dX11_brought_24 rfl rfl ?_
    refine r_iadd C.1 dX11_brought_25 ?_
    obtain ⟨r_6, hc_7, h⟩ := bd_E h
    refine cl_X11_176 C ⟨Nat.le_of_ble_eq_true rfl, Nat.le_of_ble_eq_true rfl⟩ (m_X11_its _ _ _ M x1 ((26 : Int32) + x2) hc_7) (Nat.le_of_ble_eq_true rfl) dX11_brought_26 ?_
    refine r_isub C.1 dX11_brought_29 ?_
    refine r_goto C.1 34 dX11_brought_30 (by decide) ?_
    exact r_sub [] rfl (w_X11_brought_34 C M (r_4 - r_6) _ h hr ev eM)
def f_X11_brought (M : xM) (x1 : Int32) (x2 : Int32) : Option (Int32) := b_X11_brought_0 M x1 x2
set_option maxRecDepth 20000 in
theorem m_X11_brought (l : Launch) (D : va_G) (ad : Nat → Nat) (M : xM) (x1 : Int32) (x2 : Int32)  {o : Int32} (h : f_X11_brought M x1 x2 = some o) : xMetM l yX11_brought cX11_brought 3 (some .int) ({ frames := 1, cells := 0, slots := 0, locals := 22 } : Room) [.ref (ad 0), .int x1, .int x2] D ad M (some (.int o)) M := by
  refine xMetM_of (own := RX11) (by decide) rfl (Nat.le_of_ble_eq_true rfl) ?_
  intro x C e1 e2 e3 ev eM hr
  subst e1; subst e2; subst e3
  refine r_sub (L := [(0, .ref (x_ad x 0)), (1, .int x1), (2, .int x2)]) (L' := [(0, .ref (x_ad x 0)), (1, .int x1), (2, .int x2)]) [0, 1, 2] rfl ?_
  exact w_X11_brought_0 C M x1 x2 _ h hr ev eM

def b_X11_worth_43 (M : xM) (s0 : Int32) : Option (Int32) :=
  some s0
set_option maxRecDepth 20000 in
set_option maxHeartbeats 2000000 in
theorem w_X11_worth_43 {x : xC} (C : CtM x RX11 cX11_worth 3 ({ frames := 1, cells := 0, slots := 0, locals := 22 } : Room)) (M : xM) (s0 : Int32)  (o : Int32) (h : b_X11_worth_43 M s0 = some o) (hr : (x_me x).sig.returnType = some .int) (ev : x_rv x = some (.int o)) (eM : x_M x = M) : J x M 43 [] [.int s0] := by
  unfold b_X11_worth_43 at h
  obtain rfl := Option.some.inj h
  exact r_iret C.1 hr ev eM dX11_worth_43

def b_X11_worth_0 (M : xM) (x1 : Int32) : Option (Int32) :=
  bd (f_X11_entryOf M x1 (0 : Int32)) (fun r_1 => if r_1 = (1 : Int32) then gd x1 40 (b_X11_worth_43 M (-(M 8 x1.toNatClampNeg))) else if r_1 = (2 : Int32) then bd (f_X11_entryOf M x1 (3 : Int32)) (fun r_7 => b_X11_worth_43 M (-r_7)) else bd (f_X11_entryOf M x1 (3 : Int32)) (fun r_5 => b_X11_worth_43 M r_5))
set_option maxRecDepth 20000 in
set_option maxHeartbeats 2000000 in
theorem w_X11_worth_0 {x : xC} (C : CtM x RX11 cX11_worth 3 ({ frames := 1, cells := 0, slots := 0, locals := 22 } : Room)) (M : xM) (x1 : Int32)  (o : Int32) (h : b_X11_worth_0 M x1 = some o) (hr : (x_me x).sig.returnType = some .int) (ev : x_rv x = some (.int o)) (eM : x_M x = M) : J x M 0 [(0, .ref (x_ad x 0)), (1, .int x1)] [] := by
  unfold b_X11_worth_0 at h
  refine r_aload_n C.1 0 dX11_worth_0 rfl rfl ?_
  refine r_iload_n C.1 1 dX11_worth_1 rfl rfl ?_
  refine r_iconst (v := 0) C.1 dX11_worth_2 rfl ?_
  obtain ⟨r_1, hc_2, h⟩ := bd_E h
  refine cl_X11_173 C ⟨Nat.le_of_ble_eq_true rfl, Nat.le_of_ble_eq_true rfl⟩ (m_X11_entryOf _ _ _ M x1 (0 : Int32) hc_2) (Nat.le_of_ble_eq_true rfl) dX11_worth_3 ?_
  refine r_istore_n C.1 [(2, .int r_1), (0, .ref (x_ad x 0)), (1, .int x1)] dX11_worth_6 rfl (by decide) rfl rfl ?_
  refine r_iload_n C.1 0 dX11_worth_7 rfl rfl ?_
  refine r_iconst (v := 1) C.1 dX11_worth_8 rfl ?_
  refine r_icmp_ne C.1 22 dX11_worth_9 (by decide) (fun c_3 => ?_) (fun c_3 => ?_)
  · replace h := ite_F c_3 h
    refine r_iload_n C.1 0 dX11_worth_22 rfl rfl ?_
    refine r_iconst (v := 2) C.1 dX11_worth_23 rfl ?_
    refine r_icmp_ne C.1 37 dX11_worth_24 (by decide) (fun c_4 => ?_) (fun c_4 => ?_)
    · replace h := ite_F c_4 h
      refine r_aload_n C.1 1 dX11_worth_37 rfl rfl ?_
      refine r_iload_n C.1 2 dX11_worth_38 rfl rfl ?_
      refine r_iconst (v := 3) C.1 dX11_worth_39 rfl ?_
      obtain ⟨r_5, hc_6, h⟩ := bd_E h
      refine cl_X11_173 C ⟨Nat.le_of_ble_eq_true rfl, Nat.le_of_ble_eq_true rfl⟩ (m_X11_entryOf _ _ _ M x1 (3 : Int32) hc_6) (Nat.le_of_ble_eq_true rfl) dX11_worth_40 ?_
      exact r_sub [] rfl (w_X11_worth_43 C M r_5 _ h hr ev eM)
    · replace h := ite_T c_4 h
      refine r_aload_n C.1 1 dX11_worth_27 rfl rfl ?_
      refine r_iload_n C.1 2 dX11_worth_28 rfl rfl ?_
      refine r_iconst (v := 3) C.1 dX11_worth_29 rfl ?_
      obtain ⟨r_7, hc_8, h⟩ := bd_E h
      refine cl_X11_173 C ⟨Nat.le_of_ble_eq_true rfl, Nat.le_of_ble_eq_true rfl⟩ (m_X11_entryOf _ _ _ M x1 (3 : Int32) hc_8) (Nat.le_of_ble_eq_true rfl) dX11_worth_30 ?_
      refine r_ineg C.1 dX11_worth_33 ?_
      refine r_goto C.1 43 dX11_worth_34 (by decide) ?_
      exact r_sub [] rfl (w_X11_worth_43 C M (-r_7) _ h hr ev eM)
  · replace h := ite_T c_3 h
    refine r_aload_n C.1 1 dX11_worth_12 rfl rfl ?_
    refine gf_X11_31 C dX11_worth_13 ?_
    refine r_iload_n C.1 2 dX11_worth_16 rfl rfl ?_
    obtain ⟨q_9, h⟩ := gd_E h
    refine r_iald C.1 (mK C (by decide)) (mS C (shm_8)) 0 (mT0 C) q_9 dX11_worth_17 ?_
    refine r_ineg C.1 dX11_worth_18 ?_
    refine r_goto C.1 43 dX11_worth_19 (by decide) ?_
    exact r_sub [] rfl (w_X11_worth_43 C M (-(M 8 x1.toNatClampNeg)) _ h hr ev eM)
def f_X11_worth (M : xM) (x1 : Int32) : Option (Int32) := b_X11_worth_0 M x1
set_option maxRecDepth 20000 in
theorem m_X11_worth (l : Launch) (D : va_G) (ad : Nat → Nat) (M : xM) (x1 : Int32)  {o : Int32} (h : f_X11_worth M x1 = some o) : xMetM l yX11_worth cX11_worth 3 (some .int) ({ frames := 1, cells := 0, slots := 0, locals := 22 } : Room) [.ref (ad 0), .int x1] D ad M (some (.int o)) M := by
  refine xMetM_of (own := RX11) (by decide) rfl (Nat.le_of_ble_eq_true rfl) ?_
  intro x C e1 e2 e3 ev eM hr
  subst e1; subst e2; subst e3
  refine r_sub (L := [(0, .ref (x_ad x 0)), (1, .int x1)]) (L' := [(0, .ref (x_ad x 0)), (1, .int x1)]) [0, 1] rfl ?_
  exact w_X11_worth_0 C M x1 _ h hr ev eM

def bl_X11_moneyOn_60 (M : xM) (x1 : Int32) (x2 : Int32) (x3 : Int32) (x4 : Int32) : Option ((Int32 × Int32) ⊕ (Int32)) :=
  if x2 < (((360 : Int32) * x4) + (360 : Int32)) then some (.inr x3) else bd (f_X11_brought M x1 x4) (fun r_2 => lt (x3 + r_2) (fun y_4 => lt (x4 + (1 : Int32)) (fun y_5 => some (.inl (y_4, y_5)))))
set_option maxRecDepth 20000 in
set_option maxHeartbeats 2000000 in
theorem wl_X11_moneyOn_60 {x : xC} (C : CtM x RX11 cX11_moneyOn 5 ({ frames := 2, cells := 0, slots := 0, locals := 44 } : Room)) (M : xM) (x1 : Int32) (x2 : Int32) (x3 : Int32) (x4 : Int32)  (o : (Int32 × Int32) ⊕ (Int32)) (h : bl_X11_moneyOn_60 M x1 x2 x3 x4 = some o) (kh : ∀ s : Int32 × Int32, o = .inl s → J x M 60 [(0, .ref (x_ad x 0)), (1, .int x1), (2, .int x2), (3, .int s.1), (4, .int s.2)] []) (ke_0 : ∀ v : Int32, o = .inr v → J x M 90 [(3, .int v)] []) : J x M 60 [(0, .ref (x_ad x 0)), (1, .int x1), (2, .int x2), (3, .int x3), (4, .int x4)] [] := by
  unfold bl_X11_moneyOn_60 at h
  refine r_sipush (v := 360) C.1 dX11_moneyOn_60 (by decide) ?_
  refine r_iload C.1 4 dX11_moneyOn_63 rfl ?_
  refine r_imul C.1 dX11_moneyOn_65 ?_
  refine r_sipush (v := 360) C.1 dX11_moneyOn_66 (by decide) ?_
  refine r_iadd C.1 dX11_moneyOn_69 ?_
  refine r_iload_n C.1 2 dX11_moneyOn_70 rfl rfl ?_
  refine r_icmp_gt C.1 90 dX11_moneyOn_71 (by decide) (fun c_1 => ?_) (fun c_1 => ?_)
  · replace h := ite_T c_1 h
    exact r_sub [3] rfl (ke_0 _ (Option.some.inj h).symm)
  · replace h := ite_F c_1 h
    refine r_iload_n C.1 3 dX11_moneyOn_74 rfl rfl ?_
    refine r_aload_n C.1 0 dX11_moneyOn_75 rfl rfl ?_
    refine r_iload_n C.1 1 dX11_moneyOn_76 rfl rfl ?_
    refine r_iload C.1 4 dX11_moneyOn_77 rfl ?_
    obtain ⟨r_2, hc_3, h⟩ := bd_E h
    refine cl_X11_218 C ⟨Nat.le_of_ble_eq_true rfl, Nat.le_of_ble_eq_true rfl⟩ (m_X11_brought _ _ _ M x1 x4 hc_3) (Nat.le_of_ble_eq_true rfl) dX11_moneyOn_79 ?_
    refine r_iadd C.1 dX11_moneyOn_82 ?_
    obtain ⟨y_4, ey_4, h⟩ := lt_E h
    refine r_istore_n C.1 [(3, .int y_4), (0, .ref (x_ad x 0)), (1, .int x1), (2, .int x2), (4, .int x4)] dX11_moneyOn_83 rfl (by decide) ey_4 rfl ?_
    obtain ⟨y_5, ey_5, h⟩ := lt_E h
    refine r_iinc C.1 4 [(4, .int y_5), (3, .int y_4), (0, .ref (x_ad x 0)), (1, .int x1), (2, .int x2)] dX11_moneyOn_84 rfl ey_5 (by decide) rfl ?_
    refine r_goto C.1 60 dX11_moneyOn_87 (by decide) ?_
    exact r_sub [2, 3, 4, 1, 0] rfl (kh _ (Option.some.inj h).symm)

def b_X11_moneyOn_60 (M : xM) (x1 : Int32) (x2 : Int32) (x3 : Int32) (x4 : Int32) : Option (Int32) :=
  bd (loopN (fun s : Int32 × Int32 => bl_X11_moneyOn_60 M x1 x2 s.1 s.2) BG (x3, x4)) (fun v => some v)
set_option maxRecDepth 20000 in
set_option maxHeartbeats 2000000 in
theorem w_X11_moneyOn_60 {x : xC} (C : CtM x RX11 cX11_moneyOn 5 ({ frames := 2, cells := 0, slots := 0, locals := 44 } : Room)) (M : xM) (x1 : Int32) (x2 : Int32) (x3 : Int32) (x4 : Int32)  (o : Int32) (h : b_X11_moneyOn_60 M x1 x2 x3 x4 = some o) (hr : (x_me x).sig.returnType = some .int) (ev : x_rv x = some (.int o)) (eM : x_M x = M) : J x M 60 [(0, .ref (x_ad x 0)), (1, .int x1), (2, .int x2), (3, .int x3), (4, .int x4)] [] := by
  unfold b_X11_moneyOn_60 at h
  obtain ⟨r_0, hr_0, h⟩ := bd_E h
  refine loopN_ind (JJ := fun s => J x M 60 [(0, .ref (x_ad x 0)), (1, .int x1), (2, .int x2), (3, .int s.1), (4, .int s.2)] []) (KX := fun q => q = r_0) ?_ BG (x3, x4) r_0 hr_0 rfl
  intro s o1 hb kk1 kk2
  refine wl_X11_moneyOn_60 C M x1 x2 s.1 s.2 _ hb kk1 ?_
  · intro v e0
    have e1 := kk2 _ e0
    subst e1
    refine r_iload_n C.1 0 dX11_moneyOn_90 rfl rfl ?_
    obtain rfl := Option.some.inj h
    exact r_iret C.1 hr ev eM dX11_moneyOn_91

def b_X11_moneyOn_49 (M : xM) (x1 : Int32) (x2 : Int32) (x4 : Int32) (s0 : Int32) (s1 : Int32) : Option ((Int32 × Int32) ⊕ (Int32)) :=
  lt (s1 + s0) (fun y_1 => lt (x4 + (1 : Int32)) (fun y_2 => some (.inl (y_1, y_2))))
set_option maxRecDepth 20000 in
set_option maxHeartbeats 2000000 in
theorem w_X11_moneyOn_49 {x : xC} (C : CtM x RX11 cX11_moneyOn 5 ({ frames := 2, cells := 0, slots := 0, locals := 44 } : Room)) (M : xM) (x1 : Int32) (x2 : Int32) (x4 : Int32) (s0 : Int32) (s1 : Int32)  (o : (Int32 × Int32) ⊕ (Int32)) (h : b_X11_moneyOn_49 M x1 x2 x4 s0 s1 = some o) (kh : ∀ s : Int32 × Int32, o = .inl s → J x M 5 [(0, .ref (x_ad x 0)), (1, .int x1), (2, .int x2), (3, .int s.1), (4, .int s.2)] []) (ke_0 : ∀ v : Int32, o = .inr v → J x M 57 [(0, .ref (x_ad x 0)), (1, .int x1), (2, .int x2), (3, .int v)] []) : J x M 49 [(0, .ref (x_ad x 0)), (1, .int x1), (2, .int x2), (4, .int x4)] [.int s0, .int s1] := by
  unfold b_X11_moneyOn_49 at h
  refine r_iadd C.1 dX11_moneyOn_49 ?_
  obtain ⟨y_1, ey_1, h⟩ := lt_E h
  refine r_istore_n C.1 [(3, .int y_1), (0, .ref (x_ad x 0)), (1, .int x1), (2, .int x2), (4, .int x4)] dX11_moneyOn_50 rfl (by decide) ey_1 rfl ?_
  obtain ⟨y_2, ey_2, h⟩ := lt_E h
  refine r_iinc C.1 4 [(4, .int y_2), (3, .int y_1), (0, .ref (x_ad x 0)), (1, .int x1), (2, .int x2)] dX11_moneyOn_51 rfl ey_2 (by decide) rfl ?_
  refine r_goto C.1 5 dX11_moneyOn_54 (by decide) ?_
  exact r_sub [2, 3, 4, 1, 0] rfl (kh _ (Option.some.inj h).symm)

def b_X11_moneyOn_48 (M : xM) (x1 : Int32) (x2 : Int32) (x4 : Int32) (s0 : Int32) : Option ((Int32 × Int32) ⊕ (Int32)) :=
  b_X11_moneyOn_49 M x1 x2 x4 (0 : Int32) s0
set_option maxRecDepth 20000 in
set_option maxHeartbeats 2000000 in
theorem w_X11_moneyOn_48 {x : xC} (C : CtM x RX11 cX11_moneyOn 5 ({ frames := 2, cells := 0, slots := 0, locals := 44 } : Room)) (M : xM) (x1 : Int32) (x2 : Int32) (x4 : Int32) (s0 : Int32)  (o : (Int32 × Int32) ⊕ (Int32)) (h : b_X11_moneyOn_48 M x1 x2 x4 s0 = some o) (kh : ∀ s : Int32 × Int32, o = .inl s → J x M 5 [(0, .ref (x_ad x 0)), (1, .int x1), (2, .int x2), (3, .int s.1), (4, .int s.2)] []) (ke_0 : ∀ v : Int32, o = .inr v → J x M 57 [(0, .ref (x_ad x 0)), (1, .int x1), (2, .int x2), (3, .int v)] []) : J x M 48 [(0, .ref (x_ad x 0)), (1, .int x1), (2, .int x2), (4, .int x4)] [.int s0] := by
  unfold b_X11_moneyOn_48 at h
  refine r_iconst (v := 0) C.1 dX11_moneyOn_48 rfl ?_
  exact r_sub [0, 1, 2, 3] rfl (w_X11_moneyOn_49 C M x1 x2 x4 (0 : Int32) s0 _ h kh ke_0)

def bl_X11_moneyOn_5 (M : xM) (x1 : Int32) (x2 : Int32) (x3 : Int32) (x4 : Int32) : Option ((Int32 × Int32) ⊕ (Int32)) :=
  gd (2 : Int32) 495 (if (M 4 (2 : Int32).toNatClampNeg) ≤ x4 then some (.inr x3) else bd (f_X11_entryOf M x4 (1 : Int32)) (fun r_3 => if r_3 = x1 then bd (f_X11_entryOf M x4 (2 : Int32)) (fun r_6 => if x2 < r_6 then b_X11_moneyOn_48 M x1 x2 x4 x3 else bd (f_X11_worth M x4) (fun r_9 => b_X11_moneyOn_49 M x1 x2 x4 r_9 x3)) else b_X11_moneyOn_48 M x1 x2 x4 x3))
set_option maxRecDepth 20000 in
set_option maxHeartbeats 2000000 in
theorem wl_X11_moneyOn_5 {x : xC} (C : CtM x RX11 cX11_moneyOn 5 ({ frames := 2, cells := 0, slots := 0, locals := 44 } : Room)) (M : xM) (x1 : Int32) (x2 : Int32) (x3 : Int32) (x4 : Int32)  (o : (Int32 × Int32) ⊕ (Int32)) (h : bl_X11_moneyOn_5 M x1 x2 x3 x4 = some o) (kh : ∀ s : Int32 × Int32, o = .inl s → J x M 5 [(0, .ref (x_ad x 0)), (1, .int x1), (2, .int x2), (3, .int s.1), (4, .int s.2)] []) (ke_0 : ∀ v : Int32, o = .inr v → J x M 57 [(0, .ref (x_ad x 0)), (1, .int x1), (2, .int x2), (3, .int v)] []) : J x M 5 [(0, .ref (x_ad x 0)), (1, .int x1), (2, .int x2), (3, .int x3), (4, .int x4)] [] := by
  unfold bl_X11_moneyOn_5 at h
  refine r_iload C.1 4 dX11_moneyOn_5 rfl ?_
  refine r_aload_n C.1 0 dX11_moneyOn_7 rfl rfl ?_
  refine gf_X11_19 C dX11_moneyOn_8 ?_
  refine r_iconst (v := 2) C.1 dX11_moneyOn_11 rfl ?_
  obtain ⟨q_1, h⟩ := gd_E h
  refine r_iald C.1 (mK C (by decide)) (mS C (shm_4)) 0 (mT0 C) q_1 dX11_moneyOn_12 ?_
  refine r_icmp_ge C.1 57 dX11_moneyOn_13 (by decide) (fun c_2 => ?_) (fun c_2 => ?_)
  · replace h := ite_T c_2 h
    exact r_sub [0, 1, 2, 3] rfl (ke_0 _ (Option.some.inj h).symm)
  · replace h := ite_F c_2 h
    refine r_iload_n C.1 3 dX11_moneyOn_16 rfl rfl ?_
    refine r_aload_n C.1 0 dX11_moneyOn_17 rfl rfl ?_
    refine r_iload C.1 4 dX11_moneyOn_18 rfl ?_
    refine r_iconst (v := 1) C.1 dX11_moneyOn_20 rfl ?_
    obtain ⟨r_3, hc_4, h⟩ := bd_E h
    refine cl_X11_173 C ⟨Nat.le_of_ble_eq_true rfl, Nat.le_of_ble_eq_true rfl⟩ (m_X11_entryOf _ _ _ M x4 (1 : Int32) hc_4) (Nat.le_of_ble_eq_true rfl) dX11_moneyOn_21 ?_
    refine r_iload_n C.1 1 dX11_moneyOn_24 rfl rfl ?_
    refine r_icmp_ne C.1 48 dX11_moneyOn_25 (by decide) (fun c_5 => ?_) (fun c_5 => ?_)
    · replace h := ite_F c_5 h
      exact r_sub [0, 1, 2, 4] rfl (w_X11_moneyOn_48 C M x1 x2 x4 x3 _ h kh ke_0)
    · replace h := ite_T c_5 h
      refine r_aload_n C.1 0 dX11_moneyOn_28 rfl rfl ?_
      refine r_iload C.1 4 dX11_moneyOn_29 rfl ?_
      refine r_iconst (v := 2) C.1 dX11_moneyOn_31 rfl ?_
      obtain ⟨r_6, hc_7, h⟩ := bd_E h
      refine cl_X11_173 C ⟨Nat.le_of_ble_eq_true rfl, Nat.le_of_ble_eq_true rfl⟩ (m_X11_entryOf _ _ _ M x4 (2 : Int32) hc_7) (Nat.le_of_ble_eq_true rfl) dX11_moneyOn_32 ?_
      refine r_iload_n C.1 2 dX11_moneyOn_35 rfl rfl ?_
      refine r_icmp_gt C.1 48 dX11_moneyOn_36 (by decide) (fun c_8 => ?_) (fun c_8 => ?_)
      · replace h := ite_T c_8 h
        exact r_sub [0, 1, 2, 4] rfl (w_X11_moneyOn_48 C M x1 x2 x4 x3 _ h kh ke_0)
      · replace h := ite_F c_8 h
        refine r_aload_n C.1 0 dX11_moneyOn_39 rfl rfl ?_
        refine r_iload C.1 4 dX11_moneyOn_40 rfl ?_
        obtain ⟨r_9, hc_10, h⟩ := bd_E h
        refine cl_X11_215 C ⟨Nat.le_of_ble_eq_true rfl, Nat.le_of_ble_eq_true rfl⟩ (m_X11_worth _ _ _ M x4 hc_10) (Nat.le_of_ble_eq_true rfl) dX11_moneyOn_42 ?_
        refine r_goto C.1 49 dX11_moneyOn_45 (by decide) ?_
        exact r_sub [0, 1, 2, 4] rfl (w_X11_moneyOn_49 C M x1 x2 x4 r_9 x3 _ h kh ke_0)

def b_X11_moneyOn_5 (M : xM) (x1 : Int32) (x2 : Int32) (x3 : Int32) (x4 : Int32) : Option (Int32) :=
  bd (loopN (fun s : Int32 × Int32 => bl_X11_moneyOn_5 M x1 x2 s.1 s.2) BG (x3, x4)) (fun v => b_X11_moneyOn_60 M x1 x2 v (0 : Int32))
set_option maxRecDepth 20000 in
set_option maxHeartbeats 2000000 in
theorem w_X11_moneyOn_5 {x : xC} (C : CtM x RX11 cX11_moneyOn 5 ({ frames := 2, cells := 0, slots := 0, locals := 44 } : Room)) (M : xM) (x1 : Int32) (x2 : Int32) (x3 : Int32) (x4 : Int32)  (o : Int32) (h : b_X11_moneyOn_5 M x1 x2 x3 x4 = some o) (hr : (x_me x).sig.returnType = some .int) (ev : x_rv x = some (.int o)) (eM : x_M x = M) : J x M 5 [(0, .ref (x_ad x 0)), (1, .int x1), (2, .int x2), (3, .int x3), (4, .int x4)] [] := by
  unfold b_X11_moneyOn_5 at h
  obtain ⟨r_0, hr_0, h⟩ := bd_E h
  refine loopN_ind (JJ := fun s => J x M 5 [(0, .ref (x_ad x 0)), (1, .int x1), (2, .int x2), (3, .int s.1), (4, .int s.2)] []) (KX := fun q => q = r_0) ?_ BG (x3, x4) r_0 hr_0 rfl
  intro s o1 hb kk1 kk2
  refine wl_X11_moneyOn_5 C M x1 x2 s.1 s.2 _ hb kk1 ?_
  · intro v e0
    have e1 := kk2 _ e0
    subst e1
    refine r_iconst (v := 0) C.1 dX11_moneyOn_57 rfl ?_
    refine r_istore C.1 [(4, .int (0 : Int32)), (0, .ref (x_ad x 0)), (1, .int x1), (2, .int x2), (3, .int v)] dX11_moneyOn_58 (by decide) rfl rfl ?_
    exact r_sub [1, 2, 3, 4, 0] rfl (w_X11_moneyOn_60 C M x1 x2 v (0 : Int32) _ h hr ev eM)

def b_X11_moneyOn_0 (M : xM) (x1 : Int32) (x2 : Int32) : Option (Int32) :=
  b_X11_moneyOn_5 M x1 x2 (0 : Int32) (0 : Int32)
set_option maxRecDepth 20000 in
set_option maxHeartbeats 2000000 in
theorem w_X11_moneyOn_0 {x : xC} (C : CtM x RX11 cX11_moneyOn 5 ({ frames := 2, cells := 0, slots := 0, locals := 44 } : Room)) (M : xM) (x1 : Int32) (x2 : Int32)  (o : Int32) (h : b_X11_moneyOn_0 M x1 x2 = some o) (hr : (x_me x).sig.returnType = some .int) (ev : x_rv x = some (.int o)) (eM : x_M x = M) : J x M 0 [(0, .ref (x_ad x 0)), (1, .int x1), (2, .int x2)] [] := by
  unfold b_X11_moneyOn_0 at h
  refine r_iconst (v := 0) C.1 dX11_moneyOn_0 rfl ?_
  refine r_istore_n C.1 [(3, .int (0 : Int32)), (0, .ref (x_ad x 0)), (1, .int x1), (2, .int x2)] dX11_moneyOn_1 rfl (by decide) rfl rfl ?_
  refine r_iconst (v := 0) C.1 dX11_moneyOn_2 rfl ?_
  refine r_istore C.1 [(4, .int (0 : Int32)), (3, .int (0 : Int32)), (0, .ref (x_ad x 0)), (1, .int x1), (2, .int x2)] dX11_moneyOn_3 (by decide) rfl rfl ?_
  exact r_sub [2, 3, 4, 1, 0] rfl (w_X11_moneyOn_5 C M x1 x2 (0 : Int32) (0 : Int32) _ h hr ev eM)
def f_X11_moneyOn (M : xM) (x1 : Int32) (x2 : Int32) : Option (Int32) := b_X11_moneyOn_0 M x1 x2
set_option maxRecDepth 20000 in
theorem m_X11_moneyOn (l : Launch) (D : va_G) (ad : Nat → Nat) (M : xM) (x1 : Int32) (x2 : Int32)  {o : Int32} (h : f_X11_moneyOn M x1 x2 = some o) : xMetM l yX11_moneyOn cX11_moneyOn 5 (some .int) ({ frames := 2, cells := 0, slots := 0, locals := 44 } : Room) [.ref (ad 0), .int x1, .int x2] D ad M (some (.int o)) M := by
  refine xMetM_of (own := RX11) (by decide) rfl (Nat.le_of_ble_eq_true rfl) ?_
  intro x C e1 e2 e3 ev eM hr
  subst e1; subst e2; subst e3
  refine r_sub (L := [(0, .ref (x_ad x 0)), (1, .int x1), (2, .int x2)]) (L' := [(0, .ref (x_ad x 0)), (1, .int x1), (2, .int x2)]) [0, 1, 2] rfl ?_
  exact w_X11_moneyOn_0 C M x1 x2 _ h hr ev eM

def b_X11_outOn_100 (M : xM) (x1 : Int32) (x2 : Int32) (x4 : Int32) (s0 : Int32) (s1 : Int32) : Option ((Int32 × Int32) ⊕ (Int32)) :=
  lt (s1 + s0) (fun y_1 => lt (x4 + (1 : Int32)) (fun y_2 => some (.inl (y_1, y_2))))
set_option maxRecDepth 20000 in
set_option maxHeartbeats 2000000 in
theorem w_X11_outOn_100 {x : xC} (C : CtM x RX11 cX11_outOn 6 ({ frames := 1, cells := 0, slots := 0, locals := 22 } : Room)) (M : xM) (x1 : Int32) (x2 : Int32) (x4 : Int32) (s0 : Int32) (s1 : Int32)  (o : (Int32 × Int32) ⊕ (Int32)) (h : b_X11_outOn_100 M x1 x2 x4 s0 s1 = some o) (kh : ∀ s : Int32 × Int32, o = .inl s → J x M 5 [(0, .ref (x_ad x 0)), (1, .int x1), (2, .int x2), (3, .int s.1), (4, .int s.2)] []) (ke_0 : ∀ v : Int32, o = .inr v → J x M 108 [(3, .int v)] []) : J x M 100 [(0, .ref (x_ad x 0)), (1, .int x1), (2, .int x2), (4, .int x4)] [.int s0, .int s1] := by
  unfold b_X11_outOn_100 at h
  refine r_iadd C.1 dX11_outOn_100 ?_
  obtain ⟨y_1, ey_1, h⟩ := lt_E h
  refine r_istore_n C.1 [(3, .int y_1), (0, .ref (x_ad x 0)), (1, .int x1), (2, .int x2), (4, .int x4)] dX11_outOn_101 rfl (by decide) ey_1 rfl ?_
  obtain ⟨y_2, ey_2, h⟩ := lt_E h
  refine r_iinc C.1 4 [(4, .int y_2), (3, .int y_1), (0, .ref (x_ad x 0)), (1, .int x1), (2, .int x2)] dX11_outOn_102 rfl ey_2 (by decide) rfl ?_
  refine r_goto C.1 5 dX11_outOn_105 (by decide) ?_
  exact r_sub [2, 3, 4, 1, 0] rfl (kh _ (Option.some.inj h).symm)

def b_X11_outOn_99 (M : xM) (x1 : Int32) (x2 : Int32) (x4 : Int32) (s0 : Int32) : Option ((Int32 × Int32) ⊕ (Int32)) :=
  b_X11_outOn_100 M x1 x2 x4 (0 : Int32) s0
set_option maxRecDepth 20000 in
set_option maxHeartbeats 2000000 in
theorem w_X11_outOn_99 {x : xC} (C : CtM x RX11 cX11_outOn 6 ({ frames := 1, cells := 0, slots := 0, locals := 22 } : Room)) (M : xM) (x1 : Int32) (x2 : Int32) (x4 : Int32) (s0 : Int32)  (o : (Int32 × Int32) ⊕ (Int32)) (h : b_X11_outOn_99 M x1 x2 x4 s0 = some o) (kh : ∀ s : Int32 × Int32, o = .inl s → J x M 5 [(0, .ref (x_ad x 0)), (1, .int x1), (2, .int x2), (3, .int s.1), (4, .int s.2)] []) (ke_0 : ∀ v : Int32, o = .inr v → J x M 108 [(3, .int v)] []) : J x M 99 [(0, .ref (x_ad x 0)), (1, .int x1), (2, .int x2), (4, .int x4)] [.int s0] := by
  unfold b_X11_outOn_99 at h
  refine r_iconst (v := 0) C.1 dX11_outOn_99 rfl ?_
  exact r_sub [0, 1, 2, 3] rfl (w_X11_outOn_100 C M x1 x2 x4 (0 : Int32) s0 _ h kh ke_0)

def b_X11_outOn_72 (M : xM) (x1 : Int32) (x2 : Int32) (x4 : Int32) (x5 : Int32) (s0 : Int32) : Option ((Int32 × Int32) ⊕ (Int32)) :=
  if x5 = 0 then b_X11_outOn_99 M x1 x2 x4 s0 else bd (f_X11_entryOf M x4 (0 : Int32)) (fun r_2 => if r_2 = (3 : Int32) then bd (f_X11_entryOf M x4 (3 : Int32)) (fun r_5 => b_X11_outOn_100 M x1 x2 x4 (-r_5) s0) else b_X11_outOn_99 M x1 x2 x4 s0)
set_option maxRecDepth 20000 in
set_option maxHeartbeats 2000000 in
theorem w_X11_outOn_72 {x : xC} (C : CtM x RX11 cX11_outOn 6 ({ frames := 1, cells := 0, slots := 0, locals := 22 } : Room)) (M : xM) (x1 : Int32) (x2 : Int32) (x4 : Int32) (x5 : Int32) (s0 : Int32)  (o : (Int32 × Int32) ⊕ (Int32)) (h : b_X11_outOn_72 M x1 x2 x4 x5 s0 = some o) (kh : ∀ s : Int32 × Int32, o = .inl s → J x M 5 [(0, .ref (x_ad x 0)), (1, .int x1), (2, .int x2), (3, .int s.1), (4, .int s.2)] []) (ke_0 : ∀ v : Int32, o = .inr v → J x M 108 [(3, .int v)] []) : J x M 72 [(0, .ref (x_ad x 0)), (1, .int x1), (2, .int x2), (4, .int x4), (5, .int x5)] [.int s0] := by
  unfold b_X11_outOn_72 at h
  refine r_iload C.1 4 dX11_outOn_72 rfl ?_
  refine r_if_eq C.1 99 dX11_outOn_74 (by decide) (fun c_1 => ?_) (fun c_1 => ?_)
  · replace h := ite_T c_1 h
    exact r_sub [0, 1, 2, 3] rfl (w_X11_outOn_99 C M x1 x2 x4 s0 _ h kh ke_0)
  · replace h := ite_F c_1 h
    refine r_aload_n C.1 0 dX11_outOn_77 rfl rfl ?_
    refine r_iload C.1 3 dX11_outOn_78 rfl ?_
    refine r_iconst (v := 0) C.1 dX11_outOn_80 rfl ?_
    obtain ⟨r_2, hc_3, h⟩ := bd_E h
    refine cl_X11_173 C ⟨Nat.le_of_ble_eq_true rfl, Nat.le_of_ble_eq_true rfl⟩ (m_X11_entryOf _ _ _ M x4 (0 : Int32) hc_3) (Nat.le_of_ble_eq_true rfl) dX11_outOn_81 ?_
    refine r_iconst (v := 3) C.1 dX11_outOn_84 rfl ?_
    refine r_icmp_ne C.1 99 dX11_outOn_85 (by decide) (fun c_4 => ?_) (fun c_4 => ?_)
    · replace h := ite_F c_4 h
      exact r_sub [0, 1, 2, 3] rfl (w_X11_outOn_99 C M x1 x2 x4 s0 _ h kh ke_0)
    · replace h := ite_T c_4 h
      refine r_aload_n C.1 0 dX11_outOn_88 rfl rfl ?_
      refine r_iload C.1 3 dX11_outOn_89 rfl ?_
      refine r_iconst (v := 3) C.1 dX11_outOn_91 rfl ?_
      obtain ⟨r_5, hc_6, h⟩ := bd_E h
      refine cl_X11_173 C ⟨Nat.le_of_ble_eq_true rfl, Nat.le_of_ble_eq_true rfl⟩ (m_X11_entryOf _ _ _ M x4 (3 : Int32) hc_6) (Nat.le_of_ble_eq_true rfl) dX11_outOn_92 ?_
      refine r_ineg C.1 dX11_outOn_95 ?_
      refine r_goto C.1 100 dX11_outOn_96 (by decide) ?_
      exact r_sub [0, 1, 2, 3] rfl (w_X11_outOn_100 C M x1 x2 x4 (-r_5) s0 _ h kh ke_0)

def b_X11_outOn_43 (M : xM) (x1 : Int32) (x2 : Int32) (x3 : Int32) (x4 : Int32) (s0 : Int32) : Option ((Int32 × Int32) ⊕ (Int32)) :=
  if s0 = 0 then b_X11_outOn_72 M x1 x2 x4 s0 x3 else bd (f_X11_entryOf M x4 (0 : Int32)) (fun r_2 => if r_2 = (2 : Int32) then bd (f_X11_entryOf M x4 (3 : Int32)) (fun r_5 => b_X11_outOn_100 M x1 x2 x4 r_5 x3) else b_X11_outOn_72 M x1 x2 x4 s0 x3)
set_option maxRecDepth 20000 in
set_option maxHeartbeats 2000000 in
theorem w_X11_outOn_43 {x : xC} (C : CtM x RX11 cX11_outOn 6 ({ frames := 1, cells := 0, slots := 0, locals := 22 } : Room)) (M : xM) (x1 : Int32) (x2 : Int32) (x3 : Int32) (x4 : Int32) (s0 : Int32)  (o : (Int32 × Int32) ⊕ (Int32)) (h : b_X11_outOn_43 M x1 x2 x3 x4 s0 = some o) (kh : ∀ s : Int32 × Int32, o = .inl s → J x M 5 [(0, .ref (x_ad x 0)), (1, .int x1), (2, .int x2), (3, .int s.1), (4, .int s.2)] []) (ke_0 : ∀ v : Int32, o = .inr v → J x M 108 [(3, .int v)] []) : J x M 43 [(0, .ref (x_ad x 0)), (1, .int x1), (2, .int x2), (3, .int x3), (4, .int x4)] [.int s0] := by
  unfold b_X11_outOn_43 at h
  refine r_istore C.1 [(5, .int s0), (0, .ref (x_ad x 0)), (1, .int x1), (2, .int x2), (3, .int x3), (4, .int x4)] dX11_outOn_43 (by decide) rfl rfl ?_
  refine r_iload_n C.1 4 dX11_outOn_45 rfl rfl ?_
  refine r_iload C.1 0 dX11_outOn_46 rfl ?_
  refine r_if_eq C.1 72 dX11_outOn_48 (by decide) (fun c_1 => ?_) (fun c_1 => ?_)
  · replace h := ite_T c_1 h
    exact r_sub [1, 2, 3, 5, 0] rfl (w_X11_outOn_72 C M x1 x2 x4 s0 x3 _ h kh ke_0)
  · replace h := ite_F c_1 h
    refine r_aload_n C.1 1 dX11_outOn_51 rfl rfl ?_
    refine r_iload C.1 5 dX11_outOn_52 rfl ?_
    refine r_iconst (v := 0) C.1 dX11_outOn_54 rfl ?_
    obtain ⟨r_2, hc_3, h⟩ := bd_E h
    refine cl_X11_173 C ⟨Nat.le_of_ble_eq_true rfl, Nat.le_of_ble_eq_true rfl⟩ (m_X11_entryOf _ _ _ M x4 (0 : Int32) hc_3) (Nat.le_of_ble_eq_true rfl) dX11_outOn_55 ?_
    refine r_iconst (v := 2) C.1 dX11_outOn_58 rfl ?_
    refine r_icmp_ne C.1 72 dX11_outOn_59 (by decide) (fun c_4 => ?_) (fun c_4 => ?_)
    · replace h := ite_F c_4 h
      exact r_sub [1, 2, 3, 5, 0] rfl (w_X11_outOn_72 C M x1 x2 x4 s0 x3 _ h kh ke_0)
    · replace h := ite_T c_4 h
      refine r_aload_n C.1 1 dX11_outOn_62 rfl rfl ?_
      refine r_iload C.1 5 dX11_outOn_63 rfl ?_
      refine r_iconst (v := 3) C.1 dX11_outOn_65 rfl ?_
      obtain ⟨r_5, hc_6, h⟩ := bd_E h
      refine cl_X11_173 C ⟨Nat.le_of_ble_eq_true rfl, Nat.le_of_ble_eq_true rfl⟩ (m_X11_entryOf _ _ _ M x4 (3 : Int32) hc_6) (Nat.le_of_ble_eq_true rfl) dX11_outOn_66 ?_
      refine r_goto C.1 100 dX11_outOn_69 (by decide) ?_
      exact r_sub [1, 2, 3, 5] rfl (w_X11_outOn_100 C M x1 x2 x4 r_5 x3 _ h kh ke_0)

def b_X11_outOn_42 (M : xM) (x1 : Int32) (x2 : Int32) (x3 : Int32) (x4 : Int32) : Option ((Int32 × Int32) ⊕ (Int32)) :=
  b_X11_outOn_43 M x1 x2 x3 x4 (0 : Int32)
set_option maxRecDepth 20000 in
set_option maxHeartbeats 2000000 in
theorem w_X11_outOn_42 {x : xC} (C : CtM x RX11 cX11_outOn 6 ({ frames := 1, cells := 0, slots := 0, locals := 22 } : Room)) (M : xM) (x1 : Int32) (x2 : Int32) (x3 : Int32) (x4 : Int32)  (o : (Int32 × Int32) ⊕ (Int32)) (h : b_X11_outOn_42 M x1 x2 x3 x4 = some o) (kh : ∀ s : Int32 × Int32, o = .inl s → J x M 5 [(0, .ref (x_ad x 0)), (1, .int x1), (2, .int x2), (3, .int s.1), (4, .int s.2)] []) (ke_0 : ∀ v : Int32, o = .inr v → J x M 108 [(3, .int v)] []) : J x M 42 [(0, .ref (x_ad x 0)), (1, .int x1), (2, .int x2), (3, .int x3), (4, .int x4)] [] := by
  unfold b_X11_outOn_42 at h
  refine r_iconst (v := 0) C.1 dX11_outOn_42 rfl ?_
  exact r_sub [0, 1, 2, 3, 4] rfl (w_X11_outOn_43 C M x1 x2 x3 x4 (0 : Int32) _ h kh ke_0)

def bl_X11_outOn_5 (M : xM) (x1 : Int32) (x2 : Int32) (x3 : Int32) (x4 : Int32) : Option ((Int32 × Int32) ⊕ (Int32)) :=
  gd (2 : Int32) 495 (if (M 4 (2 : Int32).toNatClampNeg) ≤ x4 then some (.inr x3) else bd (f_X11_entryOf M x4 (1 : Int32)) (fun r_3 => if r_3 = x1 then bd (f_X11_entryOf M x4 (2 : Int32)) (fun r_6 => if x2 < r_6 then b_X11_outOn_42 M x1 x2 x3 x4 else b_X11_outOn_43 M x1 x2 x3 x4 (1 : Int32)) else b_X11_outOn_42 M x1 x2 x3 x4))
set_option maxRecDepth 20000 in
set_option maxHeartbeats 2000000 in
theorem wl_X11_outOn_5 {x : xC} (C : CtM x RX11 cX11_outOn 6 ({ frames := 1, cells := 0, slots := 0, locals := 22 } : Room)) (M : xM) (x1 : Int32) (x2 : Int32) (x3 : Int32) (x4 : Int32)  (o : (Int32 × Int32) ⊕ (Int32)) (h : bl_X11_outOn_5 M x1 x2 x3 x4 = some o) (kh : ∀ s : Int32 × Int32, o = .inl s → J x M 5 [(0, .ref (x_ad x 0)), (1, .int x1), (2, .int x2), (3, .int s.1), (4, .int s.2)] []) (ke_0 : ∀ v : Int32, o = .inr v → J x M 108 [(3, .int v)] []) : J x M 5 [(0, .ref (x_ad x 0)), (1, .int x1), (2, .int x2), (3, .int x3), (4, .int x4)] [] := by
  unfold bl_X11_outOn_5 at h
  refine r_iload C.1 4 dX11_outOn_5 rfl ?_
  refine r_aload_n C.1 0 dX11_outOn_7 rfl rfl ?_
  refine gf_X11_19 C dX11_outOn_8 ?_
  refine r_iconst (v := 2) C.1 dX11_outOn_11 rfl ?_
  obtain ⟨q_1, h⟩ := gd_E h
  refine r_iald C.1 (mK C (by decide)) (mS C (shm_4)) 0 (mT0 C) q_1 dX11_outOn_12 ?_
  refine r_icmp_ge C.1 108 dX11_outOn_13 (by decide) (fun c_2 => ?_) (fun c_2 => ?_)
  · replace h := ite_T c_2 h
    exact r_sub [3] rfl (ke_0 _ (Option.some.inj h).symm)
  · replace h := ite_F c_2 h
    refine r_aload_n C.1 0 dX11_outOn_16 rfl rfl ?_
    refine r_iload C.1 4 dX11_outOn_17 rfl ?_
    refine r_iconst (v := 1) C.1 dX11_outOn_19 rfl ?_
    obtain ⟨r_3, hc_4, h⟩ := bd_E h
    refine cl_X11_173 C ⟨Nat.le_of_ble_eq_true rfl, Nat.le_of_ble_eq_true rfl⟩ (m_X11_entryOf _ _ _ M x4 (1 : Int32) hc_4) (Nat.le_of_ble_eq_true rfl) dX11_outOn_20 ?_
    refine r_iload_n C.1 1 dX11_outOn_23 rfl rfl ?_
    refine r_icmp_ne C.1 42 dX11_outOn_24 (by decide) (fun c_5 => ?_) (fun c_5 => ?_)
    · replace h := ite_F c_5 h
      exact r_sub [0, 1, 2, 3, 4] rfl (w_X11_outOn_42 C M x1 x2 x3 x4 _ h kh ke_0)
    · replace h := ite_T c_5 h
      refine r_aload_n C.1 0 dX11_outOn_27 rfl rfl ?_
      refine r_iload C.1 4 dX11_outOn_28 rfl ?_
      refine r_iconst (v := 2) C.1 dX11_outOn_30 rfl ?_
      obtain ⟨r_6, hc_7, h⟩ := bd_E h
      refine cl_X11_173 C ⟨Nat.le_of_ble_eq_true rfl, Nat.le_of_ble_eq_true rfl⟩ (m_X11_entryOf _ _ _ M x4 (2 : Int32) hc_7) (Nat.le_of_ble_eq_true rfl) dX11_outOn_31 ?_
      refine r_iload_n C.1 2 dX11_outOn_34 rfl rfl ?_
      refine r_icmp_gt C.1 42 dX11_outOn_35 (by decide) (fun c_8 => ?_) (fun c_8 => ?_)
      · replace h := ite_T c_8 h
        exact r_sub [0, 1, 2, 3, 4] rfl (w_X11_outOn_42 C M x1 x2 x3 x4 _ h kh ke_0)
      · replace h := ite_F c_8 h
        refine r_iconst (v := 1) C.1 dX11_outOn_38 rfl ?_
        refine r_goto C.1 43 dX11_outOn_39 (by decide) ?_
        exact r_sub [0, 1, 2, 3, 4] rfl (w_X11_outOn_43 C M x1 x2 x3 x4 (1 : Int32) _ h kh ke_0)

def b_X11_outOn_5 (M : xM) (x1 : Int32) (x2 : Int32) (x3 : Int32) (x4 : Int32) : Option (Int32) :=
  bd (loopN (fun s : Int32 × Int32 => bl_X11_outOn_5 M x1 x2 s.1 s.2) BG (x3, x4)) (fun v => some v)
set_option maxRecDepth 20000 in
set_option maxHeartbeats 2000000 in
theorem w_X11_outOn_5 {x : xC} (C : CtM x RX11 cX11_outOn 6 ({ frames := 1, cells := 0, slots := 0, locals := 22 } : Room)) (M : xM) (x1 : Int32) (x2 : Int32) (x3 : Int32) (x4 : Int32)  (o : Int32) (h : b_X11_outOn_5 M x1 x2 x3 x4 = some o) (hr : (x_me x).sig.returnType = some .int) (ev : x_rv x = some (.int o)) (eM : x_M x = M) : J x M 5 [(0, .ref (x_ad x 0)), (1, .int x1), (2, .int x2), (3, .int x3), (4, .int x4)] [] := by
  unfold b_X11_outOn_5 at h
  obtain ⟨r_0, hr_0, h⟩ := bd_E h
  refine loopN_ind (JJ := fun s => J x M 5 [(0, .ref (x_ad x 0)), (1, .int x1), (2, .int x2), (3, .int s.1), (4, .int s.2)] []) (KX := fun q => q = r_0) ?_ BG (x3, x4) r_0 hr_0 rfl
  intro s o1 hb kk1 kk2
  refine wl_X11_outOn_5 C M x1 x2 s.1 s.2 _ hb kk1 ?_
  · intro v e0
    have e1 := kk2 _ e0
    subst e1
    refine r_iload_n C.1 0 dX11_outOn_108 rfl rfl ?_
    obtain rfl := Option.some.inj h
    exact r_iret C.1 hr ev eM dX11_outOn_109

def b_X11_outOn_0 (M : xM) (x1 : Int32) (x2 : Int32) : Option (Int32) :=
  b_X11_outOn_5 M x1 x2 (0 : Int32) (0 : Int32)
set_option maxRecDepth 20000 in
set_option maxHeartbeats 2000000 in
theorem w_X11_outOn_0 {x : xC} (C : CtM x RX11 cX11_outOn 6 ({ frames := 1, cells := 0, slots := 0, locals := 22 } : Room)) (M : xM) (x1 : Int32) (x2 : Int32)  (o : Int32) (h : b_X11_outOn_0 M x1 x2 = some o) (hr : (x_me x).sig.returnType = some .int) (ev : x_rv x = some (.int o)) (eM : x_M x = M) : J x M 0 [(0, .ref (x_ad x 0)), (1, .int x1), (2, .int x2)] [] := by
  unfold b_X11_outOn_0 at h
  refine r_iconst (v := 0) C.1 dX11_outOn_0 rfl ?_
  refine r_istore_n C.1 [(3, .int (0 : Int32)), (0, .ref (x_ad x 0)), (1, .int x1), (2, .int x2)] dX11_outOn_1 rfl (by decide) rfl rfl ?_
  refine r_iconst (v := 0) C.1 dX11_outOn_2 rfl ?_
  refine r_istore C.1 [(4, .int (0 : Int32)), (3, .int (0 : Int32)), (0, .ref (x_ad x 0)), (1, .int x1), (2, .int x2)] dX11_outOn_3 (by decide) rfl rfl ?_
  exact r_sub [2, 3, 4, 1, 0] rfl (w_X11_outOn_5 C M x1 x2 (0 : Int32) (0 : Int32) _ h hr ev eM)
def f_X11_outOn (M : xM) (x1 : Int32) (x2 : Int32) : Option (Int32) := b_X11_outOn_0 M x1 x2
set_option maxRecDepth 20000 in
theorem m_X11_outOn (l : Launch) (D : va_G) (ad : Nat → Nat) (M : xM) (x1 : Int32) (x2 : Int32)  {o : Int32} (h : f_X11_outOn M x1 x2 = some o) : xMetM l yX11_outOn cX11_outOn 6 (some .int) ({ frames := 1, cells := 0, slots := 0, locals := 22 } : Room) [.ref (ad 0), .int x1, .int x2] D ad M (some (.int o)) M := by
  refine xMetM_of (own := RX11) (by decide) rfl (Nat.le_of_ble_eq_true rfl) ?_
  intro x C e1 e2 e3 ev eM hr
  subst e1; subst e2; subst e3
  refine r_sub (L := [(0, .ref (x_ad x 0)), (1, .int x1), (2, .int x2)]) (L' := [(0, .ref (x_ad x 0)), (1, .int x1), (2, .int x2)]) [0, 1, 2] rfl ?_
  exact w_X11_outOn_0 C M x1 x2 _ h hr ev eM

def bl_X11_laysMoney_120 (M : xM) (x2 : Int32) : Option ((xM × Int32) ⊕ (xM)) :=
  if (3960 : Int32) ≤ x2 then some (.inr M) else gd x2 3960 (gd (x2 - (1 : Int32)) 3960 (gd x2 3960 (lt (uM M 9 x2.toNatClampNeg ((M 9 x2.toNatClampNeg) + (M 9 (x2 - (1 : Int32)).toNatClampNeg))) (fun M_5 => lt (x2 + (1 : Int32)) (fun y_6 => some (.inl (M_5, y_6)))))))
set_option maxRecDepth 20000 in
set_option maxHeartbeats 2000000 in
theorem wl_X11_laysMoney_120 {x : xC} (C : CtM x RX11 cX11_laysMoney 3 ({ frames := 6, cells := 0, slots := 0, locals := 133 } : Room)) (M : xM) (x2 : Int32)  (o : (xM × Int32) ⊕ (xM)) (h : bl_X11_laysMoney_120 M x2 = some o) (kh : ∀ s : xM × Int32, o = .inl s → J x s.1 120 [(0, .ref (x_ad x 0)), (2, .int s.2)] []) (ke_0 : ∀ v : xM, o = .inr v → J x v 150 [] []) : J x M 120 [(0, .ref (x_ad x 0)), (2, .int x2)] [] := by
  unfold bl_X11_laysMoney_120 at h
  refine r_iload_n C.1 1 dX11_laysMoney_120 rfl rfl ?_
  refine r_sipush (v := 3960) C.1 dX11_laysMoney_121 (by decide) ?_
  refine r_icmp_ge C.1 150 dX11_laysMoney_124 (by decide) (fun c_1 => ?_) (fun c_1 => ?_)
  · replace h := ite_T c_1 h
    exact r_sub [] rfl (ke_0 _ (Option.some.inj h).symm)
  · replace h := ite_F c_1 h
    refine r_aload_n C.1 0 dX11_laysMoney_127 rfl rfl ?_
    refine gf_X11_34 C dX11_laysMoney_128 ?_
    refine r_iload_n C.1 1 dX11_laysMoney_131 rfl rfl ?_
    refine r_dup2 C.1 rfl rfl dX11_laysMoney_132 ?_
    obtain ⟨q_2, h⟩ := gd_E h
    refine r_iald C.1 (mK C (by decide)) (mS C (shm_9)) 0 (mT0 C) q_2 dX11_laysMoney_133 ?_
    refine r_aload_n C.1 0 dX11_laysMoney_134 rfl rfl ?_
    refine gf_X11_34 C dX11_laysMoney_135 ?_
    refine r_iload_n C.1 1 dX11_laysMoney_138 rfl rfl ?_
    refine r_iconst (v := 1) C.1 dX11_laysMoney_139 rfl ?_
    refine r_isub C.1 dX11_laysMoney_140 ?_
    obtain ⟨q_3, h⟩ := gd_E h
    refine r_iald C.1 (mK C (by decide)) (mS C (shm_9)) 0 (mT0 C) q_3 dX11_laysMoney_141 ?_
    refine r_iadd C.1 dX11_laysMoney_142 ?_
    obtain ⟨q_4, h⟩ := gd_E h
    obtain ⟨M_5, eM_5, h⟩ := lt_E h
    refine r_iast C.1 (mK C (by decide)) (mS C (shm_9)) 0 (mT0 C) q_4 eM_5 dX11_laysMoney_143 ?_
    obtain ⟨y_6, ey_6, h⟩ := lt_E h
    refine r_iinc C.1 1 [(2, .int y_6), (0, .ref (x_ad x 0))] dX11_laysMoney_144 rfl ey_6 (by decide) rfl ?_
    refine r_goto C.1 120 dX11_laysMoney_147 (by decide) ?_
    exact r_sub [1, 0] rfl (kh _ (Option.some.inj h).symm)

def b_X11_laysMoney_120 (M : xM) (x2 : Int32) : Option (xM) :=
  bd (loopN (fun s : xM × Int32 => bl_X11_laysMoney_120 s.1 s.2) BG (M, x2)) (fun v => some v)
set_option maxRecDepth 20000 in
set_option maxHeartbeats 2000000 in
theorem w_X11_laysMoney_120 {x : xC} (C : CtM x RX11 cX11_laysMoney 3 ({ frames := 6, cells := 0, slots := 0, locals := 133 } : Room)) (M : xM) (x2 : Int32)  (o : xM) (h : b_X11_laysMoney_120 M x2 = some o) (hr : (x_me x).sig.returnType = none) (ev : x_rv x = none) (eM : x_M x = o) : J x M 120 [(0, .ref (x_ad x 0)), (2, .int x2)] [] := by
  unfold b_X11_laysMoney_120 at h
  obtain ⟨r_0, hr_0, h⟩ := bd_E h
  refine loopN_ind (JJ := fun s => J x s.1 120 [(0, .ref (x_ad x 0)), (2, .int s.2)] []) (KX := fun q => q = r_0) ?_ BG (M, x2) r_0 hr_0 rfl
  intro s o1 hb kk1 kk2
  refine wl_X11_laysMoney_120 C s.1 s.2 _ hb kk1 ?_
  · intro v e0
    have e1 := kk2 _ e0
    subst e1
    obtain rfl := Option.some.inj h
    exact r_vret C.1 hr ev eM dX11_laysMoney_150

def bl_X11_laysMoney_79 (M : xM) (x1 : Int32) (x2 : Int32) : Option ((xM × Int32) ⊕ (xM)) :=
  if (9 : Int32) ≤ x2 then some (.inr M) else gd (((360 : Int32) + ((360 : Int32) * x2)) + (360 : Int32)) 3960 (bd (f_X11_brought M x1 x2) (fun r_3 => gd (((360 : Int32) + ((360 : Int32) * x2)) + (360 : Int32)) 3960 (lt (uM M 9 (((360 : Int32) + ((360 : Int32) * x2)) + (360 : Int32)).toNatClampNeg ((M 9 (((360 : Int32) + ((360 : Int32) * x2)) + (360 : Int32)).toNatClampNeg) + r_3)) (fun M_6 => lt (x2 + (1 : Int32)) (fun y_7 => some (.inl (M_6, y_7)))))))
set_option maxRecDepth 20000 in
set_option maxHeartbeats 2000000 in
theorem wl_X11_laysMoney_79 {x : xC} (C : CtM x RX11 cX11_laysMoney 3 ({ frames := 6, cells := 0, slots := 0, locals := 133 } : Room)) (M : xM) (x1 : Int32) (x2 : Int32)  (o : (xM × Int32) ⊕ (xM)) (h : bl_X11_laysMoney_79 M x1 x2 = some o) (kh : ∀ s : xM × Int32, o = .inl s → J x s.1 79 [(0, .ref (x_ad x 0)), (1, .int x1), (2, .int s.2)] []) (ke_0 : ∀ v : xM, o = .inr v → J x v 118 [(0, .ref (x_ad x 0))] []) : J x M 79 [(0, .ref (x_ad x 0)), (1, .int x1), (2, .int x2)] [] := by
  unfold bl_X11_laysMoney_79 at h
  refine r_iload_n C.1 2 dX11_laysMoney_79 rfl rfl ?_
  refine r_bipush (v := 9) C.1 dX11_laysMoney_80 (by decide) ?_
  refine r_icmp_ge C.1 118 dX11_laysMoney_82 (by decide) (fun c_1 => ?_) (fun c_1 => ?_)
  · replace h := ite_T c_1 h
    exact r_sub [0] rfl (ke_0 _ (Option.some.inj h).symm)
  · replace h := ite_F c_1 h
    refine r_aload_n C.1 0 dX11_laysMoney_85 rfl rfl ?_
    refine gf_X11_34 C dX11_laysMoney_86 ?_
    refine r_sipush (v := 360) C.1 dX11_laysMoney_89 (by decide) ?_
    refine r_sipush (v := 360) C.1 dX11_laysMoney_92 (by decide) ?_
    refine r_iload_n C.1 2 dX11_laysMoney_95 rfl rfl ?_
    refine r_imul C.1 dX11_laysMoney_96 ?_
    refine r_iadd C.1 dX11_laysMoney_97 ?_
    refine r_sipush (v := 360) C.1 dX11_laysMoney_98 (by decide) ?_
    refine r_iadd C.1 dX11_laysMoney_101 ?_
    refine r_dup2 C.1 rfl rfl dX11_laysMoney_102 ?_
    obtain ⟨q_2, h⟩ := gd_E h
    refine r_iald C.1 (mK C (by decide)) (mS C (shm_9)) 0 (mT0 C) q_2 dX11_laysMoney_103 ?_
    refine r_aload_n C.1 0 dX11_laysMoney_104 rfl rfl ?_
    refine r_iload_n C.1 1 dX11_laysMoney_105 rfl rfl ?_
    refine r_iload_n C.1 2 dX11_laysMoney_106 rfl rfl ?_
    obtain ⟨r_3, hc_4, h⟩ := bd_E h
    refine cl_X11_218 C ⟨Nat.le_of_ble_eq_true rfl, Nat.le_of_ble_eq_true rfl⟩ (m_X11_brought _ _ _ M x1 x2 hc_4) (Nat.le_of_ble_eq_true rfl) dX11_laysMoney_107 ?_
    refine r_iadd C.1 dX11_laysMoney_110 ?_
    obtain ⟨q_5, h⟩ := gd_E h
    obtain ⟨M_6, eM_6, h⟩ := lt_E h
    refine r_iast C.1 (mK C (by decide)) (mS C (shm_9)) 0 (mT0 C) q_5 eM_6 dX11_laysMoney_111 ?_
    obtain ⟨y_7, ey_7, h⟩ := lt_E h
    refine r_iinc C.1 2 [(2, .int y_7), (0, .ref (x_ad x 0)), (1, .int x1)] dX11_laysMoney_112 rfl ey_7 (by decide) rfl ?_
    refine r_goto C.1 79 dX11_laysMoney_115 (by decide) ?_
    exact r_sub [1, 2, 0] rfl (kh _ (Option.some.inj h).symm)

def b_X11_laysMoney_79 (M : xM) (x1 : Int32) (x2 : Int32) : Option (xM) :=
  bd (loopN (fun s : xM × Int32 => bl_X11_laysMoney_79 s.1 x1 s.2) BG (M, x2)) (fun v => b_X11_laysMoney_120 v (1 : Int32))
set_option maxRecDepth 20000 in
set_option maxHeartbeats 2000000 in
theorem w_X11_laysMoney_79 {x : xC} (C : CtM x RX11 cX11_laysMoney 3 ({ frames := 6, cells := 0, slots := 0, locals := 133 } : Room)) (M : xM) (x1 : Int32) (x2 : Int32)  (o : xM) (h : b_X11_laysMoney_79 M x1 x2 = some o) (hr : (x_me x).sig.returnType = none) (ev : x_rv x = none) (eM : x_M x = o) : J x M 79 [(0, .ref (x_ad x 0)), (1, .int x1), (2, .int x2)] [] := by
  unfold b_X11_laysMoney_79 at h
  obtain ⟨r_0, hr_0, h⟩ := bd_E h
  refine loopN_ind (JJ := fun s => J x s.1 79 [(0, .ref (x_ad x 0)), (1, .int x1), (2, .int s.2)] []) (KX := fun q => q = r_0) ?_ BG (M, x2) r_0 hr_0 rfl
  intro s o1 hb kk1 kk2
  refine wl_X11_laysMoney_79 C s.1 x1 s.2 _ hb kk1 ?_
  · intro v e0
    have e1 := kk2 _ e0
    subst e1
    refine r_iconst (v := 1) C.1 dX11_laysMoney_118 rfl ?_
    refine r_istore_n C.1 [(2, .int (1 : Int32)), (0, .ref (x_ad x 0))] dX11_laysMoney_119 rfl (by decide) rfl rfl ?_
    exact r_sub [1, 0] rfl (w_X11_laysMoney_120 C v (1 : Int32) _ h hr ev eM)

def b_X11_laysMoney_71 (M : xM) (x1 : Int32) (x2 : Int32) : Option ((xM × Int32) ⊕ (xM)) :=
  lt (x2 + (1 : Int32)) (fun y_1 => some (.inl (M, y_1)))
set_option maxRecDepth 20000 in
set_option maxHeartbeats 2000000 in
theorem w_X11_laysMoney_71 {x : xC} (C : CtM x RX11 cX11_laysMoney 3 ({ frames := 6, cells := 0, slots := 0, locals := 133 } : Room)) (M : xM) (x1 : Int32) (x2 : Int32)  (o : (xM × Int32) ⊕ (xM)) (h : b_X11_laysMoney_71 M x1 x2 = some o) (kh : ∀ s : xM × Int32, o = .inl s → J x s.1 28 [(0, .ref (x_ad x 0)), (1, .int x1), (2, .int s.2)] []) (ke_0 : ∀ v : xM, o = .inr v → J x v 77 [(0, .ref (x_ad x 0)), (1, .int x1)] []) : J x M 71 [(0, .ref (x_ad x 0)), (1, .int x1), (2, .int x2)] [] := by
  unfold b_X11_laysMoney_71 at h
  obtain ⟨y_1, ey_1, h⟩ := lt_E h
  refine r_iinc C.1 2 [(2, .int y_1), (0, .ref (x_ad x 0)), (1, .int x1)] dX11_laysMoney_71 rfl ey_1 (by decide) rfl ?_
  refine r_goto C.1 28 dX11_laysMoney_74 (by decide) ?_
  exact r_sub [1, 2, 0] rfl (kh _ (Option.some.inj h).symm)

def bl_X11_laysMoney_28 (M : xM) (x1 : Int32) (x2 : Int32) : Option ((xM × Int32) ⊕ (xM)) :=
  gd (2 : Int32) 495 (if (M 4 (2 : Int32).toNatClampNeg) ≤ x2 then some (.inr M) else bd (f_X11_entryOf M x2 (1 : Int32)) (fun r_3 => if r_3 = x1 then bd (f_X11_entryOf M x2 (2 : Int32)) (fun r_6 => gd ((360 : Int32) + r_6) 3960 (bd (f_X11_worth M x2) (fun r_9 => gd ((360 : Int32) + r_6) 3960 (lt (uM M 9 ((360 : Int32) + r_6).toNatClampNeg ((M 9 ((360 : Int32) + r_6).toNatClampNeg) + r_9)) (fun M_12 => b_X11_laysMoney_71 M_12 x1 x2))))) else b_X11_laysMoney_71 M x1 x2))
set_option maxRecDepth 20000 in
set_option maxHeartbeats 2000000 in
theorem wl_X11_laysMoney_28 {x : xC} (C : CtM x RX11 cX11_laysMoney 3 ({ frames := 6, cells := 0, slots := 0, locals := 133 } : Room)) (M : xM) (x1 : Int32) (x2 : Int32)  (o : (xM × Int32) ⊕ (xM)) (h : bl_X11_laysMoney_28 M x1 x2 = some o) (kh : ∀ s : xM × Int32, o = .inl s → J x s.1 28 [(0, .ref (x_ad x 0)), (1, .int x1), (2, .int s.2)] []) (ke_0 : ∀ v : xM, o = .inr v → J x v 77 [(0, .ref (x_ad x 0)), (1, .int x1)] []) : J x M 28 [(0, .ref (x_ad x 0)), (1, .int x1), (2, .int x2)] [] := by
  unfold bl_X11_laysMoney_28 at h
  refine r_iload_n C.1 2 dX11_laysMoney_28 rfl rfl ?_
  refine r_aload_n C.1 0 dX11_laysMoney_29 rfl rfl ?_
  refine gf_X11_19 C dX11_laysMoney_30 ?_
  refine r_iconst (v := 2) C.1 dX11_laysMoney_33 rfl ?_
  obtain ⟨q_1, h⟩ := gd_E h
  refine r_iald C.1 (mK C (by decide)) (mS C (shm_4)) 0 (mT0 C) q_1 dX11_laysMoney_34 ?_
  refine r_icmp_ge C.1 77 dX11_laysMoney_35 (by decide) (fun c_2 => ?_) (fun c_2 => ?_)
  · replace h := ite_T c_2 h
    exact r_sub [0, 1] rfl (ke_0 _ (Option.some.inj h).symm)
  · replace h := ite_F c_2 h
    refine r_aload_n C.1 0 dX11_laysMoney_38 rfl rfl ?_
    refine r_iload_n C.1 2 dX11_laysMoney_39 rfl rfl ?_
    refine r_iconst (v := 1) C.1 dX11_laysMoney_40 rfl ?_
    obtain ⟨r_3, hc_4, h⟩ := bd_E h
    refine cl_X11_173 C ⟨Nat.le_of_ble_eq_true rfl, Nat.le_of_ble_eq_true rfl⟩ (m_X11_entryOf _ _ _ M x2 (1 : Int32) hc_4) (Nat.le_of_ble_eq_true rfl) dX11_laysMoney_41 ?_
    refine r_iload_n C.1 1 dX11_laysMoney_44 rfl rfl ?_
    refine r_icmp_ne C.1 71 dX11_laysMoney_45 (by decide) (fun c_5 => ?_) (fun c_5 => ?_)
    · replace h := ite_F c_5 h
      exact r_sub [0, 1, 2] rfl (w_X11_laysMoney_71 C M x1 x2 _ h kh ke_0)
    · replace h := ite_T c_5 h
      refine r_aload_n C.1 0 dX11_laysMoney_48 rfl rfl ?_
      refine gf_X11_34 C dX11_laysMoney_49 ?_
      refine r_sipush (v := 360) C.1 dX11_laysMoney_52 (by decide) ?_
      refine r_aload_n C.1 0 dX11_laysMoney_55 rfl rfl ?_
      refine r_iload_n C.1 2 dX11_laysMoney_56 rfl rfl ?_
      refine r_iconst (v := 2) C.1 dX11_laysMoney_57 rfl ?_
      obtain ⟨r_6, hc_7, h⟩ := bd_E h
      refine cl_X11_173 C ⟨Nat.le_of_ble_eq_true rfl, Nat.le_of_ble_eq_true rfl⟩ (m_X11_entryOf _ _ _ M x2 (2 : Int32) hc_7) (Nat.le_of_ble_eq_true rfl) dX11_laysMoney_58 ?_
      refine r_iadd C.1 dX11_laysMoney_61 ?_
      refine r_dup2 C.1 rfl rfl dX11_laysMoney_62 ?_
      obtain ⟨q_8, h⟩ := gd_E h
      refine r_iald C.1 (mK C (by decide)) (mS C (shm_9)) 0 (mT0 C) q_8 dX11_laysMoney_63 ?_
      refine r_aload_n C.1 0 dX11_laysMoney_64 rfl rfl ?_
      refine r_iload_n C.1 2 dX11_laysMoney_65 rfl rfl ?_
      obtain ⟨r_9, hc_10, h⟩ := bd_E h
      refine cl_X11_215 C ⟨Nat.le_of_ble_eq_true rfl, Nat.le_of_ble_eq_true rfl⟩ (m_X11_worth _ _ _ M x2 hc_10) (Nat.le_of_ble_eq_true rfl) dX11_laysMoney_66 ?_
      refine r_iadd C.1 dX11_laysMoney_69 ?_
      obtain ⟨q_11, h⟩ := gd_E h
      obtain ⟨M_12, eM_12, h⟩ := lt_E h
      refine r_iast C.1 (mK C (by decide)) (mS C (shm_9)) 0 (mT0 C) q_11 eM_12 dX11_laysMoney_70 ?_
      exact r_sub [0, 1, 2] rfl (w_X11_laysMoney_71 C M_12 x1 x2 _ h kh ke_0)

def b_X11_laysMoney_28 (M : xM) (x1 : Int32) (x2 : Int32) : Option (xM) :=
  bd (loopN (fun s : xM × Int32 => bl_X11_laysMoney_28 s.1 x1 s.2) BG (M, x2)) (fun v => b_X11_laysMoney_79 v x1 (0 : Int32))
set_option maxRecDepth 20000 in
set_option maxHeartbeats 2000000 in
theorem w_X11_laysMoney_28 {x : xC} (C : CtM x RX11 cX11_laysMoney 3 ({ frames := 6, cells := 0, slots := 0, locals := 133 } : Room)) (M : xM) (x1 : Int32) (x2 : Int32)  (o : xM) (h : b_X11_laysMoney_28 M x1 x2 = some o) (hr : (x_me x).sig.returnType = none) (ev : x_rv x = none) (eM : x_M x = o) : J x M 28 [(0, .ref (x_ad x 0)), (1, .int x1), (2, .int x2)] [] := by
  unfold b_X11_laysMoney_28 at h
  obtain ⟨r_0, hr_0, h⟩ := bd_E h
  refine loopN_ind (JJ := fun s => J x s.1 28 [(0, .ref (x_ad x 0)), (1, .int x1), (2, .int s.2)] []) (KX := fun q => q = r_0) ?_ BG (M, x2) r_0 hr_0 rfl
  intro s o1 hb kk1 kk2
  refine wl_X11_laysMoney_28 C s.1 x1 s.2 _ hb kk1 ?_
  · intro v e0
    have e1 := kk2 _ e0
    subst e1
    refine r_iconst (v := 0) C.1 dX11_laysMoney_77 rfl ?_
    refine r_istore_n C.1 [(2, .int (0 : Int32)), (0, .ref (x_ad x 0)), (1, .int x1)] dX11_laysMoney_78 rfl (by decide) rfl rfl ?_
    exact r_sub [1, 2, 0] rfl (w_X11_laysMoney_79 C v x1 (0 : Int32) _ h hr ev eM)

def bl_X11_laysMoney_6 (M : xM) (x1 : Int32) (x2 : Int32) : Option ((xM × Int32) ⊕ (xM)) :=
  if (3960 : Int32) ≤ x2 then some (.inr M) else gd x2 3960 (lt (uM M 9 x2.toNatClampNeg (0 : Int32)) (fun M_3 => lt (x2 + (1 : Int32)) (fun y_4 => some (.inl (M_3, y_4)))))
set_option maxRecDepth 20000 in
set_option maxHeartbeats 2000000 in
theorem wl_X11_laysMoney_6 {x : xC} (C : CtM x RX11 cX11_laysMoney 3 ({ frames := 6, cells := 0, slots := 0, locals := 133 } : Room)) (M : xM) (x1 : Int32) (x2 : Int32)  (o : (xM × Int32) ⊕ (xM)) (h : bl_X11_laysMoney_6 M x1 x2 = some o) (kh : ∀ s : xM × Int32, o = .inl s → J x s.1 6 [(0, .ref (x_ad x 0)), (1, .int x1), (2, .int s.2)] []) (ke_0 : ∀ v : xM, o = .inr v → J x v 26 [(0, .ref (x_ad x 0)), (1, .int x1)] []) : J x M 6 [(0, .ref (x_ad x 0)), (1, .int x1), (2, .int x2)] [] := by
  unfold bl_X11_laysMoney_6 at h
  refine r_iload_n C.1 2 dX11_laysMoney_6 rfl rfl ?_
  refine r_sipush (v := 3960) C.1 dX11_laysMoney_7 (by decide) ?_
  refine r_icmp_ge C.1 26 dX11_laysMoney_10 (by decide) (fun c_1 => ?_) (fun c_1 => ?_)
  · replace h := ite_T c_1 h
    exact r_sub [0, 1] rfl (ke_0 _ (Option.some.inj h).symm)
  · replace h := ite_F c_1 h
    refine r_aload_n C.1 0 dX11_laysMoney_13 rfl rfl ?_
    refine gf_X11_34 C dX11_laysMoney_14 ?_
    refine r_iload_n C.1 2 dX11_laysMoney_17 rfl rfl ?_
    refine r_iconst (v := 0) C.1 dX11_laysMoney_18 rfl ?_
    obtain ⟨q_2, h⟩ := gd_E h
    obtain ⟨M_3, eM_3, h⟩ := lt_E h
    refine r_iast C.1 (mK C (by decide)) (mS C (shm_9)) 0 (mT0 C) q_2 eM_3 dX11_laysMoney_19 ?_
    obtain ⟨y_4, ey_4, h⟩ := lt_E h
    refine r_iinc C.1 2 [(2, .int y_4), (0, .ref (x_ad x 0)), (1, .int x1)] dX11_laysMoney_20 rfl ey_4 (by decide) rfl ?_
    refine r_goto C.1 6 dX11_laysMoney_23 (by decide) ?_
    exact r_sub [1, 2, 0] rfl (kh _ (Option.some.inj h).symm)

def b_X11_laysMoney_6 (M : xM) (x1 : Int32) (x2 : Int32) : Option (xM) :=
  bd (loopN (fun s : xM × Int32 => bl_X11_laysMoney_6 s.1 x1 s.2) BG (M, x2)) (fun v => b_X11_laysMoney_28 v x1 (0 : Int32))
set_option maxRecDepth 20000 in
set_option maxHeartbeats 2000000 in
theorem w_X11_laysMoney_6 {x : xC} (C : CtM x RX11 cX11_laysMoney 3 ({ frames := 6, cells := 0, slots := 0, locals := 133 } : Room)) (M : xM) (x1 : Int32) (x2 : Int32)  (o : xM) (h : b_X11_laysMoney_6 M x1 x2 = some o) (hr : (x_me x).sig.returnType = none) (ev : x_rv x = none) (eM : x_M x = o) : J x M 6 [(0, .ref (x_ad x 0)), (1, .int x1), (2, .int x2)] [] := by
  unfold b_X11_laysMoney_6 at h
  obtain ⟨r_0, hr_0, h⟩ := bd_E h
  refine loopN_ind (JJ := fun s => J x s.1 6 [(0, .ref (x_ad x 0)), (1, .int x1), (2, .int s.2)] []) (KX := fun q => q = r_0) ?_ BG (M, x2) r_0 hr_0 rfl
  intro s o1 hb kk1 kk2
  refine wl_X11_laysMoney_6 C s.1 x1 s.2 _ hb kk1 ?_
  · intro v e0
    have e1 := kk2 _ e0
    subst e1
    refine r_iconst (v := 0) C.1 dX11_laysMoney_26 rfl ?_
    refine r_istore_n C.1 [(2, .int (0 : Int32)), (0, .ref (x_ad x 0)), (1, .int x1)] dX11_laysMoney_27 rfl (by decide) rfl rfl ?_
    exact r_sub [1, 2, 0] rfl (w_X11_laysMoney_28 C v x1 (0 : Int32) _ h hr ev eM)

def b_X11_laysMoney_0 (M : xM) (x1 : Int32) : Option (xM) :=
  bd (f_X11_lays M) (fun M_3 => b_X11_laysMoney_6 M_3 x1 (0 : Int32))
set_option maxRecDepth 20000 in
set_option maxHeartbeats 2000000 in
theorem w_X11_laysMoney_0 {x : xC} (C : CtM x RX11 cX11_laysMoney 3 ({ frames := 6, cells := 0, slots := 0, locals := 133 } : Room)) (M : xM) (x1 : Int32)  (o : xM) (h : b_X11_laysMoney_0 M x1 = some o) (hr : (x_me x).sig.returnType = none) (ev : x_rv x = none) (eM : x_M x = o) : J x M 0 [(0, .ref (x_ad x 0)), (1, .int x1)] [] := by
  unfold b_X11_laysMoney_0 at h
  refine r_aload_n C.1 0 dX11_laysMoney_0 rfl rfl ?_
  obtain ⟨M_3, hc_2, h⟩ := bd_E h
  refine cl_X11_221 C ⟨Nat.le_of_ble_eq_true rfl, Nat.le_of_ble_eq_true rfl⟩ (m_X11_lays _ _ _ M hc_2) (Nat.le_of_ble_eq_true rfl) dX11_laysMoney_1 ?_
  refine r_iconst (v := 0) C.1 dX11_laysMoney_4 rfl ?_
  refine r_istore_n C.1 [(2, .int (0 : Int32)), (0, .ref (x_ad x 0)), (1, .int x1)] dX11_laysMoney_5 rfl (by decide) rfl rfl ?_
  exact r_sub [1, 2, 0] rfl (w_X11_laysMoney_6 C M_3 x1 (0 : Int32) _ h hr ev eM)
def f_X11_laysMoney (M : xM) (x1 : Int32) : Option (xM) := b_X11_laysMoney_0 M x1
set_option maxRecDepth 20000 in
theorem m_X11_laysMoney (l : Launch) (D : va_G) (ad : Nat → Nat) (M : xM) (x1 : Int32)  {o : xM} (h : f_X11_laysMoney M x1 = some o) : xMetM l yX11_laysMoney cX11_laysMoney 3 none ({ frames := 6, cells := 0, slots := 0, locals := 133 } : Room) [.ref (ad 0), .int x1] D ad M none o := by
  refine xMetM_of (own := RX11) (by decide) rfl (Nat.le_of_ble_eq_true rfl) ?_
  intro x C e1 e2 e3 ev eM hr
  subst e1; subst e2; subst e3
  refine r_sub (L := [(0, .ref (x_ad x 0)), (1, .int x1)]) (L' := [(0, .ref (x_ad x 0)), (1, .int x1)]) [0, 1] rfl ?_
  exact w_X11_laysMoney_0 C M x1 _ h hr ev eM

def b_X11_laysIdle_144 (M : xM) (x1 : Int32) (x2 : Int32) (x3 : Int32) (x4 : Int32) (x5 : Int32) : Option ((xM × Int32 × Int32 × Int32) ⊕ (xM)) :=
  lt (x5 + (1 : Int32)) (fun y_1 => some (.inl (M, x3, x4, y_1)))
set_option maxRecDepth 20000 in
set_option maxHeartbeats 2000000 in
theorem w_X11_laysIdle_144 {x : xC} (C : CtM x RX11 cX11_laysIdle 6 ({ frames := 1, cells := 0, slots := 0, locals := 24 } : Room)) (M : xM) (x1 : Int32) (x2 : Int32) (x3 : Int32) (x4 : Int32) (x5 : Int32)  (o : (xM × Int32 × Int32 × Int32) ⊕ (xM)) (h : b_X11_laysIdle_144 M x1 x2 x3 x4 x5 = some o) (kh : ∀ s : xM × Int32 × Int32 × Int32, o = .inl s → J x s.1 19 [(0, .ref (x_ad x 0)), (1, .int x1), (2, .int x2), (3, .int s.2.1), (4, .int s.2.2.1), (5, .int s.2.2.2)] []) (ke_0 : ∀ v : xM, o = .inr v → J x v 150 [] []) : J x M 144 [(0, .ref (x_ad x 0)), (1, .int x1), (2, .int x2), (3, .int x3), (4, .int x4), (5, .int x5)] [] := by
  unfold b_X11_laysIdle_144 at h
  obtain ⟨y_1, ey_1, h⟩ := lt_E h
  refine r_iinc C.1 5 [(5, .int y_1), (0, .ref (x_ad x 0)), (1, .int x1), (2, .int x2), (3, .int x3), (4, .int x4)] dX11_laysIdle_144 rfl ey_1 (by decide) rfl ?_
  refine r_goto C.1 19 dX11_laysIdle_147 (by decide) ?_
  exact r_sub [1, 2, 3, 4, 5, 0] rfl (kh _ (Option.some.inj h).symm)

def bl_X11_laysIdle_77 (M : xM) (x1 : Int32) (x2 : Int32) (x3 : Int32) (x4 : Int32) (x5 : Int32) : Option ((Int32) ⊕ (Int32)) :=
  gd x3 3960 (gd (2 : Int32) 7 (if (x5 - (M 3 (2 : Int32).toNatClampNeg)) ≤ (M 11 x3.toNatClampNeg) then some (.inr x3) else lt (x3 + (1 : Int32)) (fun y_4 => some (.inl y_4))))
set_option maxRecDepth 20000 in
set_option maxHeartbeats 2000000 in
theorem wl_X11_laysIdle_77 {x : xC} (C : CtM x RX11 cX11_laysIdle 6 ({ frames := 1, cells := 0, slots := 0, locals := 24 } : Room)) (M : xM) (x1 : Int32) (x2 : Int32) (x3 : Int32) (x4 : Int32) (x5 : Int32)  (o : (Int32) ⊕ (Int32)) (h : bl_X11_laysIdle_77 M x1 x2 x3 x4 x5 = some o) (kh : ∀ s : Int32, o = .inl s → J x M 77 [(0, .ref (x_ad x 0)), (1, .int x1), (2, .int x2), (3, .int s), (4, .int x4), (5, .int x5)] []) (ke_0 : ∀ v : Int32, o = .inr v → J x M 101 [(0, .ref (x_ad x 0)), (1, .int x1), (2, .int x2), (3, .int v), (4, .int x4), (5, .int x5)] []) : J x M 77 [(0, .ref (x_ad x 0)), (1, .int x1), (2, .int x2), (3, .int x3), (4, .int x4), (5, .int x5)] [] := by
  unfold bl_X11_laysIdle_77 at h
  refine r_aload_n C.1 0 dX11_laysIdle_77 rfl rfl ?_
  refine gf_X11_40 C dX11_laysIdle_78 ?_
  refine r_iload_n C.1 3 dX11_laysIdle_81 rfl rfl ?_
  obtain ⟨q_1, h⟩ := gd_E h
  refine r_iald C.1 (mK C (by decide)) (mS C (shm_11)) 0 (mT0 C) q_1 dX11_laysIdle_82 ?_
  refine r_iload C.1 5 dX11_laysIdle_83 rfl ?_
  refine r_aload_n C.1 0 dX11_laysIdle_85 rfl rfl ?_
  refine gf_X11_16 C dX11_laysIdle_86 ?_
  refine r_iconst (v := 2) C.1 dX11_laysIdle_89 rfl ?_
  obtain ⟨q_2, h⟩ := gd_E h
  refine r_iald C.1 (mK C (by decide)) (mS C (shm_3)) 0 (mT0 C) q_2 dX11_laysIdle_90 ?_
  refine r_isub C.1 dX11_laysIdle_91 ?_
  refine r_icmp_ge C.1 101 dX11_laysIdle_92 (by decide) (fun c_3 => ?_) (fun c_3 => ?_)
  · replace h := ite_T c_3 h
    exact r_sub [0, 1, 2, 3, 4, 5] rfl (ke_0 _ (Option.some.inj h).symm)
  · replace h := ite_F c_3 h
    obtain ⟨y_4, ey_4, h⟩ := lt_E h
    refine r_iinc C.1 3 [(3, .int y_4), (0, .ref (x_ad x 0)), (1, .int x1), (2, .int x2), (4, .int x4), (5, .int x5)] dX11_laysIdle_95 rfl ey_4 (by decide) rfl ?_
    refine r_goto C.1 77 dX11_laysIdle_98 (by decide) ?_
    exact r_sub [1, 2, 3, 0, 4, 5] rfl (kh _ (Option.some.inj h).symm)

def b_X11_laysIdle_77 (M : xM) (x1 : Int32) (x2 : Int32) (x3 : Int32) (x4 : Int32) (x5 : Int32) : Option ((xM × Int32 × Int32 × Int32) ⊕ (xM)) :=
  bd (loopN (fun s : Int32 => bl_X11_laysIdle_77 M x1 x2 s x4 x5) BG x3) (fun v => if x5 < ((360 : Int32) + x1) then b_X11_laysIdle_144 M x1 x2 v x4 x5 else gd v 3960 (gd (M 11 v.toNatClampNeg) 3960 (gd (3 : Int32) 7 (gd (x5 - (360 : Int32)) 3600 (lt (uM M 10 (x5 - (360 : Int32)).toNatClampNeg (imax (0 : Int32) ((M 9 (M 11 v.toNatClampNeg).toNatClampNeg) - (M 3 (3 : Int32).toNatClampNeg)))) (fun M_6 => b_X11_laysIdle_144 M_6 x1 x2 v x4 x5))))))
set_option maxRecDepth 20000 in
set_option maxHeartbeats 2000000 in
theorem w_X11_laysIdle_77 {x : xC} (C : CtM x RX11 cX11_laysIdle 6 ({ frames := 1, cells := 0, slots := 0, locals := 24 } : Room)) (M : xM) (x1 : Int32) (x2 : Int32) (x3 : Int32) (x4 : Int32) (x5 : Int32)  (o : (xM × Int32 × Int32 × Int32) ⊕ (xM)) (h : b_X11_laysIdle_77 M x1 x2 x3 x4 x5 = some o) (kh : ∀ s : xM × Int32 × Int32 × Int32, o = .inl s → J x s.1 19 [(0, .ref (x_ad x 0)), (1, .int x1), (2, .int x2), (3, .int s.2.1), (4, .int s.2.2.1), (5, .int s.2.2.2)] []) (ke_0 : ∀ v : xM, o = .inr v → J x v 150 [] []) : J x M 77 [(0, .ref (x_ad x 0)), (1, .int x1), (2, .int x2), (3, .int x3), (4, .int x4), (5, .int x5)] [] := by
  unfold b_X11_laysIdle_77 at h
  obtain ⟨r_0, hr_0, h⟩ := bd_E h
  refine loopN_ind (JJ := fun s => J x M 77 [(0, .ref (x_ad x 0)), (1, .int x1), (2, .int x2), (3, .int s), (4, .int x4), (5, .int x5)] []) (KX := fun q => q = r_0) ?_ BG x3 r_0 hr_0 rfl
  intro s o1 hb kk1 kk2
  refine wl_X11_laysIdle_77 C M x1 x2 s x4 x5 _ hb kk1 ?_
  · intro v e0
    have e1 := kk2 _ e0
    subst e1
    refine r_iload C.1 5 dX11_laysIdle_101 rfl ?_
    refine r_sipush (v := 360) C.1 dX11_laysIdle_103 (by decide) ?_
    refine r_iload_n C.1 1 dX11_laysIdle_106 rfl rfl ?_
    refine r_iadd C.1 dX11_laysIdle_107 ?_
    refine r_icmp_lt C.1 144 dX11_laysIdle_108 (by decide) (fun c_1 => ?_) (fun c_1 => ?_)
    · replace h := ite_T c_1 h
      exact r_sub [0, 1, 2, 3, 4, 5] rfl (w_X11_laysIdle_144 C M x1 x2 v x4 x5 _ h kh ke_0)
    · replace h := ite_F c_1 h
      refine r_aload_n C.1 0 dX11_laysIdle_111 rfl rfl ?_
      refine gf_X11_37 C dX11_laysIdle_112 ?_
      refine r_iload C.1 5 dX11_laysIdle_115 rfl ?_
      refine r_sipush (v := 360) C.1 dX11_laysIdle_117 (by decide) ?_
      refine r_isub C.1 dX11_laysIdle_120 ?_
      refine r_iconst (v := 0) C.1 dX11_laysIdle_121 rfl ?_
      refine r_aload_n C.1 0 dX11_laysIdle_122 rfl rfl ?_
      refine gf_X11_34 C dX11_laysIdle_123 ?_
      refine r_aload_n C.1 0 dX11_laysIdle_126 rfl rfl ?_
      refine gf_X11_40 C dX11_laysIdle_127 ?_
      refine r_iload_n C.1 3 dX11_laysIdle_130 rfl rfl ?_
      obtain ⟨q_2, h⟩ := gd_E h
      refine r_iald C.1 (mK C (by decide)) (mS C (shm_11)) 0 (mT0 C) q_2 dX11_laysIdle_131 ?_
      obtain ⟨q_3, h⟩ := gd_E h
      refine r_iald C.1 (mK C (by decide)) (mS C (shm_9)) 0 (mT0 C) q_3 dX11_laysIdle_132 ?_
      refine r_aload_n C.1 0 dX11_laysIdle_133 rfl rfl ?_
      refine gf_X11_16 C dX11_laysIdle_134 ?_
      refine r_iconst (v := 3) C.1 dX11_laysIdle_137 rfl ?_
      obtain ⟨q_4, h⟩ := gd_E h
      refine r_iald C.1 (mK C (by decide)) (mS C (shm_3)) 0 (mT0 C) q_4 dX11_laysIdle_138 ?_
      refine r_isub C.1 dX11_laysIdle_139 ?_
      refine cm_X11_185 C.1 (by decide) (by decide) (Nat.le_of_ble_eq_true rfl) dX11_laysIdle_140 ?_
      obtain ⟨q_5, h⟩ := gd_E h
      obtain ⟨M_6, eM_6, h⟩ := lt_E h
      refine r_iast C.1 (mK C (by decide)) (mS C (shm_10)) 0 (mT0 C) q_5 eM_6 dX11_laysIdle_143 ?_
      exact r_sub [0, 1, 2, 3, 4, 5] rfl (w_X11_laysIdle_144 C M_6 x1 x2 v x4 x5 _ h kh ke_0)

def b_X11_laysIdle_65 (M : xM) (x1 : Int32) (x2 : Int32) (x3 : Int32) (x4 : Int32) (x5 : Int32) : Option ((xM × Int32 × Int32 × Int32) ⊕ (xM)) :=
  gd x4 3960 (lt (uM M 11 x4.toNatClampNeg x5) (fun M_2 => lt (x4 + (1 : Int32)) (fun y_3 => b_X11_laysIdle_77 M_2 x1 x2 x3 y_3 x5)))
set_option maxRecDepth 20000 in
set_option maxHeartbeats 2000000 in
theorem w_X11_laysIdle_65 {x : xC} (C : CtM x RX11 cX11_laysIdle 6 ({ frames := 1, cells := 0, slots := 0, locals := 24 } : Room)) (M : xM) (x1 : Int32) (x2 : Int32) (x3 : Int32) (x4 : Int32) (x5 : Int32)  (o : (xM × Int32 × Int32 × Int32) ⊕ (xM)) (h : b_X11_laysIdle_65 M x1 x2 x3 x4 x5 = some o) (kh : ∀ s : xM × Int32 × Int32 × Int32, o = .inl s → J x s.1 19 [(0, .ref (x_ad x 0)), (1, .int x1), (2, .int x2), (3, .int s.2.1), (4, .int s.2.2.1), (5, .int s.2.2.2)] []) (ke_0 : ∀ v : xM, o = .inr v → J x v 150 [] []) : J x M 65 [(0, .ref (x_ad x 0)), (1, .int x1), (2, .int x2), (3, .int x3), (4, .int x4), (5, .int x5)] [] := by
  unfold b_X11_laysIdle_65 at h
  refine r_aload_n C.1 0 dX11_laysIdle_65 rfl rfl ?_
  refine gf_X11_40 C dX11_laysIdle_66 ?_
  refine r_iload C.1 4 dX11_laysIdle_69 rfl ?_
  refine r_iload C.1 5 dX11_laysIdle_71 rfl ?_
  obtain ⟨q_1, h⟩ := gd_E h
  obtain ⟨M_2, eM_2, h⟩ := lt_E h
  refine r_iast C.1 (mK C (by decide)) (mS C (shm_11)) 0 (mT0 C) q_1 eM_2 dX11_laysIdle_73 ?_
  obtain ⟨y_3, ey_3, h⟩ := lt_E h
  refine r_iinc C.1 4 [(4, .int y_3), (0, .ref (x_ad x 0)), (1, .int x1), (2, .int x2), (3, .int x3), (5, .int x5)] dX11_laysIdle_74 rfl ey_3 (by decide) rfl ?_
  exact r_sub [1, 2, 3, 4, 0, 5] rfl (w_X11_laysIdle_77 C M_2 x1 x2 x3 y_3 x5 _ h kh ke_0)

def bl_X11_laysIdle_29 (M : xM) (x1 : Int32) (x2 : Int32) (x3 : Int32) (x4 : Int32) (x5 : Int32) : Option ((Int32) ⊕ (Int32)) :=
  if x4 ≤ x3 then some (.inr x4) else gd (x4 - (1 : Int32)) 3960 (gd (M 11 (x4 - (1 : Int32)).toNatClampNeg) 3960 (gd x5 3960 (if (M 9 (M 11 (x4 - (1 : Int32)).toNatClampNeg).toNatClampNeg) < (M 9 x5.toNatClampNeg) then some (.inr x4) else lt (x4 + (-1 : Int32)) (fun y_6 => some (.inl y_6)))))
set_option maxRecDepth 20000 in
set_option maxHeartbeats 2000000 in
theorem wl_X11_laysIdle_29 {x : xC} (C : CtM x RX11 cX11_laysIdle 6 ({ frames := 1, cells := 0, slots := 0, locals := 24 } : Room)) (M : xM) (x1 : Int32) (x2 : Int32) (x3 : Int32) (x4 : Int32) (x5 : Int32)  (o : (Int32) ⊕ (Int32)) (h : bl_X11_laysIdle_29 M x1 x2 x3 x4 x5 = some o) (kh : ∀ s : Int32, o = .inl s → J x M 29 [(0, .ref (x_ad x 0)), (1, .int x1), (2, .int x2), (3, .int x3), (4, .int s), (5, .int x5)] []) (ke_0 : ∀ v : Int32, o = .inr v → J x M 65 [(0, .ref (x_ad x 0)), (1, .int x1), (2, .int x2), (3, .int x3), (4, .int v), (5, .int x5)] []) : J x M 29 [(0, .ref (x_ad x 0)), (1, .int x1), (2, .int x2), (3, .int x3), (4, .int x4), (5, .int x5)] [] := by
  unfold bl_X11_laysIdle_29 at h
  refine r_iload C.1 4 dX11_laysIdle_29 rfl ?_
  refine r_iload_n C.1 3 dX11_laysIdle_31 rfl rfl ?_
  refine r_icmp_le C.1 65 dX11_laysIdle_32 (by decide) (fun c_1 => ?_) (fun c_1 => ?_)
  · replace h := ite_T c_1 h
    exact r_sub [0, 1, 2, 3, 4, 5] rfl (ke_0 _ (Option.some.inj h).symm)
  · replace h := ite_F c_1 h
    refine r_aload_n C.1 0 dX11_laysIdle_35 rfl rfl ?_
    refine gf_X11_34 C dX11_laysIdle_36 ?_
    refine r_aload_n C.1 0 dX11_laysIdle_39 rfl rfl ?_
    refine gf_X11_40 C dX11_laysIdle_40 ?_
    refine r_iload C.1 4 dX11_laysIdle_43 rfl ?_
    refine r_iconst (v := 1) C.1 dX11_laysIdle_45 rfl ?_
    refine r_isub C.1 dX11_laysIdle_46 ?_
    obtain ⟨q_2, h⟩ := gd_E h
    refine r_iald C.1 (mK C (by decide)) (mS C (shm_11)) 0 (mT0 C) q_2 dX11_laysIdle_47 ?_
    obtain ⟨q_3, h⟩ := gd_E h
    refine r_iald C.1 (mK C (by decide)) (mS C (shm_9)) 0 (mT0 C) q_3 dX11_laysIdle_48 ?_
    refine r_aload_n C.1 0 dX11_laysIdle_49 rfl rfl ?_
    refine gf_X11_34 C dX11_laysIdle_50 ?_
    refine r_iload C.1 5 dX11_laysIdle_53 rfl ?_
    obtain ⟨q_4, h⟩ := gd_E h
    refine r_iald C.1 (mK C (by decide)) (mS C (shm_9)) 0 (mT0 C) q_4 dX11_laysIdle_55 ?_
    refine r_icmp_lt C.1 65 dX11_laysIdle_56 (by decide) (fun c_5 => ?_) (fun c_5 => ?_)
    · replace h := ite_T c_5 h
      exact r_sub [0, 1, 2, 3, 4, 5] rfl (ke_0 _ (Option.some.inj h).symm)
    · replace h := ite_F c_5 h
      obtain ⟨y_6, ey_6, h⟩ := lt_E h
      refine r_iinc C.1 4 [(4, .int y_6), (0, .ref (x_ad x 0)), (1, .int x1), (2, .int x2), (3, .int x3), (5, .int x5)] dX11_laysIdle_59 rfl ey_6 (by decide) rfl ?_
      refine r_goto C.1 29 dX11_laysIdle_62 (by decide) ?_
      exact r_sub [1, 2, 3, 4, 0, 5] rfl (kh _ (Option.some.inj h).symm)

def b_X11_laysIdle_29 (M : xM) (x1 : Int32) (x2 : Int32) (x3 : Int32) (x4 : Int32) (x5 : Int32) : Option ((xM × Int32 × Int32 × Int32) ⊕ (xM)) :=
  bd (loopN (fun s : Int32 => bl_X11_laysIdle_29 M x1 x2 x3 s x5) BG x4) (fun v => b_X11_laysIdle_65 M x1 x2 x3 v x5)
set_option maxRecDepth 20000 in
set_option maxHeartbeats 2000000 in
theorem w_X11_laysIdle_29 {x : xC} (C : CtM x RX11 cX11_laysIdle 6 ({ frames := 1, cells := 0, slots := 0, locals := 24 } : Room)) (M : xM) (x1 : Int32) (x2 : Int32) (x3 : Int32) (x4 : Int32) (x5 : Int32)  (o : (xM × Int32 × Int32 × Int32) ⊕ (xM)) (h : b_X11_laysIdle_29 M x1 x2 x3 x4 x5 = some o) (kh : ∀ s : xM × Int32 × Int32 × Int32, o = .inl s → J x s.1 19 [(0, .ref (x_ad x 0)), (1, .int x1), (2, .int x2), (3, .int s.2.1), (4, .int s.2.2.1), (5, .int s.2.2.2)] []) (ke_0 : ∀ v : xM, o = .inr v → J x v 150 [] []) : J x M 29 [(0, .ref (x_ad x 0)), (1, .int x1), (2, .int x2), (3, .int x3), (4, .int x4), (5, .int x5)] [] := by
  unfold b_X11_laysIdle_29 at h
  obtain ⟨r_0, hr_0, h⟩ := bd_E h
  refine loopN_ind (JJ := fun s => J x M 29 [(0, .ref (x_ad x 0)), (1, .int x1), (2, .int x2), (3, .int x3), (4, .int s), (5, .int x5)] []) (KX := fun q => q = r_0) ?_ BG x4 r_0 hr_0 rfl
  intro s o1 hb kk1 kk2
  refine wl_X11_laysIdle_29 C M x1 x2 x3 s x5 _ hb kk1 ?_
  · intro v e0
    have e1 := kk2 _ e0
    subst e1
    exact r_sub [0, 1, 2, 3, 4, 5] rfl (w_X11_laysIdle_65 C M x1 x2 x3 v x5 _ h kh ke_0)

def bl_X11_laysIdle_19 (M : xM) (x1 : Int32) (x2 : Int32) (x3 : Int32) (x4 : Int32) (x5 : Int32) : Option ((xM × Int32 × Int32 × Int32) ⊕ (xM)) :=
  if ((360 : Int32) + x2) < x5 then some (.inr M) else b_X11_laysIdle_29 M x1 x2 x3 x4 x5
set_option maxRecDepth 20000 in
set_option maxHeartbeats 2000000 in
theorem wl_X11_laysIdle_19 {x : xC} (C : CtM x RX11 cX11_laysIdle 6 ({ frames := 1, cells := 0, slots := 0, locals := 24 } : Room)) (M : xM) (x1 : Int32) (x2 : Int32) (x3 : Int32) (x4 : Int32) (x5 : Int32)  (o : (xM × Int32 × Int32 × Int32) ⊕ (xM)) (h : bl_X11_laysIdle_19 M x1 x2 x3 x4 x5 = some o) (kh : ∀ s : xM × Int32 × Int32 × Int32, o = .inl s → J x s.1 19 [(0, .ref (x_ad x 0)), (1, .int x1), (2, .int x2), (3, .int s.2.1), (4, .int s.2.2.1), (5, .int s.2.2.2)] []) (ke_0 : ∀ v : xM, o = .inr v → J x v 150 [] []) : J x M 19 [(0, .ref (x_ad x 0)), (1, .int x1), (2, .int x2), (3, .int x3), (4, .int x4), (5, .int x5)] [] := by
  unfold bl_X11_laysIdle_19 at h
  refine r_iload C.1 5 dX11_laysIdle_19 rfl ?_
  refine r_sipush (v := 360) C.1 dX11_laysIdle_21 (by decide) ?_
  refine r_iload_n C.1 2 dX11_laysIdle_24 rfl rfl ?_
  refine r_iadd C.1 dX11_laysIdle_25 ?_
  refine r_icmp_gt C.1 150 dX11_laysIdle_26 (by decide) (fun c_1 => ?_) (fun c_1 => ?_)
  · replace h := ite_T c_1 h
    exact r_sub [] rfl (ke_0 _ (Option.some.inj h).symm)
  · replace h := ite_F c_1 h
    exact r_sub [0, 1, 2, 3, 4, 5] rfl (w_X11_laysIdle_29 C M x1 x2 x3 x4 x5 _ h kh ke_0)

def b_X11_laysIdle_19 (M : xM) (x1 : Int32) (x2 : Int32) (x3 : Int32) (x4 : Int32) (x5 : Int32) : Option (xM) :=
  bd (loopN (fun s : xM × Int32 × Int32 × Int32 => bl_X11_laysIdle_19 s.1 x1 x2 s.2.1 s.2.2.1 s.2.2.2) BG (M, x3, x4, x5)) (fun v => some v)
set_option maxRecDepth 20000 in
set_option maxHeartbeats 2000000 in
theorem w_X11_laysIdle_19 {x : xC} (C : CtM x RX11 cX11_laysIdle 6 ({ frames := 1, cells := 0, slots := 0, locals := 24 } : Room)) (M : xM) (x1 : Int32) (x2 : Int32) (x3 : Int32) (x4 : Int32) (x5 : Int32)  (o : xM) (h : b_X11_laysIdle_19 M x1 x2 x3 x4 x5 = some o) (hr : (x_me x).sig.returnType = none) (ev : x_rv x = none) (eM : x_M x = o) : J x M 19 [(0, .ref (x_ad x 0)), (1, .int x1), (2, .int x2), (3, .int x3), (4, .int x4), (5, .int x5)] [] := by
  unfold b_X11_laysIdle_19 at h
  obtain ⟨r_0, hr_0, h⟩ := bd_E h
  refine loopN_ind (JJ := fun s => J x s.1 19 [(0, .ref (x_ad x 0)), (1, .int x1), (2, .int x2), (3, .int s.2.1), (4, .int s.2.2.1), (5, .int s.2.2.2)] []) (KX := fun q => q = r_0) ?_ BG (M, x3, x4, x5) r_0 hr_0 rfl
  intro s o1 hb kk1 kk2
  refine wl_X11_laysIdle_19 C s.1 x1 x2 s.2.1 s.2.2.1 s.2.2.2 _ hb kk1 ?_
  · intro v e0
    have e1 := kk2 _ e0
    subst e1
    obtain rfl := Option.some.inj h
    exact r_vret C.1 hr ev eM dX11_laysIdle_150

def b_X11_laysIdle_0 (M : xM) (x1 : Int32) (x2 : Int32) : Option (xM) :=
  gd (2 : Int32) 7 (lt (((360 : Int32) + x1) - (M 3 (2 : Int32).toNatClampNeg)) (fun y_2 => b_X11_laysIdle_19 M x1 x2 (0 : Int32) (0 : Int32) y_2))
set_option maxRecDepth 20000 in
set_option maxHeartbeats 2000000 in
theorem w_X11_laysIdle_0 {x : xC} (C : CtM x RX11 cX11_laysIdle 6 ({ frames := 1, cells := 0, slots := 0, locals := 24 } : Room)) (M : xM) (x1 : Int32) (x2 : Int32)  (o : xM) (h : b_X11_laysIdle_0 M x1 x2 = some o) (hr : (x_me x).sig.returnType = none) (ev : x_rv x = none) (eM : x_M x = o) : J x M 0 [(0, .ref (x_ad x 0)), (1, .int x1), (2, .int x2)] [] := by
  unfold b_X11_laysIdle_0 at h
  refine r_iconst (v := 0) C.1 dX11_laysIdle_0 rfl ?_
  refine r_istore_n C.1 [(3, .int (0 : Int32)), (0, .ref (x_ad x 0)), (1, .int x1), (2, .int x2)] dX11_laysIdle_1 rfl (by decide) rfl rfl ?_
  refine r_iconst (v := 0) C.1 dX11_laysIdle_2 rfl ?_
  refine r_istore C.1 [(4, .int (0 : Int32)), (3, .int (0 : Int32)), (0, .ref (x_ad x 0)), (1, .int x1), (2, .int x2)] dX11_laysIdle_3 (by decide) rfl rfl ?_
  refine r_sipush (v := 360) C.1 dX11_laysIdle_5 (by decide) ?_
  refine r_iload_n C.1 3 dX11_laysIdle_8 rfl rfl ?_
  refine r_iadd C.1 dX11_laysIdle_9 ?_
  refine r_aload_n C.1 2 dX11_laysIdle_10 rfl rfl ?_
  refine gf_X11_16 C dX11_laysIdle_11 ?_
  refine r_iconst (v := 2) C.1 dX11_laysIdle_14 rfl ?_
  obtain ⟨q_1, h⟩ := gd_E h
  refine r_iald C.1 (mK C (by decide)) (mS C (shm_3)) 0 (mT0 C) q_1 dX11_laysIdle_15 ?_
  refine r_isub C.1 dX11_laysIdle_16 ?_
  obtain ⟨y_2, ey_2, h⟩ := lt_E h
  refine r_istore C.1 [(5, .int y_2), (4, .int (0 : Int32)), (3, .int (0 : Int32)), (0, .ref (x_ad x 0)), (1, .int x1), (2, .int x2)] dX11_laysIdle_17 (by decide) ey_2 rfl ?_
  exact r_sub [3, 4, 5, 2, 1, 0] rfl (w_X11_laysIdle_19 C M x1 x2 (0 : Int32) (0 : Int32) y_2 _ h hr ev eM)
def f_X11_laysIdle (M : xM) (x1 : Int32) (x2 : Int32) : Option (xM) := b_X11_laysIdle_0 M x1 x2
set_option maxRecDepth 20000 in
theorem m_X11_laysIdle (l : Launch) (D : va_G) (ad : Nat → Nat) (M : xM) (x1 : Int32) (x2 : Int32)  {o : xM} (h : f_X11_laysIdle M x1 x2 = some o) : xMetM l yX11_laysIdle cX11_laysIdle 6 none ({ frames := 1, cells := 0, slots := 0, locals := 24 } : Room) [.ref (ad 0), .int x1, .int x2] D ad M none o := by
  refine xMetM_of (own := RX11) (by decide) rfl (Nat.le_of_ble_eq_true rfl) ?_
  intro x C e1 e2 e3 ev eM hr
  subst e1; subst e2; subst e3
  refine r_sub (L := [(0, .ref (x_ad x 0)), (1, .int x1), (2, .int x2)]) (L' := [(0, .ref (x_ad x 0)), (1, .int x1), (2, .int x2)]) [0, 1, 2] rfl ?_
  exact w_X11_laysIdle_0 C M x1 x2 _ h hr ev eM

def bl_X11_chargeBy_29 (M : xM) (x1 : Int32) (x2 : Int64) (x4 : Int32) : Option ((Int64 × Int32) ⊕ (Int64)) :=
  if (((360 : Int32) * x1) + (360 : Int32)) ≤ x4 then some (.inr x2) else gd x4 3600 (lt (x2 + ((M 10 x4.toNatClampNeg).toInt64)) (fun y_3 => lt (x4 + (1 : Int32)) (fun y_4 => some (.inl (y_3, y_4)))))
set_option maxRecDepth 20000 in
set_option maxHeartbeats 2000000 in
theorem wl_X11_chargeBy_29 {x : xC} (C : CtM x RX11 cX11_chargeBy 5 ({ frames := 2, cells := 0, slots := 0, locals := 49 } : Room)) (M : xM) (x1 : Int32) (x2 : Int64) (x4 : Int32)  (o : (Int64 × Int32) ⊕ (Int64)) (h : bl_X11_chargeBy_29 M x1 x2 x4 = some o) (kh : ∀ s : Int64 × Int32, o = .inl s → J x M 29 [(0, .ref (x_ad x 0)), (1, .int x1), (2, .long s.1), (4, .int s.2)] []) (ke_0 : ∀ v : Int64, o = .inr v → J x M 60 [(0, .ref (x_ad x 0)), (2, .long v)] []) : J x M 29 [(0, .ref (x_ad x 0)), (1, .int x1), (2, .long x2), (4, .int x4)] [] := by
  unfold bl_X11_chargeBy_29 at h
  refine r_iload C.1 3 dX11_chargeBy_29 rfl ?_
  refine r_sipush (v := 360) C.1 dX11_chargeBy_31 (by decide) ?_
  refine r_iload_n C.1 1 dX11_chargeBy_34 rfl rfl ?_
  refine r_imul C.1 dX11_chargeBy_35 ?_
  refine r_sipush (v := 360) C.1 dX11_chargeBy_36 (by decide) ?_
  refine r_iadd C.1 dX11_chargeBy_39 ?_
  refine r_icmp_ge C.1 60 dX11_chargeBy_40 (by decide) (fun c_1 => ?_) (fun c_1 => ?_)
  · replace h := ite_T c_1 h
    exact r_sub [0, 2] rfl (ke_0 _ (Option.some.inj h).symm)
  · replace h := ite_F c_1 h
    refine r_lload_n C.1 2 dX11_chargeBy_43 rfl rfl ?_
    refine r_aload_n C.1 0 dX11_chargeBy_44 rfl rfl ?_
    refine gf_X11_37 C dX11_chargeBy_45 ?_
    refine r_iload C.1 3 dX11_chargeBy_48 rfl ?_
    obtain ⟨q_2, h⟩ := gd_E h
    refine r_iald C.1 (mK C (by decide)) (mS C (shm_10)) 0 (mT0 C) q_2 dX11_chargeBy_50 ?_
    refine r_i2l C.1 dX11_chargeBy_51 ?_
    refine r_ladd C.1 dX11_chargeBy_52 ?_
    obtain ⟨y_3, ey_3, h⟩ := lt_E h
    refine r_lstore_n C.1 [(2, .long y_3), (0, .ref (x_ad x 0)), (1, .int x1), (4, .int x4)] dX11_chargeBy_53 rfl (by decide) ey_3 rfl ?_
    obtain ⟨y_4, ey_4, h⟩ := lt_E h
    refine r_iinc C.1 3 [(4, .int y_4), (2, .long y_3), (0, .ref (x_ad x 0)), (1, .int x1)] dX11_chargeBy_54 rfl ey_4 (by decide) rfl ?_
    refine r_goto C.1 29 dX11_chargeBy_57 (by decide) ?_
    exact r_sub [2, 3, 1, 0] rfl (kh _ (Option.some.inj h).symm)

def b_X11_chargeBy_29 (M : xM) (x1 : Int32) (x2 : Int64) (x4 : Int32) : Option (Int32 × xM) :=
  bd (loopN (fun s : Int64 × Int32 => bl_X11_chargeBy_29 M x1 s.1 s.2) BG (x2, x4)) (fun v => gd (4 : Int32) 7 (some (((v * ((M 3 (4 : Int32).toNatClampNeg).toInt64)) / (360000 : Int64)).toInt32, M)))
set_option maxRecDepth 20000 in
set_option maxHeartbeats 2000000 in
theorem w_X11_chargeBy_29 {x : xC} (C : CtM x RX11 cX11_chargeBy 5 ({ frames := 2, cells := 0, slots := 0, locals := 49 } : Room)) (M : xM) (x1 : Int32) (x2 : Int64) (x4 : Int32)  (o : Int32 × xM) (h : b_X11_chargeBy_29 M x1 x2 x4 = some o) (hr : (x_me x).sig.returnType = some .int) (ev : x_rv x = some (.int o.1)) (eM : x_M x = o.2) : J x M 29 [(0, .ref (x_ad x 0)), (1, .int x1), (2, .long x2), (4, .int x4)] [] := by
  unfold b_X11_chargeBy_29 at h
  obtain ⟨r_0, hr_0, h⟩ := bd_E h
  refine loopN_ind (JJ := fun s => J x M 29 [(0, .ref (x_ad x 0)), (1, .int x1), (2, .long s.1), (4, .int s.2)] []) (KX := fun q => q = r_0) ?_ BG (x2, x4) r_0 hr_0 rfl
  intro s o1 hb kk1 kk2
  refine wl_X11_chargeBy_29 C M x1 s.1 s.2 _ hb kk1 ?_
  · intro v e0
    have e1 := kk2 _ e0
    subst e1
    refine r_lload_n C.1 1 dX11_chargeBy_60 rfl rfl ?_
    refine r_aload_n C.1 0 dX11_chargeBy_61 rfl rfl ?_
    refine gf_X11_16 C dX11_chargeBy_62 ?_
    refine r_iconst (v := 4) C.1 dX11_chargeBy_65 rfl ?_
    obtain ⟨q_1, h⟩ := gd_E h
    refine r_iald C.1 (mK C (by decide)) (mS C (shm_3)) 0 (mT0 C) q_1 dX11_chargeBy_66 ?_
    refine r_i2l C.1 dX11_chargeBy_67 ?_
    refine r_lmul C.1 dX11_chargeBy_68 ?_
    refine r_ldc2 (v := 360000) C.1 kw_1605 dX11_chargeBy_69 ?_
    refine r_ldiv C.1 (by decide) dX11_chargeBy_72 ?_
    refine r_l2i C.1 dX11_chargeBy_73 ?_
    obtain rfl := Option.some.inj h
    exact r_iret C.1 hr ev eM dX11_chargeBy_74

def b_X11_chargeBy_0 (M : xM) (x1 : Int32) : Option (Int32 × xM) :=
  bd (f_X11_laysIdle M ((360 : Int32) * x1) ((((360 : Int32) * x1) + (360 : Int32)) - (1 : Int32))) (fun M_3 => lt ((360 : Int32) * x1) (fun y_4 => b_X11_chargeBy_29 M_3 x1 (0 : Int64) y_4))
set_option maxRecDepth 20000 in
set_option maxHeartbeats 2000000 in
theorem w_X11_chargeBy_0 {x : xC} (C : CtM x RX11 cX11_chargeBy 5 ({ frames := 2, cells := 0, slots := 0, locals := 49 } : Room)) (M : xM) (x1 : Int32)  (o : Int32 × xM) (h : b_X11_chargeBy_0 M x1 = some o) (hr : (x_me x).sig.returnType = some .int) (ev : x_rv x = some (.int o.1)) (eM : x_M x = o.2) : J x M 0 [(0, .ref (x_ad x 0)), (1, .int x1)] [] := by
  unfold b_X11_chargeBy_0 at h
  refine r_aload_n C.1 0 dX11_chargeBy_0 rfl rfl ?_
  refine r_sipush (v := 360) C.1 dX11_chargeBy_1 (by decide) ?_
  refine r_iload_n C.1 1 dX11_chargeBy_4 rfl rfl ?_
  refine r_imul C.1 dX11_chargeBy_5 ?_
  refine r_sipush (v := 360) C.1 dX11_chargeBy_6 (by decide) ?_
  refine r_iload_n C.1 1 dX11_chargeBy_9 rfl rfl ?_
  refine r_imul C.1 dX11_chargeBy_10 ?_
  refine r_sipush (v := 360) C.1 dX11_chargeBy_11 (by decide) ?_
  refine r_iadd C.1 dX11_chargeBy_14 ?_
  refine r_iconst (v := 1) C.1 dX11_chargeBy_15 rfl ?_
  refine r_isub C.1 dX11_chargeBy_16 ?_
  obtain ⟨M_3, hc_2, h⟩ := bd_E h
  refine cl_X11_224 C ⟨Nat.le_of_ble_eq_true rfl, Nat.le_of_ble_eq_true rfl⟩ (m_X11_laysIdle _ _ _ M ((360 : Int32) * x1) ((((360 : Int32) * x1) + (360 : Int32)) - (1 : Int32)) hc_2) (Nat.le_of_ble_eq_true rfl) dX11_chargeBy_17 ?_
  refine r_lconst (v := 0) C.1 dX11_chargeBy_20 rfl ?_
  refine r_lstore_n C.1 [(2, .long (0 : Int64)), (0, .ref (x_ad x 0)), (1, .int x1)] dX11_chargeBy_21 rfl (by decide) rfl rfl ?_
  refine r_sipush (v := 360) C.1 dX11_chargeBy_22 (by decide) ?_
  refine r_iload_n C.1 2 dX11_chargeBy_25 rfl rfl ?_
  refine r_imul C.1 dX11_chargeBy_26 ?_
  obtain ⟨y_4, ey_4, h⟩ := lt_E h
  refine r_istore C.1 [(4, .int y_4), (2, .long (0 : Int64)), (0, .ref (x_ad x 0)), (1, .int x1)] dX11_chargeBy_27 (by decide) ey_4 rfl ?_
  exact r_sub [2, 3, 1, 0] rfl (w_X11_chargeBy_29 C M_3 x1 (0 : Int64) y_4 _ h hr ev eM)
def f_X11_chargeBy (M : xM) (x1 : Int32) : Option (Int32 × xM) := b_X11_chargeBy_0 M x1
set_option maxRecDepth 20000 in
theorem m_X11_chargeBy (l : Launch) (D : va_G) (ad : Nat → Nat) (M : xM) (x1 : Int32)  {r : Int32} {M1 : xM} (h : f_X11_chargeBy M x1 = some (r, M1)) : xMetM l yX11_chargeBy cX11_chargeBy 5 (some .int) ({ frames := 2, cells := 0, slots := 0, locals := 49 } : Room) [.ref (ad 0), .int x1] D ad M (some (.int r)) M1 := by
  refine xMetM_of (own := RX11) (by decide) rfl (Nat.le_of_ble_eq_true rfl) ?_
  intro x C e1 e2 e3 ev eM hr
  subst e1; subst e2; subst e3
  refine r_sub (L := [(0, .ref (x_ad x 0)), (1, .int x1)]) (L' := [(0, .ref (x_ad x 0)), (1, .int x1)]) [0, 1] rfl ?_
  exact w_X11_chargeBy_0 C M x1 _ h hr ev eM

def b_X11_chargeOf_0 (M : xM) (x1 : Int32) (x2 : Int32) : Option (Int32 × xM) :=
  bd (f_X11_its M x1 (15 : Int32)) (fun r_1 => if r_1 ≤ x2 then bd (f_X11_laysMoney M x1) (fun M_6 => bd2 (f_X11_chargeBy M_6 x2) (fun r_7 M_9 => some (r_7, M_9))) else bd (f_X11_its M x1 ((16 : Int32) + x2)) (fun r_10 => some (r_10, M)))
set_option maxRecDepth 20000 in
set_option maxHeartbeats 2000000 in
theorem w_X11_chargeOf_0 {x : xC} (C : CtM x RX11 cX11_chargeOf 3 ({ frames := 7, cells := 0, slots := 0, locals := 155 } : Room)) (M : xM) (x1 : Int32) (x2 : Int32)  (o : Int32 × xM) (h : b_X11_chargeOf_0 M x1 x2 = some o) (hr : (x_me x).sig.returnType = some .int) (ev : x_rv x = some (.int o.1)) (eM : x_M x = o.2) : J x M 0 [(0, .ref (x_ad x 0)), (1, .int x1), (2, .int x2)] [] := by
  unfold b_X11_chargeOf_0 at h
  refine r_iload_n C.1 2 dX11_chargeOf_0 rfl rfl ?_
  refine r_aload_n C.1 0 dX11_chargeOf_1 rfl rfl ?_
  refine r_iload_n C.1 1 dX11_chargeOf_2 rfl rfl ?_
  refine r_bipush (v := 15) C.1 dX11_chargeOf_3 (by decide) ?_
  obtain ⟨r_1, hc_2, h⟩ := bd_E h
  refine cl_X11_176 C ⟨Nat.le_of_ble_eq_true rfl, Nat.le_of_ble_eq_true rfl⟩ (m_X11_its _ _ _ M x1 (15 : Int32) hc_2) (Nat.le_of_ble_eq_true rfl) dX11_chargeOf_5 ?_
  refine r_icmp_ge C.1 21 dX11_chargeOf_8 (by decide) (fun c_3 => ?_) (fun c_3 => ?_)
  · replace h := ite_T c_3 h
    refine r_aload_n C.1 0 dX11_chargeOf_21 rfl rfl ?_
    refine r_iload_n C.1 1 dX11_chargeOf_22 rfl rfl ?_
    obtain ⟨M_6, hc_5, h⟩ := bd_E h
    refine cl_X11_230 C ⟨Nat.le_of_ble_eq_true rfl, Nat.le_of_ble_eq_true rfl⟩ (m_X11_laysMoney _ _ _ M x1 hc_5) (Nat.le_of_ble_eq_true rfl) dX11_chargeOf_23 ?_
    refine r_aload_n C.1 0 dX11_chargeOf_26 rfl rfl ?_
    refine r_iload_n C.1 2 dX11_chargeOf_27 rfl rfl ?_
    obtain ⟨r_7, M_9, hc_8, h⟩ := bd2_E h
    refine cl_X11_234 C ⟨Nat.le_of_ble_eq_true rfl, Nat.le_of_ble_eq_true rfl⟩ (m_X11_chargeBy _ _ _ M_6 x2 hc_8) (Nat.le_of_ble_eq_true rfl) dX11_chargeOf_28 ?_
    obtain rfl := Option.some.inj h
    exact r_iret C.1 hr ev eM dX11_chargeOf_31
  · replace h := ite_F c_3 h
    refine r_aload_n C.1 0 dX11_chargeOf_11 rfl rfl ?_
    refine r_iload_n C.1 1 dX11_chargeOf_12 rfl rfl ?_
    refine r_bipush (v := 16) C.1 dX11_chargeOf_13 (by decide) ?_
    refine r_iload_n C.1 2 dX11_chargeOf_15 rfl rfl ?_
    refine r_iadd C.1 dX11_chargeOf_16 ?_
    obtain ⟨r_10, hc_11, h⟩ := bd_E h
    refine cl_X11_176 C ⟨Nat.le_of_ble_eq_true rfl, Nat.le_of_ble_eq_true rfl⟩ (m_X11_its _ _ _ M x1 ((16 : Int32) + x2) hc_11) (Nat.le_of_ble_eq_true rfl) dX11_chargeOf_17 ?_
    obtain rfl := Option.some.inj h
    exact r_iret C.1 hr ev eM dX11_chargeOf_20
def f_X11_chargeOf (M : xM) (x1 : Int32) (x2 : Int32) : Option (Int32 × xM) := b_X11_chargeOf_0 M x1 x2
set_option maxRecDepth 20000 in
theorem m_X11_chargeOf (l : Launch) (D : va_G) (ad : Nat → Nat) (M : xM) (x1 : Int32) (x2 : Int32)  {r : Int32} {M1 : xM} (h : f_X11_chargeOf M x1 x2 = some (r, M1)) : xMetM l yX11_chargeOf cX11_chargeOf 3 (some .int) ({ frames := 7, cells := 0, slots := 0, locals := 155 } : Room) [.ref (ad 0), .int x1, .int x2] D ad M (some (.int r)) M1 := by
  refine xMetM_of (own := RX11) (by decide) rfl (Nat.le_of_ble_eq_true rfl) ?_
  intro x C e1 e2 e3 ev eM hr
  subst e1; subst e2; subst e3
  refine r_sub (L := [(0, .ref (x_ad x 0)), (1, .int x1), (2, .int x2)]) (L' := [(0, .ref (x_ad x 0)), (1, .int x1), (2, .int x2)]) [0, 1, 2] rfl ?_
  exact w_X11_chargeOf_0 C M x1 x2 _ h hr ev eM

def b_X11_sumOf_170 (M : xM) (x1 : Int32) (x2 : Int32) (x3 : Int32) (x4 : Int32) (x5 : Int32) (x6 : Int32) : Option ((Int32 × Int32) ⊕ (Int32)) :=
  lt (x6 + (1 : Int32)) (fun y_1 => some (.inl (x5, y_1)))
set_option maxRecDepth 20000 in
set_option maxHeartbeats 2000000 in
theorem w_X11_sumOf_170 {x : xC} (C : CtM x RX11 cX11_sumOf 9 ({ frames := 2, cells := 0, slots := 0, locals := 43 } : Room)) (M : xM) (x1 : Int32) (x2 : Int32) (x3 : Int32) (x4 : Int32) (x5 : Int32) (x6 : Int32)  (o : (Int32 × Int32) ⊕ (Int32)) (h : b_X11_sumOf_170 M x1 x2 x3 x4 x5 x6 = some o) (kh : ∀ s : Int32 × Int32, o = .inl s → J x M 6 [(0, .ref (x_ad x 0)), (1, .int x1), (2, .int x2), (3, .int x3), (4, .int x4), (5, .int s.1), (6, .int s.2)] []) (ke_0 : ∀ v : Int32, o = .inr v → J x M 176 [(5, .int v)] []) : J x M 170 [(0, .ref (x_ad x 0)), (1, .int x1), (2, .int x2), (3, .int x3), (4, .int x4), (5, .int x5), (6, .int x6)] [] := by
  unfold b_X11_sumOf_170 at h
  obtain ⟨y_1, ey_1, h⟩ := lt_E h
  refine r_iinc C.1 6 [(6, .int y_1), (0, .ref (x_ad x 0)), (1, .int x1), (2, .int x2), (3, .int x3), (4, .int x4), (5, .int x5)] dX11_sumOf_170 rfl ey_1 (by decide) rfl ?_
  refine r_goto C.1 6 dX11_sumOf_173 (by decide) ?_
  exact r_sub [1, 2, 3, 4, 5, 6, 0] rfl (kh _ (Option.some.inj h).symm)

def b_X11_sumOf_167 (M : xM) (x1 : Int32) (x2 : Int32) (x3 : Int32) (x4 : Int32) (x6 : Int32) (s0 : Int32) (s1 : Int32) : Option ((Int32 × Int32) ⊕ (Int32)) :=
  lt (s1 - s0) (fun y_1 => b_X11_sumOf_170 M x1 x2 x3 x4 y_1 x6)
set_option maxRecDepth 20000 in
set_option maxHeartbeats 2000000 in
theorem w_X11_sumOf_167 {x : xC} (C : CtM x RX11 cX11_sumOf 9 ({ frames := 2, cells := 0, slots := 0, locals := 43 } : Room)) (M : xM) (x1 : Int32) (x2 : Int32) (x3 : Int32) (x4 : Int32) (x6 : Int32) (s0 : Int32) (s1 : Int32)  (o : (Int32 × Int32) ⊕ (Int32)) (h : b_X11_sumOf_167 M x1 x2 x3 x4 x6 s0 s1 = some o) (kh : ∀ s : Int32 × Int32, o = .inl s → J x M 6 [(0, .ref (x_ad x 0)), (1, .int x1), (2, .int x2), (3, .int x3), (4, .int x4), (5, .int s.1), (6, .int s.2)] []) (ke_0 : ∀ v : Int32, o = .inr v → J x M 176 [(5, .int v)] []) : J x M 167 [(0, .ref (x_ad x 0)), (1, .int x1), (2, .int x2), (3, .int x3), (4, .int x4), (6, .int x6)] [.int s0, .int s1] := by
  unfold b_X11_sumOf_167 at h
  refine r_isub C.1 dX11_sumOf_167 ?_
  obtain ⟨y_1, ey_1, h⟩ := lt_E h
  refine r_istore C.1 [(5, .int y_1), (0, .ref (x_ad x 0)), (1, .int x1), (2, .int x2), (3, .int x3), (4, .int x4), (6, .int x6)] dX11_sumOf_168 (by decide) ey_1 rfl ?_
  exact r_sub [1, 2, 3, 4, 5, 0, 6] rfl (w_X11_sumOf_170 C M x1 x2 x3 x4 y_1 x6 _ h kh ke_0)

def b_X11_sumOf_166 (M : xM) (x1 : Int32) (x2 : Int32) (x3 : Int32) (x4 : Int32) (x6 : Int32) (s0 : Int32) : Option ((Int32 × Int32) ⊕ (Int32)) :=
  b_X11_sumOf_167 M x1 x2 x3 x4 x6 (0 : Int32) s0
set_option maxRecDepth 20000 in
set_option maxHeartbeats 2000000 in
theorem w_X11_sumOf_166 {x : xC} (C : CtM x RX11 cX11_sumOf 9 ({ frames := 2, cells := 0, slots := 0, locals := 43 } : Room)) (M : xM) (x1 : Int32) (x2 : Int32) (x3 : Int32) (x4 : Int32) (x6 : Int32) (s0 : Int32)  (o : (Int32 × Int32) ⊕ (Int32)) (h : b_X11_sumOf_166 M x1 x2 x3 x4 x6 s0 = some o) (kh : ∀ s : Int32 × Int32, o = .inl s → J x M 6 [(0, .ref (x_ad x 0)), (1, .int x1), (2, .int x2), (3, .int x3), (4, .int x4), (5, .int s.1), (6, .int s.2)] []) (ke_0 : ∀ v : Int32, o = .inr v → J x M 176 [(5, .int v)] []) : J x M 166 [(0, .ref (x_ad x 0)), (1, .int x1), (2, .int x2), (3, .int x3), (4, .int x4), (6, .int x6)] [.int s0] := by
  unfold b_X11_sumOf_166 at h
  refine r_iconst (v := 0) C.1 dX11_sumOf_166 rfl ?_
  exact r_sub [0, 1, 2, 3, 4, 5] rfl (w_X11_sumOf_167 C M x1 x2 x3 x4 x6 (0 : Int32) s0 _ h kh ke_0)

def b_X11_sumOf_144 (M : xM) (x1 : Int32) (x2 : Int32) (x3 : Int32) (x4 : Int32) (x6 : Int32) (x7 : Int32) (x8 : Int32) (s0 : Int32) (s1 : Int32) : Option ((Int32 × Int32) ⊕ (Int32)) :=
  lt (s1 + s0) (fun y_1 => if x4 = (4 : Int32) then if x7 = (3 : Int32) then b_X11_sumOf_167 M x1 x2 x3 x4 x6 x8 y_1 else b_X11_sumOf_166 M x1 x2 x3 x4 x6 y_1 else b_X11_sumOf_166 M x1 x2 x3 x4 x6 y_1)
set_option maxRecDepth 20000 in
set_option maxHeartbeats 2000000 in
theorem w_X11_sumOf_144 {x : xC} (C : CtM x RX11 cX11_sumOf 9 ({ frames := 2, cells := 0, slots := 0, locals := 43 } : Room)) (M : xM) (x1 : Int32) (x2 : Int32) (x3 : Int32) (x4 : Int32) (x6 : Int32) (x7 : Int32) (x8 : Int32) (s0 : Int32) (s1 : Int32)  (o : (Int32 × Int32) ⊕ (Int32)) (h : b_X11_sumOf_144 M x1 x2 x3 x4 x6 x7 x8 s0 s1 = some o) (kh : ∀ s : Int32 × Int32, o = .inl s → J x M 6 [(0, .ref (x_ad x 0)), (1, .int x1), (2, .int x2), (3, .int x3), (4, .int x4), (5, .int s.1), (6, .int s.2)] []) (ke_0 : ∀ v : Int32, o = .inr v → J x M 176 [(5, .int v)] []) : J x M 144 [(0, .ref (x_ad x 0)), (1, .int x1), (2, .int x2), (3, .int x3), (4, .int x4), (6, .int x6), (7, .int x7), (8, .int x8)] [.int s0, .int s1] := by
  unfold b_X11_sumOf_144 at h
  refine r_iadd C.1 dX11_sumOf_144 ?_
  obtain ⟨y_1, ey_1, h⟩ := lt_E h
  refine r_istore C.1 [(5, .int y_1), (0, .ref (x_ad x 0)), (1, .int x1), (2, .int x2), (3, .int x3), (4, .int x4), (6, .int x6), (7, .int x7), (8, .int x8)] dX11_sumOf_145 (by decide) ey_1 rfl ?_
  refine r_iload C.1 0 dX11_sumOf_147 rfl ?_
  refine r_iload C.1 5 dX11_sumOf_149 rfl ?_
  refine r_iconst (v := 4) C.1 dX11_sumOf_151 rfl ?_
  refine r_icmp_ne C.1 166 dX11_sumOf_152 (by decide) (fun c_2 => ?_) (fun c_2 => ?_)
  · replace h := ite_F c_2 h
    exact r_sub [1, 2, 3, 4, 5, 6] rfl (w_X11_sumOf_166 C M x1 x2 x3 x4 x6 y_1 _ h kh ke_0)
  · replace h := ite_T c_2 h
    refine r_iload C.1 7 dX11_sumOf_155 rfl ?_
    refine r_iconst (v := 3) C.1 dX11_sumOf_157 rfl ?_
    refine r_icmp_ne C.1 166 dX11_sumOf_158 (by decide) (fun c_3 => ?_) (fun c_3 => ?_)
    · replace h := ite_F c_3 h
      exact r_sub [1, 2, 3, 4, 5, 6] rfl (w_X11_sumOf_166 C M x1 x2 x3 x4 x6 y_1 _ h kh ke_0)
    · replace h := ite_T c_3 h
      refine r_iload C.1 8 dX11_sumOf_161 rfl ?_
      refine r_goto C.1 167 dX11_sumOf_163 (by decide) ?_
      exact r_sub [1, 2, 3, 4, 5, 6] rfl (w_X11_sumOf_167 C M x1 x2 x3 x4 x6 x8 y_1 _ h kh ke_0)

def b_X11_sumOf_143 (M : xM) (x1 : Int32) (x2 : Int32) (x3 : Int32) (x4 : Int32) (x6 : Int32) (x7 : Int32) (x8 : Int32) (s0 : Int32) : Option ((Int32 × Int32) ⊕ (Int32)) :=
  b_X11_sumOf_144 M x1 x2 x3 x4 x6 x7 x8 (0 : Int32) s0
set_option maxRecDepth 20000 in
set_option maxHeartbeats 2000000 in
theorem w_X11_sumOf_143 {x : xC} (C : CtM x RX11 cX11_sumOf 9 ({ frames := 2, cells := 0, slots := 0, locals := 43 } : Room)) (M : xM) (x1 : Int32) (x2 : Int32) (x3 : Int32) (x4 : Int32) (x6 : Int32) (x7 : Int32) (x8 : Int32) (s0 : Int32)  (o : (Int32 × Int32) ⊕ (Int32)) (h : b_X11_sumOf_143 M x1 x2 x3 x4 x6 x7 x8 s0 = some o) (kh : ∀ s : Int32 × Int32, o = .inl s → J x M 6 [(0, .ref (x_ad x 0)), (1, .int x1), (2, .int x2), (3, .int x3), (4, .int x4), (5, .int s.1), (6, .int s.2)] []) (ke_0 : ∀ v : Int32, o = .inr v → J x M 176 [(5, .int v)] []) : J x M 143 [(0, .ref (x_ad x 0)), (1, .int x1), (2, .int x2), (3, .int x3), (4, .int x4), (6, .int x6), (7, .int x7), (8, .int x8)] [.int s0] := by
  unfold b_X11_sumOf_143 at h
  refine r_iconst (v := 0) C.1 dX11_sumOf_143 rfl ?_
  exact r_sub [0, 1, 2, 3, 4, 5, 6, 7] rfl (w_X11_sumOf_144 C M x1 x2 x3 x4 x6 x7 x8 (0 : Int32) s0 _ h kh ke_0)

def b_X11_sumOf_122 (M : xM) (x1 : Int32) (x2 : Int32) (x3 : Int32) (x4 : Int32) (x6 : Int32) (x7 : Int32) (x8 : Int32) (s0 : Int32) : Option ((Int32 × Int32) ⊕ (Int32)) :=
  if x4 = (3 : Int32) then if x7 = (1 : Int32) then bd (f_X11_disallowed M x6) (fun r_3 => b_X11_sumOf_144 M x1 x2 x3 x4 x6 x7 x8 r_3 s0) else b_X11_sumOf_143 M x1 x2 x3 x4 x6 x7 x8 s0 else b_X11_sumOf_143 M x1 x2 x3 x4 x6 x7 x8 s0
set_option maxRecDepth 20000 in
set_option maxHeartbeats 2000000 in
theorem w_X11_sumOf_122 {x : xC} (C : CtM x RX11 cX11_sumOf 9 ({ frames := 2, cells := 0, slots := 0, locals := 43 } : Room)) (M : xM) (x1 : Int32) (x2 : Int32) (x3 : Int32) (x4 : Int32) (x6 : Int32) (x7 : Int32) (x8 : Int32) (s0 : Int32)  (o : (Int32 × Int32) ⊕ (Int32)) (h : b_X11_sumOf_122 M x1 x2 x3 x4 x6 x7 x8 s0 = some o) (kh : ∀ s : Int32 × Int32, o = .inl s → J x M 6 [(0, .ref (x_ad x 0)), (1, .int x1), (2, .int x2), (3, .int x3), (4, .int x4), (5, .int s.1), (6, .int s.2)] []) (ke_0 : ∀ v : Int32, o = .inr v → J x M 176 [(5, .int v)] []) : J x M 122 [(0, .ref (x_ad x 0)), (1, .int x1), (2, .int x2), (3, .int x3), (4, .int x4), (6, .int x6), (7, .int x7), (8, .int x8)] [.int s0] := by
  unfold b_X11_sumOf_122 at h
  refine r_iload C.1 4 dX11_sumOf_122 rfl ?_
  refine r_iconst (v := 3) C.1 dX11_sumOf_124 rfl ?_
  refine r_icmp_ne C.1 143 dX11_sumOf_125 (by decide) (fun c_1 => ?_) (fun c_1 => ?_)
  · replace h := ite_F c_1 h
    exact r_sub [0, 1, 2, 3, 4, 5, 6, 7] rfl (w_X11_sumOf_143 C M x1 x2 x3 x4 x6 x7 x8 s0 _ h kh ke_0)
  · replace h := ite_T c_1 h
    refine r_iload C.1 6 dX11_sumOf_128 rfl ?_
    refine r_iconst (v := 1) C.1 dX11_sumOf_130 rfl ?_
    refine r_icmp_ne C.1 143 dX11_sumOf_131 (by decide) (fun c_2 => ?_) (fun c_2 => ?_)
    · replace h := ite_F c_2 h
      exact r_sub [0, 1, 2, 3, 4, 5, 6, 7] rfl (w_X11_sumOf_143 C M x1 x2 x3 x4 x6 x7 x8 s0 _ h kh ke_0)
    · replace h := ite_T c_2 h
      refine r_aload_n C.1 0 dX11_sumOf_134 rfl rfl ?_
      refine r_iload C.1 5 dX11_sumOf_135 rfl ?_
      obtain ⟨r_3, hc_4, h⟩ := bd_E h
      refine cl_X11_237 C ⟨Nat.le_of_ble_eq_true rfl, Nat.le_of_ble_eq_true rfl⟩ (m_X11_disallowed _ _ _ M x6 hc_4) (Nat.le_of_ble_eq_true rfl) dX11_sumOf_137 ?_
      refine r_goto C.1 144 dX11_sumOf_140 (by decide) ?_
      exact r_sub [0, 1, 2, 3, 4, 5, 6, 7] rfl (w_X11_sumOf_144 C M x1 x2 x3 x4 x6 x7 x8 r_3 s0 _ h kh ke_0)

def b_X11_sumOf_95 (M : xM) (x1 : Int32) (x2 : Int32) (x3 : Int32) (x4 : Int32) (x6 : Int32) (x7 : Int32) (x8 : Int32) (s0 : Int32) (s1 : Int32) : Option ((Int32 × Int32) ⊕ (Int32)) :=
  lt (s1 + s0) (fun y_1 => if x4 = (2 : Int32) then if x7 = (1 : Int32) then gd x6 40 (b_X11_sumOf_144 M x1 x2 x3 x4 x6 x7 x8 (M 8 x6.toNatClampNeg) y_1) else b_X11_sumOf_122 M x1 x2 x3 x4 x6 x7 x8 y_1 else b_X11_sumOf_122 M x1 x2 x3 x4 x6 x7 x8 y_1)
set_option maxRecDepth 20000 in
set_option maxHeartbeats 2000000 in
theorem w_X11_sumOf_95 {x : xC} (C : CtM x RX11 cX11_sumOf 9 ({ frames := 2, cells := 0, slots := 0, locals := 43 } : Room)) (M : xM) (x1 : Int32) (x2 : Int32) (x3 : Int32) (x4 : Int32) (x6 : Int32) (x7 : Int32) (x8 : Int32) (s0 : Int32) (s1 : Int32)  (o : (Int32 × Int32) ⊕ (Int32)) (h : b_X11_sumOf_95 M x1 x2 x3 x4 x6 x7 x8 s0 s1 = some o) (kh : ∀ s : Int32 × Int32, o = .inl s → J x M 6 [(0, .ref (x_ad x 0)), (1, .int x1), (2, .int x2), (3, .int x3), (4, .int x4), (5, .int s.1), (6, .int s.2)] []) (ke_0 : ∀ v : Int32, o = .inr v → J x M 176 [(5, .int v)] []) : J x M 95 [(0, .ref (x_ad x 0)), (1, .int x1), (2, .int x2), (3, .int x3), (4, .int x4), (6, .int x6), (7, .int x7), (8, .int x8)] [.int s0, .int s1] := by
  unfold b_X11_sumOf_95 at h
  refine r_iadd C.1 dX11_sumOf_95 ?_
  obtain ⟨y_1, ey_1, h⟩ := lt_E h
  refine r_istore C.1 [(5, .int y_1), (0, .ref (x_ad x 0)), (1, .int x1), (2, .int x2), (3, .int x3), (4, .int x4), (6, .int x6), (7, .int x7), (8, .int x8)] dX11_sumOf_96 (by decide) ey_1 rfl ?_
  refine r_iload C.1 0 dX11_sumOf_98 rfl ?_
  refine r_iload C.1 5 dX11_sumOf_100 rfl ?_
  refine r_iconst (v := 2) C.1 dX11_sumOf_102 rfl ?_
  refine r_icmp_ne C.1 122 dX11_sumOf_103 (by decide) (fun c_2 => ?_) (fun c_2 => ?_)
  · replace h := ite_F c_2 h
    exact r_sub [1, 2, 3, 4, 5, 6, 7, 8] rfl (w_X11_sumOf_122 C M x1 x2 x3 x4 x6 x7 x8 y_1 _ h kh ke_0)
  · replace h := ite_T c_2 h
    refine r_iload C.1 7 dX11_sumOf_106 rfl ?_
    refine r_iconst (v := 1) C.1 dX11_sumOf_108 rfl ?_
    refine r_icmp_ne C.1 122 dX11_sumOf_109 (by decide) (fun c_3 => ?_) (fun c_3 => ?_)
    · replace h := ite_F c_3 h
      exact r_sub [1, 2, 3, 4, 5, 6, 7, 8] rfl (w_X11_sumOf_122 C M x1 x2 x3 x4 x6 x7 x8 y_1 _ h kh ke_0)
    · replace h := ite_T c_3 h
      refine r_aload_n C.1 1 dX11_sumOf_112 rfl rfl ?_
      refine gf_X11_31 C dX11_sumOf_113 ?_
      refine r_iload C.1 6 dX11_sumOf_116 rfl ?_
      obtain ⟨q_4, h⟩ := gd_E h
      refine r_iald C.1 (mK C (by decide)) (mS C (shm_8)) 0 (mT0 C) q_4 dX11_sumOf_118 ?_
      refine r_goto C.1 144 dX11_sumOf_119 (by decide) ?_
      exact r_sub [1, 2, 3, 4, 5, 6, 7, 8] rfl (w_X11_sumOf_144 C M x1 x2 x3 x4 x6 x7 x8 (M 8 x6.toNatClampNeg) y_1 _ h kh ke_0)

def b_X11_sumOf_89 (M : xM) (x1 : Int32) (x2 : Int32) (x3 : Int32) (x4 : Int32) (x6 : Int32) (x7 : Int32) (x8 : Int32) (s0 : Int32) : Option ((Int32 × Int32) ⊕ (Int32)) :=
  b_X11_sumOf_95 M x1 x2 x3 x4 x6 x7 x8 x8 s0
set_option maxRecDepth 20000 in
set_option maxHeartbeats 2000000 in
theorem w_X11_sumOf_89 {x : xC} (C : CtM x RX11 cX11_sumOf 9 ({ frames := 2, cells := 0, slots := 0, locals := 43 } : Room)) (M : xM) (x1 : Int32) (x2 : Int32) (x3 : Int32) (x4 : Int32) (x6 : Int32) (x7 : Int32) (x8 : Int32) (s0 : Int32)  (o : (Int32 × Int32) ⊕ (Int32)) (h : b_X11_sumOf_89 M x1 x2 x3 x4 x6 x7 x8 s0 = some o) (kh : ∀ s : Int32 × Int32, o = .inl s → J x M 6 [(0, .ref (x_ad x 0)), (1, .int x1), (2, .int x2), (3, .int x3), (4, .int x4), (5, .int s.1), (6, .int s.2)] []) (ke_0 : ∀ v : Int32, o = .inr v → J x M 176 [(5, .int v)] []) : J x M 89 [(0, .ref (x_ad x 0)), (1, .int x1), (2, .int x2), (3, .int x3), (4, .int x4), (6, .int x6), (7, .int x7), (8, .int x8)] [.int s0] := by
  unfold b_X11_sumOf_89 at h
  refine r_iload C.1 7 dX11_sumOf_89 rfl ?_
  refine r_goto C.1 95 dX11_sumOf_91 (by decide) ?_
  exact r_sub [0, 1, 2, 3, 4, 5, 6, 7] rfl (w_X11_sumOf_95 C M x1 x2 x3 x4 x6 x7 x8 x8 s0 _ h kh ke_0)

def b_X11_sumOf_94 (M : xM) (x1 : Int32) (x2 : Int32) (x3 : Int32) (x4 : Int32) (x6 : Int32) (x7 : Int32) (x8 : Int32) (s0 : Int32) : Option ((Int32 × Int32) ⊕ (Int32)) :=
  b_X11_sumOf_95 M x1 x2 x3 x4 x6 x7 x8 (0 : Int32) s0
set_option maxRecDepth 20000 in
set_option maxHeartbeats 2000000 in
theorem w_X11_sumOf_94 {x : xC} (C : CtM x RX11 cX11_sumOf 9 ({ frames := 2, cells := 0, slots := 0, locals := 43 } : Room)) (M : xM) (x1 : Int32) (x2 : Int32) (x3 : Int32) (x4 : Int32) (x6 : Int32) (x7 : Int32) (x8 : Int32) (s0 : Int32)  (o : (Int32 × Int32) ⊕ (Int32)) (h : b_X11_sumOf_94 M x1 x2 x3 x4 x6 x7 x8 s0 = some o) (kh : ∀ s : Int32 × Int32, o = .inl s → J x M 6 [(0, .ref (x_ad x 0)), (1, .int x1), (2, .int x2), (3, .int x3), (4, .int x4), (5, .int s.1), (6, .int s.2)] []) (ke_0 : ∀ v : Int32, o = .inr v → J x M 176 [(5, .int v)] []) : J x M 94 [(0, .ref (x_ad x 0)), (1, .int x1), (2, .int x2), (3, .int x3), (4, .int x4), (6, .int x6), (7, .int x7), (8, .int x8)] [.int s0] := by
  unfold b_X11_sumOf_94 at h
  refine r_iconst (v := 0) C.1 dX11_sumOf_94 rfl ?_
  exact r_sub [0, 1, 2, 3, 4, 5, 6, 7] rfl (w_X11_sumOf_95 C M x1 x2 x3 x4 x6 x7 x8 (0 : Int32) s0 _ h kh ke_0)

def b_X11_sumOf_77 (M : xM) (x1 : Int32) (x2 : Int32) (x3 : Int32) (x4 : Int32) (x6 : Int32) (x7 : Int32) (x8 : Int32) (s0 : Int32) : Option ((Int32 × Int32) ⊕ (Int32)) :=
  if x4 = (4 : Int32) then if x7 = (2 : Int32) then b_X11_sumOf_89 M x1 x2 x3 x4 x6 x7 x8 s0 else b_X11_sumOf_94 M x1 x2 x3 x4 x6 x7 x8 s0 else b_X11_sumOf_94 M x1 x2 x3 x4 x6 x7 x8 s0
set_option maxRecDepth 20000 in
set_option maxHeartbeats 2000000 in
theorem w_X11_sumOf_77 {x : xC} (C : CtM x RX11 cX11_sumOf 9 ({ frames := 2, cells := 0, slots := 0, locals := 43 } : Room)) (M : xM) (x1 : Int32) (x2 : Int32) (x3 : Int32) (x4 : Int32) (x6 : Int32) (x7 : Int32) (x8 : Int32) (s0 : Int32)  (o : (Int32 × Int32) ⊕ (Int32)) (h : b_X11_sumOf_77 M x1 x2 x3 x4 x6 x7 x8 s0 = some o) (kh : ∀ s : Int32 × Int32, o = .inl s → J x M 6 [(0, .ref (x_ad x 0)), (1, .int x1), (2, .int x2), (3, .int x3), (4, .int x4), (5, .int s.1), (6, .int s.2)] []) (ke_0 : ∀ v : Int32, o = .inr v → J x M 176 [(5, .int v)] []) : J x M 77 [(0, .ref (x_ad x 0)), (1, .int x1), (2, .int x2), (3, .int x3), (4, .int x4), (6, .int x6), (7, .int x7), (8, .int x8)] [.int s0] := by
  unfold b_X11_sumOf_77 at h
  refine r_iload C.1 4 dX11_sumOf_77 rfl ?_
  refine r_iconst (v := 4) C.1 dX11_sumOf_79 rfl ?_
  refine r_icmp_ne C.1 94 dX11_sumOf_80 (by decide) (fun c_1 => ?_) (fun c_1 => ?_)
  · replace h := ite_F c_1 h
    exact r_sub [0, 1, 2, 3, 4, 5, 6, 7] rfl (w_X11_sumOf_94 C M x1 x2 x3 x4 x6 x7 x8 s0 _ h kh ke_0)
  · replace h := ite_T c_1 h
    refine r_iload C.1 6 dX11_sumOf_83 rfl ?_
    refine r_iconst (v := 2) C.1 dX11_sumOf_85 rfl ?_
    refine r_icmp_ne C.1 94 dX11_sumOf_86 (by decide) (fun c_2 => ?_) (fun c_2 => ?_)
    · replace h := ite_F c_2 h
      exact r_sub [0, 1, 2, 3, 4, 5, 6, 7] rfl (w_X11_sumOf_94 C M x1 x2 x3 x4 x6 x7 x8 s0 _ h kh ke_0)
    · replace h := ite_T c_2 h
      exact r_sub [0, 1, 2, 3, 4, 5, 6, 7] rfl (w_X11_sumOf_89 C M x1 x2 x3 x4 x6 x7 x8 s0 _ h kh ke_0)

def bl_X11_sumOf_6 (M : xM) (x1 : Int32) (x2 : Int32) (x3 : Int32) (x4 : Int32) (x5 : Int32) (x6 : Int32) : Option ((Int32 × Int32) ⊕ (Int32)) :=
  gd (2 : Int32) 495 (if (M 4 (2 : Int32).toNatClampNeg) ≤ x6 then some (.inr x5) else bd (f_X11_entryOf M x6 (0 : Int32)) (fun r_3 => bd (f_X11_entryOf M x6 (3 : Int32)) (fun r_5 => bd (f_X11_entryOf M x6 (1 : Int32)) (fun r_7 => if r_7 = x1 then bd (f_X11_entryOf M x6 (2 : Int32)) (fun r_10 => bd (f_X11_in M r_10.toInt64 x2.toInt64 x3.toInt64) (fun r_12 => if r_12 = 0 then b_X11_sumOf_170 M x1 x2 x3 x4 x5 x6 else if x4 = (1 : Int32) then if r_3 = 0 then b_X11_sumOf_89 M x1 x2 x3 x4 x6 r_3 r_5 x5 else b_X11_sumOf_77 M x1 x2 x3 x4 x6 r_3 r_5 x5 else b_X11_sumOf_77 M x1 x2 x3 x4 x6 r_3 r_5 x5)) else b_X11_sumOf_170 M x1 x2 x3 x4 x5 x6))))
set_option maxRecDepth 20000 in
set_option maxHeartbeats 2000000 in
theorem wl_X11_sumOf_6 {x : xC} (C : CtM x RX11 cX11_sumOf 9 ({ frames := 2, cells := 0, slots := 0, locals := 43 } : Room)) (M : xM) (x1 : Int32) (x2 : Int32) (x3 : Int32) (x4 : Int32) (x5 : Int32) (x6 : Int32)  (o : (Int32 × Int32) ⊕ (Int32)) (h : bl_X11_sumOf_6 M x1 x2 x3 x4 x5 x6 = some o) (kh : ∀ s : Int32 × Int32, o = .inl s → J x M 6 [(0, .ref (x_ad x 0)), (1, .int x1), (2, .int x2), (3, .int x3), (4, .int x4), (5, .int s.1), (6, .int s.2)] []) (ke_0 : ∀ v : Int32, o = .inr v → J x M 176 [(5, .int v)] []) : J x M 6 [(0, .ref (x_ad x 0)), (1, .int x1), (2, .int x2), (3, .int x3), (4, .int x4), (5, .int x5), (6, .int x6)] [] := by
  unfold bl_X11_sumOf_6 at h
  refine r_iload C.1 6 dX11_sumOf_6 rfl ?_
  refine r_aload_n C.1 0 dX11_sumOf_8 rfl rfl ?_
  refine gf_X11_19 C dX11_sumOf_9 ?_
  refine r_iconst (v := 2) C.1 dX11_sumOf_12 rfl ?_
  obtain ⟨q_1, h⟩ := gd_E h
  refine r_iald C.1 (mK C (by decide)) (mS C (shm_4)) 0 (mT0 C) q_1 dX11_sumOf_13 ?_
  refine r_icmp_ge C.1 176 dX11_sumOf_14 (by decide) (fun c_2 => ?_) (fun c_2 => ?_)
  · replace h := ite_T c_2 h
    exact r_sub [5] rfl (ke_0 _ (Option.some.inj h).symm)
  · replace h := ite_F c_2 h
    refine r_aload_n C.1 0 dX11_sumOf_17 rfl rfl ?_
    refine r_iload C.1 6 dX11_sumOf_18 rfl ?_
    refine r_iconst (v := 0) C.1 dX11_sumOf_20 rfl ?_
    obtain ⟨r_3, hc_4, h⟩ := bd_E h
    refine cl_X11_173 C ⟨Nat.le_of_ble_eq_true rfl, Nat.le_of_ble_eq_true rfl⟩ (m_X11_entryOf _ _ _ M x6 (0 : Int32) hc_4) (Nat.le_of_ble_eq_true rfl) dX11_sumOf_21 ?_
    refine r_istore C.1 [(7, .int r_3), (0, .ref (x_ad x 0)), (1, .int x1), (2, .int x2), (3, .int x3), (4, .int x4), (5, .int x5), (6, .int x6)] dX11_sumOf_24 (by decide) rfl rfl ?_
    refine r_aload_n C.1 1 dX11_sumOf_26 rfl rfl ?_
    refine r_iload C.1 7 dX11_sumOf_27 rfl ?_
    refine r_iconst (v := 3) C.1 dX11_sumOf_29 rfl ?_
    obtain ⟨r_5, hc_6, h⟩ := bd_E h
    refine cl_X11_173 C ⟨Nat.le_of_ble_eq_true rfl, Nat.le_of_ble_eq_true rfl⟩ (m_X11_entryOf _ _ _ M x6 (3 : Int32) hc_6) (Nat.le_of_ble_eq_true rfl) dX11_sumOf_30 ?_
    refine r_istore C.1 [(8, .int r_5), (7, .int r_3), (0, .ref (x_ad x 0)), (1, .int x1), (2, .int x2), (3, .int x3), (4, .int x4), (5, .int x5), (6, .int x6)] dX11_sumOf_33 (by decide) rfl rfl ?_
    refine r_aload_n C.1 2 dX11_sumOf_35 rfl rfl ?_
    refine r_iload C.1 8 dX11_sumOf_36 rfl ?_
    refine r_iconst (v := 1) C.1 dX11_sumOf_38 rfl ?_
    obtain ⟨r_7, hc_8, h⟩ := bd_E h
    refine cl_X11_173 C ⟨Nat.le_of_ble_eq_true rfl, Nat.le_of_ble_eq_true rfl⟩ (m_X11_entryOf _ _ _ M x6 (1 : Int32) hc_8) (Nat.le_of_ble_eq_true rfl) dX11_sumOf_39 ?_
    refine r_iload_n C.1 3 dX11_sumOf_42 rfl rfl ?_
    refine r_icmp_ne C.1 170 dX11_sumOf_43 (by decide) (fun c_9 => ?_) (fun c_9 => ?_)
    · replace h := ite_F c_9 h
      exact r_sub [2, 3, 4, 5, 6, 7, 8] rfl (w_X11_sumOf_170 C M x1 x2 x3 x4 x5 x6 _ h kh ke_0)
    · replace h := ite_T c_9 h
      refine r_aload_n C.1 2 dX11_sumOf_46 rfl rfl ?_
      refine r_iload C.1 8 dX11_sumOf_47 rfl ?_
      refine r_iconst (v := 2) C.1 dX11_sumOf_49 rfl ?_
      obtain ⟨r_10, hc_11, h⟩ := bd_E h
      refine cl_X11_173 C ⟨Nat.le_of_ble_eq_true rfl, Nat.le_of_ble_eq_true rfl⟩ (m_X11_entryOf _ _ _ M x6 (2 : Int32) hc_11) (Nat.le_of_ble_eq_true rfl) dX11_sumOf_50 ?_
      refine r_i2l C.1 dX11_sumOf_53 ?_
      refine r_iload_n C.1 4 dX11_sumOf_54 rfl rfl ?_
      refine r_i2l C.1 dX11_sumOf_55 ?_
      refine r_iload_n C.1 5 dX11_sumOf_56 rfl rfl ?_
      refine r_i2l C.1 dX11_sumOf_57 ?_
      obtain ⟨r_12, hc_13, h⟩ := bd_E h
      refine cl_X11_67 C ⟨Nat.le_of_ble_eq_true rfl, Nat.le_of_ble_eq_true rfl⟩ (m_X11_in _ _ _ M r_10.toInt64 x2.toInt64 x3.toInt64 hc_13) (Nat.le_of_ble_eq_true rfl) dX11_sumOf_58 ?_
      refine r_if_eq C.1 170 dX11_sumOf_61 (by decide) (fun c_14 => ?_) (fun c_14 => ?_)
      · replace h := ite_T c_14 h
        exact r_sub [2, 3, 4, 5, 6, 7, 8] rfl (w_X11_sumOf_170 C M x1 x2 x3 x4 x5 x6 _ h kh ke_0)
      · replace h := ite_F c_14 h
        refine r_iload C.1 7 dX11_sumOf_64 rfl ?_
        refine r_iload C.1 6 dX11_sumOf_66 rfl ?_
        refine r_iconst (v := 1) C.1 dX11_sumOf_68 rfl ?_
        refine r_icmp_ne C.1 77 dX11_sumOf_69 (by decide) (fun c_15 => ?_) (fun c_15 => ?_)
        · replace h := ite_F c_15 h
          exact r_sub [2, 3, 4, 5, 6, 8, 1, 0] rfl (w_X11_sumOf_77 C M x1 x2 x3 x4 x6 r_3 r_5 x5 _ h kh ke_0)
        · replace h := ite_T c_15 h
          refine r_iload C.1 1 dX11_sumOf_72 rfl ?_
          refine r_if_eq C.1 89 dX11_sumOf_74 (by decide) (fun c_16 => ?_) (fun c_16 => ?_)
          · replace h := ite_T c_16 h
            exact r_sub [2, 3, 4, 5, 6, 8, 1, 0] rfl (w_X11_sumOf_89 C M x1 x2 x3 x4 x6 r_3 r_5 x5 _ h kh ke_0)
          · replace h := ite_F c_16 h
            exact r_sub [2, 3, 4, 5, 6, 8, 1, 0] rfl (w_X11_sumOf_77 C M x1 x2 x3 x4 x6 r_3 r_5 x5 _ h kh ke_0)

def b_X11_sumOf_6 (M : xM) (x1 : Int32) (x2 : Int32) (x3 : Int32) (x4 : Int32) (x5 : Int32) (x6 : Int32) : Option (Int32) :=
  bd (loopN (fun s : Int32 × Int32 => bl_X11_sumOf_6 M x1 x2 x3 x4 s.1 s.2) BG (x5, x6)) (fun v => some v)
set_option maxRecDepth 20000 in
set_option maxHeartbeats 2000000 in
theorem w_X11_sumOf_6 {x : xC} (C : CtM x RX11 cX11_sumOf 9 ({ frames := 2, cells := 0, slots := 0, locals := 43 } : Room)) (M : xM) (x1 : Int32) (x2 : Int32) (x3 : Int32) (x4 : Int32) (x5 : Int32) (x6 : Int32)  (o : Int32) (h : b_X11_sumOf_6 M x1 x2 x3 x4 x5 x6 = some o) (hr : (x_me x).sig.returnType = some .int) (ev : x_rv x = some (.int o)) (eM : x_M x = M) : J x M 6 [(0, .ref (x_ad x 0)), (1, .int x1), (2, .int x2), (3, .int x3), (4, .int x4), (5, .int x5), (6, .int x6)] [] := by
  unfold b_X11_sumOf_6 at h
  obtain ⟨r_0, hr_0, h⟩ := bd_E h
  refine loopN_ind (JJ := fun s => J x M 6 [(0, .ref (x_ad x 0)), (1, .int x1), (2, .int x2), (3, .int x3), (4, .int x4), (5, .int s.1), (6, .int s.2)] []) (KX := fun q => q = r_0) ?_ BG (x5, x6) r_0 hr_0 rfl
  intro s o1 hb kk1 kk2
  refine wl_X11_sumOf_6 C M x1 x2 x3 x4 s.1 s.2 _ hb kk1 ?_
  · intro v e0
    have e1 := kk2 _ e0
    subst e1
    refine r_iload C.1 0 dX11_sumOf_176 rfl ?_
    obtain rfl := Option.some.inj h
    exact r_iret C.1 hr ev eM dX11_sumOf_178

def b_X11_sumOf_0 (M : xM) (x1 : Int32) (x2 : Int32) (x3 : Int32) (x4 : Int32) : Option (Int32) :=
  b_X11_sumOf_6 M x1 x2 x3 x4 (0 : Int32) (0 : Int32)
set_option maxRecDepth 20000 in
set_option maxHeartbeats 2000000 in
theorem w_X11_sumOf_0 {x : xC} (C : CtM x RX11 cX11_sumOf 9 ({ frames := 2, cells := 0, slots := 0, locals := 43 } : Room)) (M : xM) (x1 : Int32) (x2 : Int32) (x3 : Int32) (x4 : Int32)  (o : Int32) (h : b_X11_sumOf_0 M x1 x2 x3 x4 = some o) (hr : (x_me x).sig.returnType = some .int) (ev : x_rv x = some (.int o)) (eM : x_M x = M) : J x M 0 [(0, .ref (x_ad x 0)), (1, .int x1), (2, .int x2), (3, .int x3), (4, .int x4)] [] := by
  unfold b_X11_sumOf_0 at h
  refine r_iconst (v := 0) C.1 dX11_sumOf_0 rfl ?_
  refine r_istore C.1 [(5, .int (0 : Int32)), (0, .ref (x_ad x 0)), (1, .int x1), (2, .int x2), (3, .int x3), (4, .int x4)] dX11_sumOf_1 (by decide) rfl rfl ?_
  refine r_iconst (v := 0) C.1 dX11_sumOf_3 rfl ?_
  refine r_istore C.1 [(6, .int (0 : Int32)), (5, .int (0 : Int32)), (0, .ref (x_ad x 0)), (1, .int x1), (2, .int x2), (3, .int x3), (4, .int x4)] dX11_sumOf_4 (by decide) rfl rfl ?_
  exact r_sub [2, 3, 4, 5, 6, 1, 0] rfl (w_X11_sumOf_6 C M x1 x2 x3 x4 (0 : Int32) (0 : Int32) _ h hr ev eM)
def f_X11_sumOf (M : xM) (x1 : Int32) (x2 : Int32) (x3 : Int32) (x4 : Int32) : Option (Int32) := b_X11_sumOf_0 M x1 x2 x3 x4
set_option maxRecDepth 20000 in
theorem m_X11_sumOf (l : Launch) (D : va_G) (ad : Nat → Nat) (M : xM) (x1 : Int32) (x2 : Int32) (x3 : Int32) (x4 : Int32)  {o : Int32} (h : f_X11_sumOf M x1 x2 x3 x4 = some o) : xMetM l yX11_sumOf cX11_sumOf 9 (some .int) ({ frames := 2, cells := 0, slots := 0, locals := 43 } : Room) [.ref (ad 0), .int x1, .int x2, .int x3, .int x4] D ad M (some (.int o)) M := by
  refine xMetM_of (own := RX11) (by decide) rfl (Nat.le_of_ble_eq_true rfl) ?_
  intro x C e1 e2 e3 ev eM hr
  subst e1; subst e2; subst e3
  refine r_sub (L := [(0, .ref (x_ad x 0)), (1, .int x1), (2, .int x2), (3, .int x3), (4, .int x4)]) (L' := [(0, .ref (x_ad x 0)), (1, .int x1), (2, .int x2), (3, .int x3), (4, .int x4)]) [0, 1, 2, 3, 4] rfl ?_
  exact w_X11_sumOf_0 C M x1 x2 x3 x4 _ h hr ev eM

def b_X11_commissionOf_0 (M : xM) (x1 : Int32) (x2 : Int32) : Option (Int32) :=
  bd (f_X11_its M x1 (15 : Int32)) (fun r_1 => if r_1 ≤ x2 then bd (f_X11_sumOf M x1 ((360 : Int32) * x2) ((((360 : Int32) * x2) + (360 : Int32)) - (1 : Int32)) (1 : Int32)) (fun r_4 => gd (5 : Int32) 7 (some (((r_4.toInt64 * ((M 3 (5 : Int32).toNatClampNeg).toInt64)) / (1000 : Int64)).toInt32))) else bd (f_X11_its M x1 ((26 : Int32) + x2)) (fun r_7 => some r_7))
set_option maxRecDepth 20000 in
set_option maxHeartbeats 2000000 in
theorem w_X11_commissionOf_0 {x : xC} (C : CtM x RX11 cX11_commissionOf 3 ({ frames := 3, cells := 0, slots := 0, locals := 71 } : Room)) (M : xM) (x1 : Int32) (x2 : Int32)  (o : Int32) (h : b_X11_commissionOf_0 M x1 x2 = some o) (hr : (x_me x).sig.returnType = some .int) (ev : x_rv x = some (.int o)) (eM : x_M x = M) : J x M 0 [(0, .ref (x_ad x 0)), (1, .int x1), (2, .int x2)] [] := by
  unfold b_X11_commissionOf_0 at h
  refine r_iload_n C.1 2 dX11_commissionOf_0 rfl rfl ?_
  refine r_aload_n C.1 0 dX11_commissionOf_1 rfl rfl ?_
  refine r_iload_n C.1 1 dX11_commissionOf_2 rfl rfl ?_
  refine r_bipush (v := 15) C.1 dX11_commissionOf_3 (by decide) ?_
  obtain ⟨r_1, hc_2, h⟩ := bd_E h
  refine cl_X11_176 C ⟨Nat.le_of_ble_eq_true rfl, Nat.le_of_ble_eq_true rfl⟩ (m_X11_its _ _ _ M x1 (15 : Int32) hc_2) (Nat.le_of_ble_eq_true rfl) dX11_commissionOf_5 ?_
  refine r_icmp_ge C.1 21 dX11_commissionOf_8 (by decide) (fun c_3 => ?_) (fun c_3 => ?_)
  · replace h := ite_T c_3 h
    refine r_aload_n C.1 0 dX11_commissionOf_21 rfl rfl ?_
    refine r_iload_n C.1 1 dX11_commissionOf_22 rfl rfl ?_
    refine r_sipush (v := 360) C.1 dX11_commissionOf_23 (by decide) ?_
    refine r_iload_n C.1 2 dX11_commissionOf_26 rfl rfl ?_
    refine r_imul C.1 dX11_commissionOf_27 ?_
    refine r_sipush (v := 360) C.1 dX11_commissionOf_28 (by decide) ?_
    refine r_iload_n C.1 2 dX11_commissionOf_31 rfl rfl ?_
    refine r_imul C.1 dX11_commissionOf_32 ?_
    refine r_sipush (v := 360) C.1 dX11_commissionOf_33 (by decide) ?_
    refine r_iadd C.1 dX11_commissionOf_36 ?_
    refine r_iconst (v := 1) C.1 dX11_commissionOf_37 rfl ?_
    refine r_isub C.1 dX11_commissionOf_38 ?_
    refine r_iconst (v := 1) C.1 dX11_commissionOf_39 rfl ?_
    obtain ⟨r_4, hc_5, h⟩ := bd_E h
    refine cl_X11_240 C ⟨Nat.le_of_ble_eq_true rfl, Nat.le_of_ble_eq_true rfl⟩ (m_X11_sumOf _ _ _ M x1 ((360 : Int32) * x2) ((((360 : Int32) * x2) + (360 : Int32)) - (1 : Int32)) (1 : Int32) hc_5) (Nat.le_of_ble_eq_true rfl) dX11_commissionOf_40 ?_
    refine r_i2l C.1 dX11_commissionOf_43 ?_
    refine r_aload_n C.1 0 dX11_commissionOf_44 rfl rfl ?_
    refine gf_X11_16 C dX11_commissionOf_45 ?_
    refine r_iconst (v := 5) C.1 dX11_commissionOf_48 rfl ?_
    obtain ⟨q_6, h⟩ := gd_E h
    refine r_iald C.1 (mK C (by decide)) (mS C (shm_3)) 0 (mT0 C) q_6 dX11_commissionOf_49 ?_
    refine r_i2l C.1 dX11_commissionOf_50 ?_
    refine r_lmul C.1 dX11_commissionOf_51 ?_
    refine r_ldc2 (v := 1000) C.1 kw_1614 dX11_commissionOf_52 ?_
    refine r_ldiv C.1 (by decide) dX11_commissionOf_55 ?_
    refine r_l2i C.1 dX11_commissionOf_56 ?_
    obtain rfl := Option.some.inj h
    exact r_iret C.1 hr ev eM dX11_commissionOf_57
  · replace h := ite_F c_3 h
    refine r_aload_n C.1 0 dX11_commissionOf_11 rfl rfl ?_
    refine r_iload_n C.1 1 dX11_commissionOf_12 rfl rfl ?_
    refine r_bipush (v := 26) C.1 dX11_commissionOf_13 (by decide) ?_
    refine r_iload_n C.1 2 dX11_commissionOf_15 rfl rfl ?_
    refine r_iadd C.1 dX11_commissionOf_16 ?_
    obtain ⟨r_7, hc_8, h⟩ := bd_E h
    refine cl_X11_176 C ⟨Nat.le_of_ble_eq_true rfl, Nat.le_of_ble_eq_true rfl⟩ (m_X11_its _ _ _ M x1 ((26 : Int32) + x2) hc_8) (Nat.le_of_ble_eq_true rfl) dX11_commissionOf_17 ?_
    obtain rfl := Option.some.inj h
    exact r_iret C.1 hr ev eM dX11_commissionOf_20
def f_X11_commissionOf (M : xM) (x1 : Int32) (x2 : Int32) : Option (Int32) := b_X11_commissionOf_0 M x1 x2
set_option maxRecDepth 20000 in
theorem m_X11_commissionOf (l : Launch) (D : va_G) (ad : Nat → Nat) (M : xM) (x1 : Int32) (x2 : Int32)  {o : Int32} (h : f_X11_commissionOf M x1 x2 = some o) : xMetM l yX11_commissionOf cX11_commissionOf 3 (some .int) ({ frames := 3, cells := 0, slots := 0, locals := 71 } : Room) [.ref (ad 0), .int x1, .int x2] D ad M (some (.int o)) M := by
  refine xMetM_of (own := RX11) (by decide) rfl (Nat.le_of_ble_eq_true rfl) ?_
  intro x C e1 e2 e3 ev eM hr
  subst e1; subst e2; subst e3
  refine r_sub (L := [(0, .ref (x_ad x 0)), (1, .int x1), (2, .int x2)]) (L' := [(0, .ref (x_ad x 0)), (1, .int x1), (2, .int x2)]) [0, 1, 2] rfl ?_
  exact w_X11_commissionOf_0 C M x1 x2 _ h hr ev eM

def b_X11_guardian_0 (M : xM) (x1 : Int32) : Option (Int32 × xM) :=
  lt (uM M 0 0 (0 : Int32)) (fun M_1 => bd (f_X11_in M_1 x1.toInt64 (0 : Int64) (999999 : Int64)) (fun r_2 => if r_2 = 0 then bd2 (f_X11_refuses M_1 (1 : Int32)) (fun r_20 M_22 => some (r_20, M_22)) else gd (0 : Int32) 495 (if (M_1 4 (0 : Int32).toNatClampNeg) = (3 : Int32) then bd2 (f_X11_refuses M_1 (4 : Int32)) (fun r_17 M_19 => some (r_17, M_19)) else bd (f_X11_keeps M_1) (fun M_9 => gd (0 : Int32) 495 (gd ((4 : Int32) + (M_9 4 (0 : Int32).toNatClampNeg)) 495 (lt (uM M_9 4 ((4 : Int32) + (M_9 4 (0 : Int32).toNatClampNeg)).toNatClampNeg x1) (fun M_12 => gd (0 : Int32) 495 (gd (0 : Int32) 495 (lt (uM M_12 4 (0 : Int32).toNatClampNeg ((M_12 4 (0 : Int32).toNatClampNeg) + (1 : Int32))) (fun M_15 => gd (0 : Int32) 495 (some ((M_15 4 (0 : Int32).toNatClampNeg) - (1 : Int32), M_15))))))))))))
set_option maxRecDepth 20000 in
set_option maxHeartbeats 2000000 in
theorem w_X11_guardian_0 {x : xC} (C : CtM x RX11 cX11_guardian 2 ({ frames := 1, cells := 0, slots := 0, locals := 25 } : Room)) (M : xM) (x1 : Int32)  (o : Int32 × xM) (h : b_X11_guardian_0 M x1 = some o) (hr : (x_me x).sig.returnType = some .int) (ev : x_rv x = some (.int o.1)) (eM : x_M x = o.2) : J x M 0 [(0, .ref (x_ad x 0)), (1, .int x1)] [] := by
  unfold b_X11_guardian_0 at h
  refine r_aload_n C.1 0 dX11_guardian_0 rfl rfl ?_
  refine r_iconst (v := 0) C.1 dX11_guardian_1 rfl ?_
  obtain ⟨M_1, eM_1, h⟩ := lt_E h
  refine pf_X11_56 C eM_1 dX11_guardian_2 ?_
  refine r_iload_n C.1 1 dX11_guardian_5 rfl rfl ?_
  refine r_i2l C.1 dX11_guardian_6 ?_
  refine r_lconst (v := 0) C.1 dX11_guardian_7 rfl ?_
  refine r_ldc2 (v := 999999) C.1 kw_1425 dX11_guardian_8 ?_
  obtain ⟨r_2, hc_3, h⟩ := bd_E h
  refine cl_X11_67 C ⟨Nat.le_of_ble_eq_true rfl, Nat.le_of_ble_eq_true rfl⟩ (m_X11_in _ _ _ M_1 x1.toInt64 (0 : Int64) (999999 : Int64) hc_3) (Nat.le_of_ble_eq_true rfl) dX11_guardian_11 ?_
  refine r_if_ne C.1 23 dX11_guardian_14 (by decide) (fun c_4 => ?_) (fun c_4 => ?_)
  · replace h := ite_F c_4 h
    refine r_aload_n C.1 0 dX11_guardian_23 rfl rfl ?_
    refine gf_X11_19 C dX11_guardian_24 ?_
    refine r_iconst (v := 0) C.1 dX11_guardian_27 rfl ?_
    obtain ⟨q_5, h⟩ := gd_E h
    refine r_iald C.1 (mK C (by decide)) (mS C (shm_4)) 0 (mT0 C) q_5 dX11_guardian_28 ?_
    refine r_iconst (v := 3) C.1 dX11_guardian_29 rfl ?_
    refine r_icmp_ne C.1 39 dX11_guardian_30 (by decide) (fun c_6 => ?_) (fun c_6 => ?_)
    · replace h := ite_F c_6 h
      refine r_aload_n C.1 0 dX11_guardian_39 rfl rfl ?_
      obtain ⟨M_9, hc_8, h⟩ := bd_E h
      refine cl_X11_251 C ⟨Nat.le_of_ble_eq_true rfl, Nat.le_of_ble_eq_true rfl⟩ (m_X11_keeps _ _ _ M_1 hc_8) (Nat.le_of_ble_eq_true rfl) dX11_guardian_40 ?_
      refine r_aload_n C.1 0 dX11_guardian_43 rfl rfl ?_
      refine gf_X11_19 C dX11_guardian_44 ?_
      refine r_iconst (v := 4) C.1 dX11_guardian_47 rfl ?_
      refine r_aload_n C.1 0 dX11_guardian_48 rfl rfl ?_
      refine gf_X11_19 C dX11_guardian_49 ?_
      refine r_iconst (v := 0) C.1 dX11_guardian_52 rfl ?_
      obtain ⟨q_10, h⟩ := gd_E h
      refine r_iald C.1 (mK C (by decide)) (mS C (shm_4)) 0 (mT0 C) q_10 dX11_guardian_53 ?_
      refine r_iadd C.1 dX11_guardian_54 ?_
      refine r_iload_n C.1 1 dX11_guardian_55 rfl rfl ?_
      obtain ⟨q_11, h⟩ := gd_E h
      obtain ⟨M_12, eM_12, h⟩ := lt_E h
      refine r_iast C.1 (mK C (by decide)) (mS C (shm_4)) 0 (mT0 C) q_11 eM_12 dX11_guardian_56 ?_
      refine r_aload_n C.1 0 dX11_guardian_57 rfl rfl ?_
      refine gf_X11_19 C dX11_guardian_58 ?_
      refine r_iconst (v := 0) C.1 dX11_guardian_61 rfl ?_
      refine r_dup2 C.1 rfl rfl dX11_guardian_62 ?_
      obtain ⟨q_13, h⟩ := gd_E h
      refine r_iald C.1 (mK C (by decide)) (mS C (shm_4)) 0 (mT0 C) q_13 dX11_guardian_63 ?_
      refine r_iconst (v := 1) C.1 dX11_guardian_64 rfl ?_
      refine r_iadd C.1 dX11_guardian_65 ?_
      obtain ⟨q_14, h⟩ := gd_E h
      obtain ⟨M_15, eM_15, h⟩ := lt_E h
      refine r_iast C.1 (mK C (by decide)) (mS C (shm_4)) 0 (mT0 C) q_14 eM_15 dX11_guardian_66 ?_
      refine r_aload_n C.1 0 dX11_guardian_67 rfl rfl ?_
      refine gf_X11_19 C dX11_guardian_68 ?_
      refine r_iconst (v := 0) C.1 dX11_guardian_71 rfl ?_
      obtain ⟨q_16, h⟩ := gd_E h
      refine r_iald C.1 (mK C (by decide)) (mS C (shm_4)) 0 (mT0 C) q_16 dX11_guardian_72 ?_
      refine r_iconst (v := 1) C.1 dX11_guardian_73 rfl ?_
      refine r_isub C.1 dX11_guardian_74 ?_
      obtain rfl := Option.some.inj h
      exact r_iret C.1 hr ev eM dX11_guardian_75
    · replace h := ite_T c_6 h
      refine r_aload_n C.1 0 dX11_guardian_33 rfl rfl ?_
      refine r_iconst (v := 4) C.1 dX11_guardian_34 rfl ?_
      obtain ⟨r_17, M_19, hc_18, h⟩ := bd2_E h
      refine cl_X11_248 C ⟨Nat.le_of_ble_eq_true rfl, Nat.le_of_ble_eq_true rfl⟩ (m_X11_refuses _ _ _ M_1 (4 : Int32) hc_18) (Nat.le_of_ble_eq_true rfl) dX11_guardian_35 ?_
      obtain rfl := Option.some.inj h
      exact r_iret C.1 hr ev eM dX11_guardian_38
  · replace h := ite_T c_4 h
    refine r_aload_n C.1 0 dX11_guardian_17 rfl rfl ?_
    refine r_iconst (v := 1) C.1 dX11_guardian_18 rfl ?_
    obtain ⟨r_20, M_22, hc_21, h⟩ := bd2_E h
    refine cl_X11_248 C ⟨Nat.le_of_ble_eq_true rfl, Nat.le_of_ble_eq_true rfl⟩ (m_X11_refuses _ _ _ M_1 (1 : Int32) hc_21) (Nat.le_of_ble_eq_true rfl) dX11_guardian_19 ?_
    obtain rfl := Option.some.inj h
    exact r_iret C.1 hr ev eM dX11_guardian_22
def f_X11_guardian (M : xM) (x1 : Int32) : Option (Int32 × xM) := b_X11_guardian_0 M x1
set_option maxRecDepth 20000 in
theorem m_X11_guardian (l : Launch) (D : va_G) (ad : Nat → Nat) (M : xM) (x1 : Int32)  {r : Int32} {M1 : xM} (h : f_X11_guardian M x1 = some (r, M1)) : xMetM l yX11_guardian cX11_guardian 2 (some .int) ({ frames := 1, cells := 0, slots := 0, locals := 25 } : Room) [.ref (ad 0), .int x1] D ad M (some (.int r)) M1 := by
  refine xMetM_of (own := RX11) (by decide) rfl (Nat.le_of_ble_eq_true rfl) ?_
  intro x C e1 e2 e3 ev eM hr
  subst e1; subst e2; subst e3
  refine r_sub (L := [(0, .ref (x_ad x 0)), (1, .int x1)]) (L' := [(0, .ref (x_ad x 0)), (1, .int x1)]) [0, 1] rfl ?_
  exact w_X11_guardian_0 C M x1 _ h hr ev eM

def b_X11_bond_0 (M : xM) (x1 : Int32) (x2 : Int32) : Option (Int32 × xM) :=
  lt (uM M 0 0 (0 : Int32)) (fun M_1 => bd (f_X11_isGuardian M_1 x1) (fun r_2 => if r_2 = 0 then bd2 (f_X11_refuses M_1 (0 : Int32)) (fun r_22 M_24 => some (r_22, M_24)) else bd (f_X11_in M_1 x2.toInt64 (0 : Int64) (999999 : Int64)) (fun r_5 => if r_5 = 0 then bd2 (f_X11_refuses M_1 (1 : Int32)) (fun r_19 M_21 => some (r_19, M_21)) else gd ((4 : Int32) + x1) 495 (lt (M_1 4 ((4 : Int32) + x1).toNatClampNeg) (fun y_9 => if y_9 = x2 then bd2 (f_X11_refuses M_1 (3 : Int32)) (fun r_16 M_18 => some (r_16, M_18)) else bd (f_X11_keeps M_1) (fun M_13 => gd ((4 : Int32) + x1) 495 (lt (uM M_13 4 ((4 : Int32) + x1).toNatClampNeg x2) (fun M_15 => some (y_9, M_15)))))))))
set_option maxRecDepth 20000 in
set_option maxHeartbeats 2000000 in
theorem w_X11_bond_0 {x : xC} (C : CtM x RX11 cX11_bond 4 ({ frames := 2, cells := 0, slots := 0, locals := 46 } : Room)) (M : xM) (x1 : Int32) (x2 : Int32)  (o : Int32 × xM) (h : b_X11_bond_0 M x1 x2 = some o) (hr : (x_me x).sig.returnType = some .int) (ev : x_rv x = some (.int o.1)) (eM : x_M x = o.2) : J x M 0 [(0, .ref (x_ad x 0)), (1, .int x1), (2, .int x2)] [] := by
  unfold b_X11_bond_0 at h
  refine r_aload_n C.1 0 dX11_bond_0 rfl rfl ?_
  refine r_iconst (v := 0) C.1 dX11_bond_1 rfl ?_
  obtain ⟨M_1, eM_1, h⟩ := lt_E h
  refine pf_X11_56 C eM_1 dX11_bond_2 ?_
  refine r_aload_n C.1 0 dX11_bond_5 rfl rfl ?_
  refine r_iload_n C.1 1 dX11_bond_6 rfl rfl ?_
  obtain ⟨r_2, hc_3, h⟩ := bd_E h
  refine cl_X11_254 C ⟨Nat.le_of_ble_eq_true rfl, Nat.le_of_ble_eq_true rfl⟩ (m_X11_isGuardian _ _ _ M_1 x1 hc_3) (Nat.le_of_ble_eq_true rfl) dX11_bond_7 ?_
  refine r_if_ne C.1 19 dX11_bond_10 (by decide) (fun c_4 => ?_) (fun c_4 => ?_)
  · replace h := ite_F c_4 h
    refine r_iload_n C.1 2 dX11_bond_19 rfl rfl ?_
    refine r_i2l C.1 dX11_bond_20 ?_
    refine r_lconst (v := 0) C.1 dX11_bond_21 rfl ?_
    refine r_ldc2 (v := 999999) C.1 kw_1425 dX11_bond_22 ?_
    obtain ⟨r_5, hc_6, h⟩ := bd_E h
    refine cl_X11_67 C ⟨Nat.le_of_ble_eq_true rfl, Nat.le_of_ble_eq_true rfl⟩ (m_X11_in _ _ _ M_1 x2.toInt64 (0 : Int64) (999999 : Int64) hc_6) (Nat.le_of_ble_eq_true rfl) dX11_bond_25 ?_
    refine r_if_ne C.1 37 dX11_bond_28 (by decide) (fun c_7 => ?_) (fun c_7 => ?_)
    · replace h := ite_F c_7 h
      refine r_aload_n C.1 0 dX11_bond_37 rfl rfl ?_
      refine gf_X11_19 C dX11_bond_38 ?_
      refine r_iconst (v := 4) C.1 dX11_bond_41 rfl ?_
      refine r_iload_n C.1 1 dX11_bond_42 rfl rfl ?_
      refine r_iadd C.1 dX11_bond_43 ?_
      obtain ⟨q_8, h⟩ := gd_E h
      refine r_iald C.1 (mK C (by decide)) (mS C (shm_4)) 0 (mT0 C) q_8 dX11_bond_44 ?_
      obtain ⟨y_9, ey_9, h⟩ := lt_E h
      refine r_istore_n C.1 [(3, .int y_9), (0, .ref (x_ad x 0)), (1, .int x1), (2, .int x2)] dX11_bond_45 rfl (by decide) ey_9 rfl ?_
      refine r_iload_n C.1 0 dX11_bond_46 rfl rfl ?_
      refine r_iload_n C.1 3 dX11_bond_47 rfl rfl ?_
      refine r_icmp_ne C.1 57 dX11_bond_48 (by decide) (fun c_10 => ?_) (fun c_10 => ?_)
      · replace h := ite_F c_10 h
        refine r_aload_n C.1 1 dX11_bond_57 rfl rfl ?_
        obtain ⟨M_13, hc_12, h⟩ := bd_E h
        refine cl_X11_251 C ⟨Nat.le_of_ble_eq_true rfl, Nat.le_of_ble_eq_true rfl⟩ (m_X11_keeps _ _ _ M_1 hc_12) (Nat.le_of_ble_eq_true rfl) dX11_bond_58 ?_
        refine r_aload_n C.1 1 dX11_bond_61 rfl rfl ?_
        refine gf_X11_19 C dX11_bond_62 ?_
        refine r_iconst (v := 4) C.1 dX11_bond_65 rfl ?_
        refine r_iload_n C.1 2 dX11_bond_66 rfl rfl ?_
        refine r_iadd C.1 dX11_bond_67 ?_
        refine r_iload_n C.1 3 dX11_bond_68 rfl rfl ?_
        obtain ⟨q_14, h⟩ := gd_E h
        obtain ⟨M_15, eM_15, h⟩ := lt_E h
        refine r_iast C.1 (mK C (by decide)) (mS C (shm_4)) 0 (mT0 C) q_14 eM_15 dX11_bond_69 ?_
        refine r_iload_n C.1 0 dX11_bond_70 rfl rfl ?_
        obtain rfl := Option.some.inj h
        exact r_iret C.1 hr ev eM dX11_bond_71
      · replace h := ite_T c_10 h
        refine r_aload_n C.1 1 dX11_bond_51 rfl rfl ?_
        refine r_iconst (v := 3) C.1 dX11_bond_52 rfl ?_
        obtain ⟨r_16, M_18, hc_17, h⟩ := bd2_E h
        refine cl_X11_248 C ⟨Nat.le_of_ble_eq_true rfl, Nat.le_of_ble_eq_true rfl⟩ (m_X11_refuses _ _ _ M_1 (3 : Int32) hc_17) (Nat.le_of_ble_eq_true rfl) dX11_bond_53 ?_
        obtain rfl := Option.some.inj h
        exact r_iret C.1 hr ev eM dX11_bond_56
    · replace h := ite_T c_7 h
      refine r_aload_n C.1 0 dX11_bond_31 rfl rfl ?_
      refine r_iconst (v := 1) C.1 dX11_bond_32 rfl ?_
      obtain ⟨r_19, M_21, hc_20, h⟩ := bd2_E h
      refine cl_X11_248 C ⟨Nat.le_of_ble_eq_true rfl, Nat.le_of_ble_eq_true rfl⟩ (m_X11_refuses _ _ _ M_1 (1 : Int32) hc_20) (Nat.le_of_ble_eq_true rfl) dX11_bond_33 ?_
      obtain rfl := Option.some.inj h
      exact r_iret C.1 hr ev eM dX11_bond_36
  · replace h := ite_T c_4 h
    refine r_aload_n C.1 0 dX11_bond_13 rfl rfl ?_
    refine r_iconst (v := 0) C.1 dX11_bond_14 rfl ?_
    obtain ⟨r_22, M_24, hc_23, h⟩ := bd2_E h
    refine cl_X11_248 C ⟨Nat.le_of_ble_eq_true rfl, Nat.le_of_ble_eq_true rfl⟩ (m_X11_refuses _ _ _ M_1 (0 : Int32) hc_23) (Nat.le_of_ble_eq_true rfl) dX11_bond_15 ?_
    obtain rfl := Option.some.inj h
    exact r_iret C.1 hr ev eM dX11_bond_18
def f_X11_bond (M : xM) (x1 : Int32) (x2 : Int32) : Option (Int32 × xM) := b_X11_bond_0 M x1 x2
set_option maxRecDepth 20000 in
theorem m_X11_bond (l : Launch) (D : va_G) (ad : Nat → Nat) (M : xM) (x1 : Int32) (x2 : Int32)  {r : Int32} {M1 : xM} (h : f_X11_bond M x1 x2 = some (r, M1)) : xMetM l yX11_bond cX11_bond 4 (some .int) ({ frames := 2, cells := 0, slots := 0, locals := 46 } : Room) [.ref (ad 0), .int x1, .int x2] D ad M (some (.int r)) M1 := by
  refine xMetM_of (own := RX11) (by decide) rfl (Nat.le_of_ble_eq_true rfl) ?_
  intro x C e1 e2 e3 ev eM hr
  subst e1; subst e2; subst e3
  refine r_sub (L := [(0, .ref (x_ad x 0)), (1, .int x1), (2, .int x2)]) (L' := [(0, .ref (x_ad x 0)), (1, .int x1), (2, .int x2)]) [0, 1, 2] rfl ?_
  exact w_X11_bond_0 C M x1 x2 _ h hr ev eM

def bl_X11_comes_10 (M : xM) (x1 : Int32) (x2 : Int32) (x3 : Int32) (x4 : Int32) : Option ((xM × Int32) ⊕ (xM)) :=
  if (37 : Int32) ≤ x4 then some (.inr M) else gd (((7 : Int32) + ((37 : Int32) * x3)) + x4) 495 (lt (uM M 4 (((7 : Int32) + ((37 : Int32) * x3)) + x4).toNatClampNeg (0 : Int32)) (fun M_3 => lt (x4 + (1 : Int32)) (fun y_4 => some (.inl (M_3, y_4)))))
set_option maxRecDepth 20000 in
set_option maxHeartbeats 2000000 in
theorem wl_X11_comes_10 {x : xC} (C : CtM x RX11 cX11_comes 5 ({ frames := 0, cells := 0, slots := 0, locals := 0 } : Room)) (M : xM) (x1 : Int32) (x2 : Int32) (x3 : Int32) (x4 : Int32)  (o : (xM × Int32) ⊕ (xM)) (h : bl_X11_comes_10 M x1 x2 x3 x4 = some o) (kh : ∀ s : xM × Int32, o = .inl s → J x s.1 10 [(0, .ref (x_ad x 0)), (1, .int x1), (2, .int x2), (3, .int x3), (4, .int s.2)] []) (ke_0 : ∀ v : xM, o = .inr v → J x v 39 [(0, .ref (x_ad x 0)), (1, .int x1), (2, .int x2), (3, .int x3)] []) : J x M 10 [(0, .ref (x_ad x 0)), (1, .int x1), (2, .int x2), (3, .int x3), (4, .int x4)] [] := by
  unfold bl_X11_comes_10 at h
  refine r_iload C.1 4 dX11_comes_10 rfl ?_
  refine r_bipush (v := 37) C.1 dX11_comes_12 (by decide) ?_
  refine r_icmp_ge C.1 39 dX11_comes_14 (by decide) (fun c_1 => ?_) (fun c_1 => ?_)
  · replace h := ite_T c_1 h
    exact r_sub [0, 1, 2, 3] rfl (ke_0 _ (Option.some.inj h).symm)
  · replace h := ite_F c_1 h
    refine r_aload_n C.1 0 dX11_comes_17 rfl rfl ?_
    refine gf_X11_19 C dX11_comes_18 ?_
    refine r_bipush (v := 7) C.1 dX11_comes_21 (by decide) ?_
    refine r_bipush (v := 37) C.1 dX11_comes_23 (by decide) ?_
    refine r_iload_n C.1 3 dX11_comes_25 rfl rfl ?_
    refine r_imul C.1 dX11_comes_26 ?_
    refine r_iadd C.1 dX11_comes_27 ?_
    refine r_iload C.1 4 dX11_comes_28 rfl ?_
    refine r_iadd C.1 dX11_comes_30 ?_
    refine r_iconst (v := 0) C.1 dX11_comes_31 rfl ?_
    obtain ⟨q_2, h⟩ := gd_E h
    obtain ⟨M_3, eM_3, h⟩ := lt_E h
    refine r_iast C.1 (mK C (by decide)) (mS C (shm_4)) 0 (mT0 C) q_2 eM_3 dX11_comes_32 ?_
    obtain ⟨y_4, ey_4, h⟩ := lt_E h
    refine r_iinc C.1 4 [(4, .int y_4), (0, .ref (x_ad x 0)), (1, .int x1), (2, .int x2), (3, .int x3)] dX11_comes_33 rfl ey_4 (by decide) rfl ?_
    refine r_goto C.1 10 dX11_comes_36 (by decide) ?_
    exact r_sub [1, 2, 3, 4, 0] rfl (kh _ (Option.some.inj h).symm)

def b_X11_comes_10 (M : xM) (x1 : Int32) (x2 : Int32) (x3 : Int32) (x4 : Int32) : Option (Int32 × xM) :=
  bd (loopN (fun s : xM × Int32 => bl_X11_comes_10 s.1 x1 x2 x3 s.2) BG (M, x4)) (fun v => gd (((7 : Int32) + ((37 : Int32) * x3)) + (0 : Int32)) 495 (lt (uM v 4 (((7 : Int32) + ((37 : Int32) * x3)) + (0 : Int32)).toNatClampNeg x1) (fun M_2 => gd (((7 : Int32) + ((37 : Int32) * x3)) + (1 : Int32)) 495 (lt (uM M_2 4 (((7 : Int32) + ((37 : Int32) * x3)) + (1 : Int32)).toNatClampNeg x2) (fun M_4 => gd (1 : Int32) 495 (gd (1 : Int32) 495 (lt (uM M_4 4 (1 : Int32).toNatClampNeg ((M_4 4 (1 : Int32).toNatClampNeg) + (1 : Int32))) (fun M_7 => some (x3, M_7)))))))))
set_option maxRecDepth 20000 in
set_option maxHeartbeats 2000000 in
theorem w_X11_comes_10 {x : xC} (C : CtM x RX11 cX11_comes 5 ({ frames := 0, cells := 0, slots := 0, locals := 0 } : Room)) (M : xM) (x1 : Int32) (x2 : Int32) (x3 : Int32) (x4 : Int32)  (o : Int32 × xM) (h : b_X11_comes_10 M x1 x2 x3 x4 = some o) (hr : (x_me x).sig.returnType = some .int) (ev : x_rv x = some (.int o.1)) (eM : x_M x = o.2) : J x M 10 [(0, .ref (x_ad x 0)), (1, .int x1), (2, .int x2), (3, .int x3), (4, .int x4)] [] := by
  unfold b_X11_comes_10 at h
  obtain ⟨r_0, hr_0, h⟩ := bd_E h
  refine loopN_ind (JJ := fun s => J x s.1 10 [(0, .ref (x_ad x 0)), (1, .int x1), (2, .int x2), (3, .int x3), (4, .int s.2)] []) (KX := fun q => q = r_0) ?_ BG (M, x4) r_0 hr_0 rfl
  intro s o1 hb kk1 kk2
  refine wl_X11_comes_10 C s.1 x1 x2 x3 s.2 _ hb kk1 ?_
  · intro v e0
    have e1 := kk2 _ e0
    subst e1
    refine r_aload_n C.1 0 dX11_comes_39 rfl rfl ?_
    refine gf_X11_19 C dX11_comes_40 ?_
    refine r_bipush (v := 7) C.1 dX11_comes_43 (by decide) ?_
    refine r_bipush (v := 37) C.1 dX11_comes_45 (by decide) ?_
    refine r_iload_n C.1 3 dX11_comes_47 rfl rfl ?_
    refine r_imul C.1 dX11_comes_48 ?_
    refine r_iadd C.1 dX11_comes_49 ?_
    refine r_iconst (v := 0) C.1 dX11_comes_50 rfl ?_
    refine r_iadd C.1 dX11_comes_51 ?_
    refine r_iload_n C.1 1 dX11_comes_52 rfl rfl ?_
    obtain ⟨q_1, h⟩ := gd_E h
    obtain ⟨M_2, eM_2, h⟩ := lt_E h
    refine r_iast C.1 (mK C (by decide)) (mS C (shm_4)) 0 (mT0 C) q_1 eM_2 dX11_comes_53 ?_
    refine r_aload_n C.1 0 dX11_comes_54 rfl rfl ?_
    refine gf_X11_19 C dX11_comes_55 ?_
    refine r_bipush (v := 7) C.1 dX11_comes_58 (by decide) ?_
    refine r_bipush (v := 37) C.1 dX11_comes_60 (by decide) ?_
    refine r_iload_n C.1 3 dX11_comes_62 rfl rfl ?_
    refine r_imul C.1 dX11_comes_63 ?_
    refine r_iadd C.1 dX11_comes_64 ?_
    refine r_iconst (v := 1) C.1 dX11_comes_65 rfl ?_
    refine r_iadd C.1 dX11_comes_66 ?_
    refine r_iload_n C.1 2 dX11_comes_67 rfl rfl ?_
    obtain ⟨q_3, h⟩ := gd_E h
    obtain ⟨M_4, eM_4, h⟩ := lt_E h
    refine r_iast C.1 (mK C (by decide)) (mS C (shm_4)) 0 (mT0 C) q_3 eM_4 dX11_comes_68 ?_
    refine r_aload_n C.1 0 dX11_comes_69 rfl rfl ?_
    refine gf_X11_19 C dX11_comes_70 ?_
    refine r_iconst (v := 1) C.1 dX11_comes_73 rfl ?_
    refine r_dup2 C.1 rfl rfl dX11_comes_74 ?_
    obtain ⟨q_5, h⟩ := gd_E h
    refine r_iald C.1 (mK C (by decide)) (mS C (shm_4)) 0 (mT0 C) q_5 dX11_comes_75 ?_
    refine r_iconst (v := 1) C.1 dX11_comes_76 rfl ?_
    refine r_iadd C.1 dX11_comes_77 ?_
    obtain ⟨q_6, h⟩ := gd_E h
    obtain ⟨M_7, eM_7, h⟩ := lt_E h
    refine r_iast C.1 (mK C (by decide)) (mS C (shm_4)) 0 (mT0 C) q_6 eM_7 dX11_comes_78 ?_
    refine r_iload_n C.1 3 dX11_comes_79 rfl rfl ?_
    obtain rfl := Option.some.inj h
    exact r_iret C.1 hr ev eM dX11_comes_80

def b_X11_comes_0 (M : xM) (x1 : Int32) (x2 : Int32) : Option (Int32 × xM) :=
  gd (1 : Int32) 495 (lt (M 4 (1 : Int32).toNatClampNeg) (fun y_2 => b_X11_comes_10 M x1 x2 y_2 (0 : Int32)))
set_option maxRecDepth 20000 in
set_option maxHeartbeats 2000000 in
theorem w_X11_comes_0 {x : xC} (C : CtM x RX11 cX11_comes 5 ({ frames := 0, cells := 0, slots := 0, locals := 0 } : Room)) (M : xM) (x1 : Int32) (x2 : Int32)  (o : Int32 × xM) (h : b_X11_comes_0 M x1 x2 = some o) (hr : (x_me x).sig.returnType = some .int) (ev : x_rv x = some (.int o.1)) (eM : x_M x = o.2) : J x M 0 [(0, .ref (x_ad x 0)), (1, .int x1), (2, .int x2)] [] := by
  unfold b_X11_comes_0 at h
  refine r_aload_n C.1 0 dX11_comes_0 rfl rfl ?_
  refine gf_X11_19 C dX11_comes_1 ?_
  refine r_iconst (v := 1) C.1 dX11_comes_4 rfl ?_
  obtain ⟨q_1, h⟩ := gd_E h
  refine r_iald C.1 (mK C (by decide)) (mS C (shm_4)) 0 (mT0 C) q_1 dX11_comes_5 ?_
  obtain ⟨y_2, ey_2, h⟩ := lt_E h
  refine r_istore_n C.1 [(3, .int y_2), (0, .ref (x_ad x 0)), (1, .int x1), (2, .int x2)] dX11_comes_6 rfl (by decide) ey_2 rfl ?_
  refine r_iconst (v := 0) C.1 dX11_comes_7 rfl ?_
  refine r_istore C.1 [(4, .int (0 : Int32)), (3, .int y_2), (0, .ref (x_ad x 0)), (1, .int x1), (2, .int x2)] dX11_comes_8 (by decide) rfl rfl ?_
  exact r_sub [2, 3, 4, 1, 0] rfl (w_X11_comes_10 C M x1 x2 y_2 (0 : Int32) _ h hr ev eM)
def f_X11_comes (M : xM) (x1 : Int32) (x2 : Int32) : Option (Int32 × xM) := b_X11_comes_0 M x1 x2
set_option maxRecDepth 20000 in
theorem m_X11_comes (l : Launch) (D : va_G) (ad : Nat → Nat) (M : xM) (x1 : Int32) (x2 : Int32)  {r : Int32} {M1 : xM} (h : f_X11_comes M x1 x2 = some (r, M1)) : xMetM l yX11_comes cX11_comes 5 (some .int) ({ frames := 0, cells := 0, slots := 0, locals := 0 } : Room) [.ref (ad 0), .int x1, .int x2] D ad M (some (.int r)) M1 := by
  refine xMetM_of (own := RX11) (by decide) rfl (Nat.le_of_ble_eq_true rfl) ?_
  intro x C e1 e2 e3 ev eM hr
  subst e1; subst e2; subst e3
  refine r_sub (L := [(0, .ref (x_ad x 0)), (1, .int x1), (2, .int x2)]) (L' := [(0, .ref (x_ad x 0)), (1, .int x1), (2, .int x2)]) [0, 1, 2] rfl ?_
  exact w_X11_comes_0 C M x1 x2 _ h hr ev eM

def b_X11_ward_0 (M : xM) (x1 : Int32) (x2 : Int32) : Option (Int32 × xM) :=
  lt (uM M 0 0 (0 : Int32)) (fun M_1 => bd (f_X11_isGuardian M_1 x2) (fun r_2 => if r_2 = 0 then bd2 (f_X11_refuses M_1 (0 : Int32)) (fun r_22 M_24 => some (r_22, M_24)) else bd (f_X11_in M_1 x1.toInt64 (-9000 : Int64) (3599 : Int64)) (fun r_5 => if r_5 = 0 then bd2 (f_X11_refuses M_1 (1 : Int32)) (fun r_19 M_21 => some (r_19, M_21)) else gd (1 : Int32) 495 (if (M_1 4 (1 : Int32).toNatClampNeg) = (4 : Int32) then bd2 (f_X11_refuses M_1 (4 : Int32)) (fun r_16 M_18 => some (r_16, M_18)) else bd (f_X11_keeps M_1) (fun M_12 => bd2 (f_X11_comes M_12 x1 x2) (fun r_13 M_15 => some (r_13, M_15)))))))
set_option maxRecDepth 20000 in
set_option maxHeartbeats 2000000 in
theorem w_X11_ward_0 {x : xC} (C : CtM x RX11 cX11_ward 3 ({ frames := 2, cells := 0, slots := 0, locals := 46 } : Room)) (M : xM) (x1 : Int32) (x2 : Int32)  (o : Int32 × xM) (h : b_X11_ward_0 M x1 x2 = some o) (hr : (x_me x).sig.returnType = some .int) (ev : x_rv x = some (.int o.1)) (eM : x_M x = o.2) : J x M 0 [(0, .ref (x_ad x 0)), (1, .int x1), (2, .int x2)] [] := by
  unfold b_X11_ward_0 at h
  refine r_aload_n C.1 0 dX11_ward_0 rfl rfl ?_
  refine r_iconst (v := 0) C.1 dX11_ward_1 rfl ?_
  obtain ⟨M_1, eM_1, h⟩ := lt_E h
  refine pf_X11_56 C eM_1 dX11_ward_2 ?_
  refine r_aload_n C.1 0 dX11_ward_5 rfl rfl ?_
  refine r_iload_n C.1 2 dX11_ward_6 rfl rfl ?_
  obtain ⟨r_2, hc_3, h⟩ := bd_E h
  refine cl_X11_254 C ⟨Nat.le_of_ble_eq_true rfl, Nat.le_of_ble_eq_true rfl⟩ (m_X11_isGuardian _ _ _ M_1 x2 hc_3) (Nat.le_of_ble_eq_true rfl) dX11_ward_7 ?_
  refine r_if_ne C.1 19 dX11_ward_10 (by decide) (fun c_4 => ?_) (fun c_4 => ?_)
  · replace h := ite_F c_4 h
    refine r_iload_n C.1 1 dX11_ward_19 rfl rfl ?_
    refine r_i2l C.1 dX11_ward_20 ?_
    refine r_ldc2 (v := -9000) C.1 kw_1446 dX11_ward_21 ?_
    refine r_ldc2 (v := 3599) C.1 kw_1447 dX11_ward_24 ?_
    obtain ⟨r_5, hc_6, h⟩ := bd_E h
    refine cl_X11_67 C ⟨Nat.le_of_ble_eq_true rfl, Nat.le_of_ble_eq_true rfl⟩ (m_X11_in _ _ _ M_1 x1.toInt64 (-9000 : Int64) (3599 : Int64) hc_6) (Nat.le_of_ble_eq_true rfl) dX11_ward_27 ?_
    refine r_if_ne C.1 39 dX11_ward_30 (by decide) (fun c_7 => ?_) (fun c_7 => ?_)
    · replace h := ite_F c_7 h
      refine r_aload_n C.1 0 dX11_ward_39 rfl rfl ?_
      refine gf_X11_19 C dX11_ward_40 ?_
      refine r_iconst (v := 1) C.1 dX11_ward_43 rfl ?_
      obtain ⟨q_8, h⟩ := gd_E h
      refine r_iald C.1 (mK C (by decide)) (mS C (shm_4)) 0 (mT0 C) q_8 dX11_ward_44 ?_
      refine r_iconst (v := 4) C.1 dX11_ward_45 rfl ?_
      refine r_icmp_ne C.1 55 dX11_ward_46 (by decide) (fun c_9 => ?_) (fun c_9 => ?_)
      · replace h := ite_F c_9 h
        refine r_aload_n C.1 0 dX11_ward_55 rfl rfl ?_
        obtain ⟨M_12, hc_11, h⟩ := bd_E h
        refine cl_X11_251 C ⟨Nat.le_of_ble_eq_true rfl, Nat.le_of_ble_eq_true rfl⟩ (m_X11_keeps _ _ _ M_1 hc_11) (Nat.le_of_ble_eq_true rfl) dX11_ward_56 ?_
        refine r_aload_n C.1 0 dX11_ward_59 rfl rfl ?_
        refine r_iload_n C.1 1 dX11_ward_60 rfl rfl ?_
        refine r_iload_n C.1 2 dX11_ward_61 rfl rfl ?_
        obtain ⟨r_13, M_15, hc_14, h⟩ := bd2_E h
        refine cl_X11_259 C ⟨Nat.le_of_ble_eq_true rfl, Nat.le_of_ble_eq_true rfl⟩ (m_X11_comes _ _ _ M_12 x1 x2 hc_14) (Nat.le_of_ble_eq_true rfl) dX11_ward_62 ?_
        obtain rfl := Option.some.inj h
        exact r_iret C.1 hr ev eM dX11_ward_65
      · replace h := ite_T c_9 h
        refine r_aload_n C.1 0 dX11_ward_49 rfl rfl ?_
        refine r_iconst (v := 4) C.1 dX11_ward_50 rfl ?_
        obtain ⟨r_16, M_18, hc_17, h⟩ := bd2_E h
        refine cl_X11_248 C ⟨Nat.le_of_ble_eq_true rfl, Nat.le_of_ble_eq_true rfl⟩ (m_X11_refuses _ _ _ M_1 (4 : Int32) hc_17) (Nat.le_of_ble_eq_true rfl) dX11_ward_51 ?_
        obtain rfl := Option.some.inj h
        exact r_iret C.1 hr ev eM dX11_ward_54
    · replace h := ite_T c_7 h
      refine r_aload_n C.1 0 dX11_ward_33 rfl rfl ?_
      refine r_iconst (v := 1) C.1 dX11_ward_34 rfl ?_
      obtain ⟨r_19, M_21, hc_20, h⟩ := bd2_E h
      refine cl_X11_248 C ⟨Nat.le_of_ble_eq_true rfl, Nat.le_of_ble_eq_true rfl⟩ (m_X11_refuses _ _ _ M_1 (1 : Int32) hc_20) (Nat.le_of_ble_eq_true rfl) dX11_ward_35 ?_
      obtain rfl := Option.some.inj h
      exact r_iret C.1 hr ev eM dX11_ward_38
  · replace h := ite_T c_4 h
    refine r_aload_n C.1 0 dX11_ward_13 rfl rfl ?_
    refine r_iconst (v := 0) C.1 dX11_ward_14 rfl ?_
    obtain ⟨r_22, M_24, hc_23, h⟩ := bd2_E h
    refine cl_X11_248 C ⟨Nat.le_of_ble_eq_true rfl, Nat.le_of_ble_eq_true rfl⟩ (m_X11_refuses _ _ _ M_1 (0 : Int32) hc_23) (Nat.le_of_ble_eq_true rfl) dX11_ward_15 ?_
    obtain rfl := Option.some.inj h
    exact r_iret C.1 hr ev eM dX11_ward_18
def f_X11_ward (M : xM) (x1 : Int32) (x2 : Int32) : Option (Int32 × xM) := b_X11_ward_0 M x1 x2
set_option maxRecDepth 20000 in
theorem m_X11_ward (l : Launch) (D : va_G) (ad : Nat → Nat) (M : xM) (x1 : Int32) (x2 : Int32)  {r : Int32} {M1 : xM} (h : f_X11_ward M x1 x2 = some (r, M1)) : xMetM l yX11_ward cX11_ward 3 (some .int) ({ frames := 2, cells := 0, slots := 0, locals := 46 } : Room) [.ref (ad 0), .int x1, .int x2] D ad M (some (.int r)) M1 := by
  refine xMetM_of (own := RX11) (by decide) rfl (Nat.le_of_ble_eq_true rfl) ?_
  intro x C e1 e2 e3 ev eM hr
  subst e1; subst e2; subst e3
  refine r_sub (L := [(0, .ref (x_ad x 0)), (1, .int x1), (2, .int x2)]) (L' := [(0, .ref (x_ad x 0)), (1, .int x1), (2, .int x2)]) [0, 1, 2] rfl ?_
  exact w_X11_ward_0 C M x1 x2 _ h hr ev eM

def b_X11_change_21 (M : xM)  : Option (Int32 × xM) :=
  bd2 (f_X11_refuses M (0 : Int32)) (fun r_1 M_3 => some (r_1, M_3))
set_option maxRecDepth 20000 in
set_option maxHeartbeats 2000000 in
theorem w_X11_change_21 {x : xC} (C : CtM x RX11 cX11_change 7 ({ frames := 2, cells := 0, slots := 0, locals := 46 } : Room)) (M : xM)   (o : Int32 × xM) (h : b_X11_change_21 M = some o) (hr : (x_me x).sig.returnType = some .int) (ev : x_rv x = some (.int o.1)) (eM : x_M x = o.2) : J x M 21 [(0, .ref (x_ad x 0))] [] := by
  unfold b_X11_change_21 at h
  refine r_aload_n C.1 0 dX11_change_21 rfl rfl ?_
  refine r_iconst (v := 0) C.1 dX11_change_22 rfl ?_
  obtain ⟨r_1, M_3, hc_2, h⟩ := bd2_E h
  refine cl_X11_248 C ⟨Nat.le_of_ble_eq_true rfl, Nat.le_of_ble_eq_true rfl⟩ (m_X11_refuses _ _ _ M (0 : Int32) hc_2) (Nat.le_of_ble_eq_true rfl) dX11_change_23 ?_
  obtain rfl := Option.some.inj h
  exact r_iret C.1 hr ev eM dX11_change_26

def b_X11_change_107 (M : xM)  : Option (Int32 × xM) :=
  bd2 (f_X11_refuses M (3 : Int32)) (fun r_1 M_3 => some (r_1, M_3))
set_option maxRecDepth 20000 in
set_option maxHeartbeats 2000000 in
theorem w_X11_change_107 {x : xC} (C : CtM x RX11 cX11_change 7 ({ frames := 2, cells := 0, slots := 0, locals := 46 } : Room)) (M : xM)   (o : Int32 × xM) (h : b_X11_change_107 M = some o) (hr : (x_me x).sig.returnType = some .int) (ev : x_rv x = some (.int o.1)) (eM : x_M x = o.2) : J x M 107 [(0, .ref (x_ad x 0))] [] := by
  unfold b_X11_change_107 at h
  refine r_aload_n C.1 0 dX11_change_107 rfl rfl ?_
  refine r_iconst (v := 3) C.1 dX11_change_108 rfl ?_
  obtain ⟨r_1, M_3, hc_2, h⟩ := bd2_E h
  refine cl_X11_248 C ⟨Nat.le_of_ble_eq_true rfl, Nat.le_of_ble_eq_true rfl⟩ (m_X11_refuses _ _ _ M (3 : Int32) hc_2) (Nat.le_of_ble_eq_true rfl) dX11_change_109 ?_
  obtain rfl := Option.some.inj h
  exact r_iret C.1 hr ev eM dX11_change_112

def b_X11_change_90 (M : xM) (x1 : Int32) (x2 : Int32) (x3 : Int32) (x4 : Int32) (s0 : Int32) : Option (Int32 × xM) :=
  if s0 = 0 then bd (f_X11_guardianOf M x1 x2) (fun r_2 => if r_2 = x3 then b_X11_change_107 M else if x4 = (6 : Int32) then bd2 (f_X11_refuses M (4 : Int32)) (fun r_17 M_19 => some (r_17, M_19)) else bd (f_X11_keeps M) (fun M_8 => lt ((7 : Int32) + ((37 : Int32) * x1)) (fun y_9 => gd ((y_9 + (3 : Int32)) + ((2 : Int32) * x4)) 495 (lt (uM M_8 4 ((y_9 + (3 : Int32)) + ((2 : Int32) * x4)).toNatClampNeg x2) (fun M_11 => gd (((y_9 + (3 : Int32)) + ((2 : Int32) * x4)) + (1 : Int32)) 495 (lt (uM M_11 4 (((y_9 + (3 : Int32)) + ((2 : Int32) * x4)) + (1 : Int32)).toNatClampNeg x3) (fun M_13 => gd (y_9 + (2 : Int32)) 495 (gd (y_9 + (2 : Int32)) 495 (lt (uM M_13 4 (y_9 + (2 : Int32)).toNatClampNeg ((M_13 4 (y_9 + (2 : Int32)).toNatClampNeg) + (1 : Int32))) (fun M_16 => some (x4 + (1 : Int32), M_16))))))))))) else b_X11_change_107 M
set_option maxRecDepth 20000 in
set_option maxHeartbeats 2000000 in
theorem w_X11_change_90 {x : xC} (C : CtM x RX11 cX11_change 7 ({ frames := 2, cells := 0, slots := 0, locals := 46 } : Room)) (M : xM) (x1 : Int32) (x2 : Int32) (x3 : Int32) (x4 : Int32) (s0 : Int32)  (o : Int32 × xM) (h : b_X11_change_90 M x1 x2 x3 x4 s0 = some o) (hr : (x_me x).sig.returnType = some .int) (ev : x_rv x = some (.int o.1)) (eM : x_M x = o.2) : J x M 90 [(0, .ref (x_ad x 0)), (1, .int x1), (2, .int x2), (3, .int x3), (4, .int x4)] [.int s0] := by
  unfold b_X11_change_90 at h
  refine r_istore C.1 [(5, .int s0), (0, .ref (x_ad x 0)), (1, .int x1), (2, .int x2), (3, .int x3), (4, .int x4)] dX11_change_90 (by decide) rfl rfl ?_
  refine r_iload C.1 0 dX11_change_92 rfl ?_
  refine r_if_ne C.1 107 dX11_change_94 (by decide) (fun c_1 => ?_) (fun c_1 => ?_)
  · replace h := ite_F c_1 h
    exact r_sub [1] rfl (w_X11_change_107 C M _ h hr ev eM)
  · replace h := ite_T c_1 h
    refine r_aload_n C.1 1 dX11_change_97 rfl rfl ?_
    refine r_iload_n C.1 2 dX11_change_98 rfl rfl ?_
    refine r_iload_n C.1 3 dX11_change_99 rfl rfl ?_
    obtain ⟨r_2, hc_3, h⟩ := bd_E h
    refine cl_X11_271 C ⟨Nat.le_of_ble_eq_true rfl, Nat.le_of_ble_eq_true rfl⟩ (m_X11_guardianOf _ _ _ M x1 x2 hc_3) (Nat.le_of_ble_eq_true rfl) dX11_change_100 ?_
    refine r_iload_n C.1 4 dX11_change_103 rfl rfl ?_
    refine r_icmp_ne C.1 113 dX11_change_104 (by decide) (fun c_4 => ?_) (fun c_4 => ?_)
    · replace h := ite_F c_4 h
      refine r_iload C.1 5 dX11_change_113 rfl ?_
      refine r_bipush (v := 6) C.1 dX11_change_115 (by decide) ?_
      refine r_icmp_ne C.1 126 dX11_change_117 (by decide) (fun c_5 => ?_) (fun c_5 => ?_)
      · replace h := ite_F c_5 h
        refine r_aload_n C.1 1 dX11_change_126 rfl rfl ?_
        obtain ⟨M_8, hc_7, h⟩ := bd_E h
        refine cl_X11_251 C ⟨Nat.le_of_ble_eq_true rfl, Nat.le_of_ble_eq_true rfl⟩ (m_X11_keeps _ _ _ M hc_7) (Nat.le_of_ble_eq_true rfl) dX11_change_127 ?_
        refine r_bipush (v := 7) C.1 dX11_change_130 (by decide) ?_
        refine r_bipush (v := 37) C.1 dX11_change_132 (by decide) ?_
        refine r_iload_n C.1 2 dX11_change_134 rfl rfl ?_
        refine r_imul C.1 dX11_change_135 ?_
        refine r_iadd C.1 dX11_change_136 ?_
        obtain ⟨y_9, ey_9, h⟩ := lt_E h
        refine r_istore C.1 [(6, .int y_9), (5, .int s0), (0, .ref (x_ad x 0)), (1, .int x1), (2, .int x2), (3, .int x3), (4, .int x4)] dX11_change_137 (by decide) ey_9 rfl ?_
        refine r_aload_n C.1 2 dX11_change_139 rfl rfl ?_
        refine gf_X11_19 C dX11_change_140 ?_
        refine r_iload C.1 0 dX11_change_143 rfl ?_
        refine r_iconst (v := 3) C.1 dX11_change_145 rfl ?_
        refine r_iadd C.1 dX11_change_146 ?_
        refine r_iconst (v := 2) C.1 dX11_change_147 rfl ?_
        refine r_iload C.1 6 dX11_change_148 rfl ?_
        refine r_imul C.1 dX11_change_150 ?_
        refine r_iadd C.1 dX11_change_151 ?_
        refine r_iload_n C.1 4 dX11_change_152 rfl rfl ?_
        obtain ⟨q_10, h⟩ := gd_E h
        obtain ⟨M_11, eM_11, h⟩ := lt_E h
        refine r_iast C.1 (mK C (by decide)) (mS C (shm_4)) 0 (mT0 C) q_10 eM_11 dX11_change_153 ?_
        refine r_aload_n C.1 2 dX11_change_154 rfl rfl ?_
        refine gf_X11_19 C dX11_change_155 ?_
        refine r_iload C.1 0 dX11_change_158 rfl ?_
        refine r_iconst (v := 3) C.1 dX11_change_160 rfl ?_
        refine r_iadd C.1 dX11_change_161 ?_
        refine r_iconst (v := 2) C.1 dX11_change_162 rfl ?_
        refine r_iload C.1 6 dX11_change_163 rfl ?_
        refine r_imul C.1 dX11_change_165 ?_
        refine r_iadd C.1 dX11_change_166 ?_
        refine r_iconst (v := 1) C.1 dX11_change_167 rfl ?_
        refine r_iadd C.1 dX11_change_168 ?_
        refine r_iload_n C.1 5 dX11_change_169 rfl rfl ?_
        obtain ⟨q_12, h⟩ := gd_E h
        obtain ⟨M_13, eM_13, h⟩ := lt_E h
        refine r_iast C.1 (mK C (by decide)) (mS C (shm_4)) 0 (mT0 C) q_12 eM_13 dX11_change_170 ?_
        refine r_aload_n C.1 2 dX11_change_171 rfl rfl ?_
        refine gf_X11_19 C dX11_change_172 ?_
        refine r_iload C.1 0 dX11_change_175 rfl ?_
        refine r_iconst (v := 2) C.1 dX11_change_177 rfl ?_
        refine r_iadd C.1 dX11_change_178 ?_
        refine r_dup2 C.1 rfl rfl dX11_change_179 ?_
        obtain ⟨q_14, h⟩ := gd_E h
        refine r_iald C.1 (mK C (by decide)) (mS C (shm_4)) 0 (mT0 C) q_14 dX11_change_180 ?_
        refine r_iconst (v := 1) C.1 dX11_change_181 rfl ?_
        refine r_iadd C.1 dX11_change_182 ?_
        obtain ⟨q_15, h⟩ := gd_E h
        obtain ⟨M_16, eM_16, h⟩ := lt_E h
        refine r_iast C.1 (mK C (by decide)) (mS C (shm_4)) 0 (mT0 C) q_15 eM_16 dX11_change_183 ?_
        refine r_iload C.1 6 dX11_change_184 rfl ?_
        refine r_iconst (v := 1) C.1 dX11_change_186 rfl ?_
        refine r_iadd C.1 dX11_change_187 ?_
        obtain rfl := Option.some.inj h
        exact r_iret C.1 hr ev eM dX11_change_188
      · replace h := ite_T c_5 h
        refine r_aload_n C.1 1 dX11_change_120 rfl rfl ?_
        refine r_iconst (v := 4) C.1 dX11_change_121 rfl ?_
        obtain ⟨r_17, M_19, hc_18, h⟩ := bd2_E h
        refine cl_X11_248 C ⟨Nat.le_of_ble_eq_true rfl, Nat.le_of_ble_eq_true rfl⟩ (m_X11_refuses _ _ _ M (4 : Int32) hc_18) (Nat.le_of_ble_eq_true rfl) dX11_change_122 ?_
        obtain rfl := Option.some.inj h
        exact r_iret C.1 hr ev eM dX11_change_125
    · replace h := ite_T c_4 h
      exact r_sub [1] rfl (w_X11_change_107 C M _ h hr ev eM)

def b_X11_change_89 (M : xM) (x1 : Int32) (x2 : Int32) (x3 : Int32) (x4 : Int32) : Option (Int32 × xM) :=
  b_X11_change_90 M x1 x2 x3 x4 (0 : Int32)
set_option maxRecDepth 20000 in
set_option maxHeartbeats 2000000 in
theorem w_X11_change_89 {x : xC} (C : CtM x RX11 cX11_change 7 ({ frames := 2, cells := 0, slots := 0, locals := 46 } : Room)) (M : xM) (x1 : Int32) (x2 : Int32) (x3 : Int32) (x4 : Int32)  (o : Int32 × xM) (h : b_X11_change_89 M x1 x2 x3 x4 = some o) (hr : (x_me x).sig.returnType = some .int) (ev : x_rv x = some (.int o.1)) (eM : x_M x = o.2) : J x M 89 [(0, .ref (x_ad x 0)), (1, .int x1), (2, .int x2), (3, .int x3), (4, .int x4)] [] := by
  unfold b_X11_change_89 at h
  refine r_iconst (v := 0) C.1 dX11_change_89 rfl ?_
  exact r_sub [0, 1, 2, 3, 4] rfl (w_X11_change_90 C M x1 x2 x3 x4 (0 : Int32) _ h hr ev eM)

def b_X11_change_0 (M : xM) (x1 : Int32) (x2 : Int32) (x3 : Int32) : Option (Int32 × xM) :=
  lt (uM M 0 0 (0 : Int32)) (fun M_1 => bd (f_X11_isWard M_1 x1) (fun r_2 => if r_2 = 0 then b_X11_change_21 M_1 else bd (f_X11_isGuardian M_1 x3) (fun r_5 => if r_5 = 0 then b_X11_change_21 M_1 else bd (f_X11_isDay M_1 x2) (fun r_8 => if r_8 = 0 then bd2 (f_X11_refuses M_1 (1 : Int32)) (fun r_23 M_25 => some (r_23, M_25)) else bd (f_X11_isShut M_1 x1 x2) (fun r_11 => if r_11 = 0 then bd (f_X11_its M_1 x1 (2 : Int32)) (fun r_14 => if r_14 ≤ 0 then b_X11_change_89 M_1 x1 x2 x3 r_14 else bd (f_X11_its M_1 x1 (((3 : Int32) + ((2 : Int32) * r_14)) - (2 : Int32))) (fun r_17 => if r_17 ≤ x2 then b_X11_change_89 M_1 x1 x2 x3 r_14 else b_X11_change_90 M_1 x1 x2 x3 r_14 (1 : Int32))) else bd2 (f_X11_refuses M_1 (2 : Int32)) (fun r_20 M_22 => some (r_20, M_22)))))))
set_option maxRecDepth 20000 in
set_option maxHeartbeats 2000000 in
theorem w_X11_change_0 {x : xC} (C : CtM x RX11 cX11_change 7 ({ frames := 2, cells := 0, slots := 0, locals := 46 } : Room)) (M : xM) (x1 : Int32) (x2 : Int32) (x3 : Int32)  (o : Int32 × xM) (h : b_X11_change_0 M x1 x2 x3 = some o) (hr : (x_me x).sig.returnType = some .int) (ev : x_rv x = some (.int o.1)) (eM : x_M x = o.2) : J x M 0 [(0, .ref (x_ad x 0)), (1, .int x1), (2, .int x2), (3, .int x3)] [] := by
  unfold b_X11_change_0 at h
  refine r_aload_n C.1 0 dX11_change_0 rfl rfl ?_
  refine r_iconst (v := 0) C.1 dX11_change_1 rfl ?_
  obtain ⟨M_1, eM_1, h⟩ := lt_E h
  refine pf_X11_56 C eM_1 dX11_change_2 ?_
  refine r_aload_n C.1 0 dX11_change_5 rfl rfl ?_
  refine r_iload_n C.1 1 dX11_change_6 rfl rfl ?_
  obtain ⟨r_2, hc_3, h⟩ := bd_E h
  refine cl_X11_262 C ⟨Nat.le_of_ble_eq_true rfl, Nat.le_of_ble_eq_true rfl⟩ (m_X11_isWard _ _ _ M_1 x1 hc_3) (Nat.le_of_ble_eq_true rfl) dX11_change_7 ?_
  refine r_if_eq C.1 21 dX11_change_10 (by decide) (fun c_4 => ?_) (fun c_4 => ?_)
  · replace h := ite_T c_4 h
    exact r_sub [0] rfl (w_X11_change_21 C M_1 _ h hr ev eM)
  · replace h := ite_F c_4 h
    refine r_aload_n C.1 0 dX11_change_13 rfl rfl ?_
    refine r_iload_n C.1 3 dX11_change_14 rfl rfl ?_
    obtain ⟨r_5, hc_6, h⟩ := bd_E h
    refine cl_X11_254 C ⟨Nat.le_of_ble_eq_true rfl, Nat.le_of_ble_eq_true rfl⟩ (m_X11_isGuardian _ _ _ M_1 x3 hc_6) (Nat.le_of_ble_eq_true rfl) dX11_change_15 ?_
    refine r_if_ne C.1 27 dX11_change_18 (by decide) (fun c_7 => ?_) (fun c_7 => ?_)
    · replace h := ite_F c_7 h
      refine r_iload_n C.1 2 dX11_change_27 rfl rfl ?_
      obtain ⟨r_8, hc_9, h⟩ := bd_E h
      refine cl_X11_265 C ⟨Nat.le_of_ble_eq_true rfl, Nat.le_of_ble_eq_true rfl⟩ (m_X11_isDay _ _ _ M_1 x2 hc_9) (Nat.le_of_ble_eq_true rfl) dX11_change_28 ?_
      refine r_if_ne C.1 40 dX11_change_31 (by decide) (fun c_10 => ?_) (fun c_10 => ?_)
      · replace h := ite_F c_10 h
        refine r_aload_n C.1 0 dX11_change_40 rfl rfl ?_
        refine r_iload_n C.1 1 dX11_change_41 rfl rfl ?_
        refine r_iload_n C.1 2 dX11_change_42 rfl rfl ?_
        obtain ⟨r_11, hc_12, h⟩ := bd_E h
        refine cl_X11_268 C ⟨Nat.le_of_ble_eq_true rfl, Nat.le_of_ble_eq_true rfl⟩ (m_X11_isShut _ _ _ M_1 x1 x2 hc_12) (Nat.le_of_ble_eq_true rfl) dX11_change_43 ?_
        refine r_if_eq C.1 55 dX11_change_46 (by decide) (fun c_13 => ?_) (fun c_13 => ?_)
        · replace h := ite_T c_13 h
          refine r_aload_n C.1 0 dX11_change_55 rfl rfl ?_
          refine r_iload_n C.1 1 dX11_change_56 rfl rfl ?_
          refine r_iconst (v := 2) C.1 dX11_change_57 rfl ?_
          obtain ⟨r_14, hc_15, h⟩ := bd_E h
          refine cl_X11_176 C ⟨Nat.le_of_ble_eq_true rfl, Nat.le_of_ble_eq_true rfl⟩ (m_X11_its _ _ _ M_1 x1 (2 : Int32) hc_15) (Nat.le_of_ble_eq_true rfl) dX11_change_58 ?_
          refine r_istore C.1 [(4, .int r_14), (0, .ref (x_ad x 0)), (1, .int x1), (2, .int x2), (3, .int x3)] dX11_change_61 (by decide) rfl rfl ?_
          refine r_iload C.1 0 dX11_change_63 rfl ?_
          refine r_if_le C.1 89 dX11_change_65 (by decide) (fun c_16 => ?_) (fun c_16 => ?_)
          · replace h := ite_T c_16 h
            exact r_sub [1, 2, 3, 4, 0] rfl (w_X11_change_89 C M_1 x1 x2 x3 r_14 _ h hr ev eM)
          · replace h := ite_F c_16 h
            refine r_aload_n C.1 1 dX11_change_68 rfl rfl ?_
            refine r_iload_n C.1 2 dX11_change_69 rfl rfl ?_
            refine r_iconst (v := 3) C.1 dX11_change_70 rfl ?_
            refine r_iconst (v := 2) C.1 dX11_change_71 rfl ?_
            refine r_iload C.1 0 dX11_change_72 rfl ?_
            refine r_imul C.1 dX11_change_74 ?_
            refine r_iadd C.1 dX11_change_75 ?_
            refine r_iconst (v := 2) C.1 dX11_change_76 rfl ?_
            refine r_isub C.1 dX11_change_77 ?_
            obtain ⟨r_17, hc_18, h⟩ := bd_E h
            refine cl_X11_176 C ⟨Nat.le_of_ble_eq_true rfl, Nat.le_of_ble_eq_true rfl⟩ (m_X11_its _ _ _ M_1 x1 (((3 : Int32) + ((2 : Int32) * r_14)) - (2 : Int32)) hc_18) (Nat.le_of_ble_eq_true rfl) dX11_change_78 ?_
            refine r_iload_n C.1 3 dX11_change_81 rfl rfl ?_
            refine r_icmp_le C.1 89 dX11_change_82 (by decide) (fun c_19 => ?_) (fun c_19 => ?_)
            · replace h := ite_T c_19 h
              exact r_sub [1, 2, 3, 4, 0] rfl (w_X11_change_89 C M_1 x1 x2 x3 r_14 _ h hr ev eM)
            · replace h := ite_F c_19 h
              refine r_iconst (v := 1) C.1 dX11_change_85 rfl ?_
              refine r_goto C.1 90 dX11_change_86 (by decide) ?_
              exact r_sub [1, 2, 3, 4, 0] rfl (w_X11_change_90 C M_1 x1 x2 x3 r_14 (1 : Int32) _ h hr ev eM)
        · replace h := ite_F c_13 h
          refine r_aload_n C.1 0 dX11_change_49 rfl rfl ?_
          refine r_iconst (v := 2) C.1 dX11_change_50 rfl ?_
          obtain ⟨r_20, M_22, hc_21, h⟩ := bd2_E h
          refine cl_X11_248 C ⟨Nat.le_of_ble_eq_true rfl, Nat.le_of_ble_eq_true rfl⟩ (m_X11_refuses _ _ _ M_1 (2 : Int32) hc_21) (Nat.le_of_ble_eq_true rfl) dX11_change_51 ?_
          obtain rfl := Option.some.inj h
          exact r_iret C.1 hr ev eM dX11_change_54
      · replace h := ite_T c_10 h
        refine r_aload_n C.1 0 dX11_change_34 rfl rfl ?_
        refine r_iconst (v := 1) C.1 dX11_change_35 rfl ?_
        obtain ⟨r_23, M_25, hc_24, h⟩ := bd2_E h
        refine cl_X11_248 C ⟨Nat.le_of_ble_eq_true rfl, Nat.le_of_ble_eq_true rfl⟩ (m_X11_refuses _ _ _ M_1 (1 : Int32) hc_24) (Nat.le_of_ble_eq_true rfl) dX11_change_36 ?_
        obtain rfl := Option.some.inj h
        exact r_iret C.1 hr ev eM dX11_change_39
    · replace h := ite_T c_7 h
      exact r_sub [0] rfl (w_X11_change_21 C M_1 _ h hr ev eM)
def f_X11_change (M : xM) (x1 : Int32) (x2 : Int32) (x3 : Int32) : Option (Int32 × xM) := b_X11_change_0 M x1 x2 x3
set_option maxRecDepth 20000 in
theorem m_X11_change (l : Launch) (D : va_G) (ad : Nat → Nat) (M : xM) (x1 : Int32) (x2 : Int32) (x3 : Int32)  {r : Int32} {M1 : xM} (h : f_X11_change M x1 x2 x3 = some (r, M1)) : xMetM l yX11_change cX11_change 7 (some .int) ({ frames := 2, cells := 0, slots := 0, locals := 46 } : Room) [.ref (ad 0), .int x1, .int x2, .int x3] D ad M (some (.int r)) M1 := by
  refine xMetM_of (own := RX11) (by decide) rfl (Nat.le_of_ble_eq_true rfl) ?_
  intro x C e1 e2 e3 ev eM hr
  subst e1; subst e2; subst e3
  refine r_sub (L := [(0, .ref (x_ad x 0)), (1, .int x1), (2, .int x2), (3, .int x3)]) (L' := [(0, .ref (x_ad x 0)), (1, .int x1), (2, .int x2), (3, .int x3)]) [0, 1, 2, 3] rfl ?_
  exact w_X11_change_0 C M x1 x2 x3 _ h hr ev eM

def b_X11_isAmount_0 (M : xM) (x0 : Int32) : Option (Int32) :=
  bd (f_X11_in M x0.toInt64 (1 : Int64) (99999 : Int64)) (fun r_1 => gz r_1 (some r_1))
set_option maxRecDepth 20000 in
set_option maxHeartbeats 2000000 in
theorem w_X11_isAmount_0 {x : xC} (C : CtM x RX11 cX11_isAmount 1 ({ frames := 1, cells := 0, slots := 0, locals := 25 } : Room)) (M : xM) (x0 : Int32)  (o : Int32) (h : b_X11_isAmount_0 M x0 = some o) (hr : (x_me x).sig.returnType = some .boolean) (ev : x_rv x = some (.int o)) (eM : x_M x = M) : J x M 0 [(0, .int x0)] [] := by
  unfold b_X11_isAmount_0 at h
  refine r_iload_n C.1 0 dX11_isAmount_0 rfl rfl ?_
  refine r_i2l C.1 dX11_isAmount_1 ?_
  refine r_lconst (v := 1) C.1 dX11_isAmount_2 rfl ?_
  refine r_ldc2 (v := 99999) C.1 kw_1482 dX11_isAmount_3 ?_
  obtain ⟨r_1, hc_2, h⟩ := bd_E h
  refine cl_X11_67 C ⟨Nat.le_of_ble_eq_true rfl, Nat.le_of_ble_eq_true rfl⟩ (m_X11_in _ _ _ M x0.toInt64 (1 : Int64) (99999 : Int64) hc_2) (Nat.le_of_ble_eq_true rfl) dX11_isAmount_6 ?_
  obtain ⟨z_3, h⟩ := gz_E h
  obtain rfl := Option.some.inj h
  exact r_zret C.1 hr (nz_n z_3) ev eM dX11_isAmount_9
def f_X11_isAmount (M : xM) (x0 : Int32) : Option (Int32) := b_X11_isAmount_0 M x0
set_option maxRecDepth 20000 in
theorem m_X11_isAmount (l : Launch) (D : va_G) (ad : Nat → Nat) (M : xM) (x0 : Int32)  {o : Int32} (h : f_X11_isAmount M x0 = some o) : xMetM l yX11_isAmount cX11_isAmount 1 (some .boolean) ({ frames := 1, cells := 0, slots := 0, locals := 25 } : Room) [.int x0] D ad M (some (.int o)) M := by
  refine xMetM_of (own := RX11) (by decide) rfl (Nat.le_of_ble_eq_true rfl) ?_
  intro x C e1 e2 e3 ev eM hr
  subst e1; subst e2; subst e3
  refine r_sub (L := [(0, .int x0)]) (L' := [(0, .int x0)]) [0] rfl ?_
  exact w_X11_isAmount_0 C M x0 _ h hr ev eM

def b_X11_enters_0 (M : xM) (x1 : Int32) (x2 : Int32) (x3 : Int32) (x4 : Int32) (x5 : Int32) (x6 : Int32) : Option (Int32 × xM) :=
  gd (2 : Int32) 495 (if (M 4 (2 : Int32).toNatClampNeg) = (40 : Int32) then bd2 (f_X11_refuses M (4 : Int32)) (fun r_26 M_28 => some (r_26, M_28)) else bd (f_X11_keeps M) (fun M_5 => gd (2 : Int32) 495 (lt ((155 : Int32) + ((7 : Int32) * (M_5 4 (2 : Int32).toNatClampNeg))) (fun y_7 => gd (y_7 + (0 : Int32)) 495 (lt (uM M_5 4 (y_7 + (0 : Int32)).toNatClampNeg x1) (fun M_9 => gd (y_7 + (1 : Int32)) 495 (lt (uM M_9 4 (y_7 + (1 : Int32)).toNatClampNeg x2) (fun M_11 => gd (y_7 + (2 : Int32)) 495 (lt (uM M_11 4 (y_7 + (2 : Int32)).toNatClampNeg x3) (fun M_13 => gd (y_7 + (3 : Int32)) 495 (lt (uM M_13 4 (y_7 + (3 : Int32)).toNatClampNeg x4) (fun M_15 => gd (y_7 + (4 : Int32)) 495 (lt (uM M_15 4 (y_7 + (4 : Int32)).toNatClampNeg x5) (fun M_17 => gd (y_7 + (5 : Int32)) 495 (lt (uM M_17 4 (y_7 + (5 : Int32)).toNatClampNeg x6) (fun M_19 => gd (y_7 + (6 : Int32)) 495 (lt (uM M_19 4 (y_7 + (6 : Int32)).toNatClampNeg (0 : Int32)) (fun M_21 => gd (2 : Int32) 495 (gd (2 : Int32) 495 (lt (uM M_21 4 (2 : Int32).toNatClampNeg ((M_21 4 (2 : Int32).toNatClampNeg) + (1 : Int32))) (fun M_24 => gd (2 : Int32) 495 (some ((M_24 4 (2 : Int32).toNatClampNeg) - (1 : Int32), M_24)))))))))))))))))))))))
set_option maxRecDepth 20000 in
set_option maxHeartbeats 2000000 in
theorem w_X11_enters_0 {x : xC} (C : CtM x RX11 cX11_enters 8 ({ frames := 1, cells := 0, slots := 0, locals := 21 } : Room)) (M : xM) (x1 : Int32) (x2 : Int32) (x3 : Int32) (x4 : Int32) (x5 : Int32) (x6 : Int32)  (o : Int32 × xM) (h : b_X11_enters_0 M x1 x2 x3 x4 x5 x6 = some o) (hr : (x_me x).sig.returnType = some .int) (ev : x_rv x = some (.int o.1)) (eM : x_M x = o.2) : J x M 0 [(0, .ref (x_ad x 0)), (1, .int x1), (2, .int x2), (3, .int x3), (4, .int x4), (5, .int x5), (6, .int x6)] [] := by
  unfold b_X11_enters_0 at h
  refine r_aload_n C.1 0 dX11_enters_0 rfl rfl ?_
  refine gf_X11_19 C dX11_enters_1 ?_
  refine r_iconst (v := 2) C.1 dX11_enters_4 rfl ?_
  obtain ⟨q_1, h⟩ := gd_E h
  refine r_iald C.1 (mK C (by decide)) (mS C (shm_4)) 0 (mT0 C) q_1 dX11_enters_5 ?_
  refine r_bipush (v := 40) C.1 dX11_enters_6 (by decide) ?_
  refine r_icmp_ne C.1 17 dX11_enters_8 (by decide) (fun c_2 => ?_) (fun c_2 => ?_)
  · replace h := ite_F c_2 h
    refine r_aload_n C.1 0 dX11_enters_17 rfl rfl ?_
    obtain ⟨M_5, hc_4, h⟩ := bd_E h
    refine cl_X11_251 C ⟨Nat.le_of_ble_eq_true rfl, Nat.le_of_ble_eq_true rfl⟩ (m_X11_keeps _ _ _ M hc_4) (Nat.le_of_ble_eq_true rfl) dX11_enters_18 ?_
    refine r_sipush (v := 155) C.1 dX11_enters_21 (by decide) ?_
    refine r_bipush (v := 7) C.1 dX11_enters_24 (by decide) ?_
    refine r_aload_n C.1 0 dX11_enters_26 rfl rfl ?_
    refine gf_X11_19 C dX11_enters_27 ?_
    refine r_iconst (v := 2) C.1 dX11_enters_30 rfl ?_
    obtain ⟨q_6, h⟩ := gd_E h
    refine r_iald C.1 (mK C (by decide)) (mS C (shm_4)) 0 (mT0 C) q_6 dX11_enters_31 ?_
    refine r_imul C.1 dX11_enters_32 ?_
    refine r_iadd C.1 dX11_enters_33 ?_
    obtain ⟨y_7, ey_7, h⟩ := lt_E h
    refine r_istore C.1 [(7, .int y_7), (0, .ref (x_ad x 0)), (1, .int x1), (2, .int x2), (3, .int x3), (4, .int x4), (5, .int x5), (6, .int x6)] dX11_enters_34 (by decide) ey_7 rfl ?_
    refine r_aload_n C.1 1 dX11_enters_36 rfl rfl ?_
    refine gf_X11_19 C dX11_enters_37 ?_
    refine r_iload C.1 0 dX11_enters_40 rfl ?_
    refine r_iconst (v := 0) C.1 dX11_enters_42 rfl ?_
    refine r_iadd C.1 dX11_enters_43 ?_
    refine r_iload_n C.1 2 dX11_enters_44 rfl rfl ?_
    obtain ⟨q_8, h⟩ := gd_E h
    obtain ⟨M_9, eM_9, h⟩ := lt_E h
    refine r_iast C.1 (mK C (by decide)) (mS C (shm_4)) 0 (mT0 C) q_8 eM_9 dX11_enters_45 ?_
    refine r_aload_n C.1 1 dX11_enters_46 rfl rfl ?_
    refine gf_X11_19 C dX11_enters_47 ?_
    refine r_iload C.1 0 dX11_enters_50 rfl ?_
    refine r_iconst (v := 1) C.1 dX11_enters_52 rfl ?_
    refine r_iadd C.1 dX11_enters_53 ?_
    refine r_iload_n C.1 3 dX11_enters_54 rfl rfl ?_
    obtain ⟨q_10, h⟩ := gd_E h
    obtain ⟨M_11, eM_11, h⟩ := lt_E h
    refine r_iast C.1 (mK C (by decide)) (mS C (shm_4)) 0 (mT0 C) q_10 eM_11 dX11_enters_55 ?_
    refine r_aload_n C.1 1 dX11_enters_56 rfl rfl ?_
    refine gf_X11_19 C dX11_enters_57 ?_
    refine r_iload C.1 0 dX11_enters_60 rfl ?_
    refine r_iconst (v := 2) C.1 dX11_enters_62 rfl ?_
    refine r_iadd C.1 dX11_enters_63 ?_
    refine r_iload_n C.1 4 dX11_enters_64 rfl rfl ?_
    obtain ⟨q_12, h⟩ := gd_E h
    obtain ⟨M_13, eM_13, h⟩ := lt_E h
    refine r_iast C.1 (mK C (by decide)) (mS C (shm_4)) 0 (mT0 C) q_12 eM_13 dX11_enters_65 ?_
    refine r_aload_n C.1 1 dX11_enters_66 rfl rfl ?_
    refine gf_X11_19 C dX11_enters_67 ?_
    refine r_iload C.1 0 dX11_enters_70 rfl ?_
    refine r_iconst (v := 3) C.1 dX11_enters_72 rfl ?_
    refine r_iadd C.1 dX11_enters_73 ?_
    refine r_iload C.1 5 dX11_enters_74 rfl ?_
    obtain ⟨q_14, h⟩ := gd_E h
    obtain ⟨M_15, eM_15, h⟩ := lt_E h
    refine r_iast C.1 (mK C (by decide)) (mS C (shm_4)) 0 (mT0 C) q_14 eM_15 dX11_enters_76 ?_
    refine r_aload_n C.1 1 dX11_enters_77 rfl rfl ?_
    refine gf_X11_19 C dX11_enters_78 ?_
    refine r_iload C.1 0 dX11_enters_81 rfl ?_
    refine r_iconst (v := 4) C.1 dX11_enters_83 rfl ?_
    refine r_iadd C.1 dX11_enters_84 ?_
    refine r_iload C.1 6 dX11_enters_85 rfl ?_
    obtain ⟨q_16, h⟩ := gd_E h
    obtain ⟨M_17, eM_17, h⟩ := lt_E h
    refine r_iast C.1 (mK C (by decide)) (mS C (shm_4)) 0 (mT0 C) q_16 eM_17 dX11_enters_87 ?_
    refine r_aload_n C.1 1 dX11_enters_88 rfl rfl ?_
    refine gf_X11_19 C dX11_enters_89 ?_
    refine r_iload C.1 0 dX11_enters_92 rfl ?_
    refine r_iconst (v := 5) C.1 dX11_enters_94 rfl ?_
    refine r_iadd C.1 dX11_enters_95 ?_
    refine r_iload C.1 7 dX11_enters_96 rfl ?_
    obtain ⟨q_18, h⟩ := gd_E h
    obtain ⟨M_19, eM_19, h⟩ := lt_E h
    refine r_iast C.1 (mK C (by decide)) (mS C (shm_4)) 0 (mT0 C) q_18 eM_19 dX11_enters_98 ?_
    refine r_aload_n C.1 1 dX11_enters_99 rfl rfl ?_
    refine gf_X11_19 C dX11_enters_100 ?_
    refine r_iload C.1 0 dX11_enters_103 rfl ?_
    refine r_bipush (v := 6) C.1 dX11_enters_105 (by decide) ?_
    refine r_iadd C.1 dX11_enters_107 ?_
    refine r_iconst (v := 0) C.1 dX11_enters_108 rfl ?_
    obtain ⟨q_20, h⟩ := gd_E h
    obtain ⟨M_21, eM_21, h⟩ := lt_E h
    refine r_iast C.1 (mK C (by decide)) (mS C (shm_4)) 0 (mT0 C) q_20 eM_21 dX11_enters_109 ?_
    refine r_aload_n C.1 1 dX11_enters_110 rfl rfl ?_
    refine gf_X11_19 C dX11_enters_111 ?_
    refine r_iconst (v := 2) C.1 dX11_enters_114 rfl ?_
    refine r_dup2 C.1 rfl rfl dX11_enters_115 ?_
    obtain ⟨q_22, h⟩ := gd_E h
    refine r_iald C.1 (mK C (by decide)) (mS C (shm_4)) 0 (mT0 C) q_22 dX11_enters_116 ?_
    refine r_iconst (v := 1) C.1 dX11_enters_117 rfl ?_
    refine r_iadd C.1 dX11_enters_118 ?_
    obtain ⟨q_23, h⟩ := gd_E h
    obtain ⟨M_24, eM_24, h⟩ := lt_E h
    refine r_iast C.1 (mK C (by decide)) (mS C (shm_4)) 0 (mT0 C) q_23 eM_24 dX11_enters_119 ?_
    refine r_aload_n C.1 1 dX11_enters_120 rfl rfl ?_
    refine gf_X11_19 C dX11_enters_121 ?_
    refine r_iconst (v := 2) C.1 dX11_enters_124 rfl ?_
    obtain ⟨q_25, h⟩ := gd_E h
    refine r_iald C.1 (mK C (by decide)) (mS C (shm_4)) 0 (mT0 C) q_25 dX11_enters_125 ?_
    refine r_iconst (v := 1) C.1 dX11_enters_126 rfl ?_
    refine r_isub C.1 dX11_enters_127 ?_
    obtain rfl := Option.some.inj h
    exact r_iret C.1 hr ev eM dX11_enters_128
  · replace h := ite_T c_2 h
    refine r_aload_n C.1 0 dX11_enters_11 rfl rfl ?_
    refine r_iconst (v := 4) C.1 dX11_enters_12 rfl ?_
    obtain ⟨r_26, M_28, hc_27, h⟩ := bd2_E h
    refine cl_X11_248 C ⟨Nat.le_of_ble_eq_true rfl, Nat.le_of_ble_eq_true rfl⟩ (m_X11_refuses _ _ _ M (4 : Int32) hc_27) (Nat.le_of_ble_eq_true rfl) dX11_enters_13 ?_
    obtain rfl := Option.some.inj h
    exact r_iret C.1 hr ev eM dX11_enters_16
def f_X11_enters (M : xM) (x1 : Int32) (x2 : Int32) (x3 : Int32) (x4 : Int32) (x5 : Int32) (x6 : Int32) : Option (Int32 × xM) := b_X11_enters_0 M x1 x2 x3 x4 x5 x6
set_option maxRecDepth 20000 in
theorem m_X11_enters (l : Launch) (D : va_G) (ad : Nat → Nat) (M : xM) (x1 : Int32) (x2 : Int32) (x3 : Int32) (x4 : Int32) (x5 : Int32) (x6 : Int32)  {r : Int32} {M1 : xM} (h : f_X11_enters M x1 x2 x3 x4 x5 x6 = some (r, M1)) : xMetM l yX11_enters cX11_enters 8 (some .int) ({ frames := 1, cells := 0, slots := 0, locals := 21 } : Room) [.ref (ad 0), .int x1, .int x2, .int x3, .int x4, .int x5, .int x6] D ad M (some (.int r)) M1 := by
  refine xMetM_of (own := RX11) (by decide) rfl (Nat.le_of_ble_eq_true rfl) ?_
  intro x C e1 e2 e3 ev eM hr
  subst e1; subst e2; subst e3
  refine r_sub (L := [(0, .ref (x_ad x 0)), (1, .int x1), (2, .int x2), (3, .int x3), (4, .int x4), (5, .int x5), (6, .int x6)]) (L' := [(0, .ref (x_ad x 0)), (1, .int x1), (2, .int x2), (3, .int x3), (4, .int x4), (5, .int x5), (6, .int x6)]) [0, 1, 2, 3, 4, 5, 6] rfl ?_
  exact w_X11_enters_0 C M x1 x2 x3 x4 x5 x6 _ h hr ev eM

def b_X11_why_41 (M : xM) (s0 : Int32) : Option (Int32) :=
  some s0
set_option maxRecDepth 20000 in
set_option maxHeartbeats 2000000 in
theorem w_X11_why_41 {x : xC} (C : CtM x RX11 cX11_why 4 ({ frames := 2, cells := 0, slots := 0, locals := 46 } : Room)) (M : xM) (s0 : Int32)  (o : Int32) (h : b_X11_why_41 M s0 = some o) (hr : (x_me x).sig.returnType = some .int) (ev : x_rv x = some (.int o)) (eM : x_M x = M) : J x M 41 [] [.int s0] := by
  unfold b_X11_why_41 at h
  obtain rfl := Option.some.inj h
  exact r_iret C.1 hr ev eM dX11_why_41

def b_X11_why_23 (M : xM)  : Option (Int32) :=
  b_X11_why_41 M (1 : Int32)
set_option maxRecDepth 20000 in
set_option maxHeartbeats 2000000 in
theorem w_X11_why_23 {x : xC} (C : CtM x RX11 cX11_why 4 ({ frames := 2, cells := 0, slots := 0, locals := 46 } : Room)) (M : xM)   (o : Int32) (h : b_X11_why_23 M = some o) (hr : (x_me x).sig.returnType = some .int) (ev : x_rv x = some (.int o)) (eM : x_M x = M) : J x M 23 [] [] := by
  unfold b_X11_why_23 at h
  refine r_iconst (v := 1) C.1 dX11_why_23 rfl ?_
  refine r_goto C.1 41 dX11_why_24 (by decide) ?_
  exact r_sub [] rfl (w_X11_why_41 C M (1 : Int32) _ h hr ev eM)

def b_X11_why_0 (M : xM) (x1 : Int32) (x2 : Int32) (x3 : Int32) : Option (Int32) :=
  bd (f_X11_isWard M x1) (fun r_1 => if r_1 = 0 then b_X11_why_41 M (0 : Int32) else bd (f_X11_isDay M x2) (fun r_4 => if r_4 = 0 then b_X11_why_23 M else if x3 = 0 then b_X11_why_23 M else bd (f_X11_isShut M x1 x2) (fun r_8 => if r_8 = 0 then b_X11_why_41 M (-1 : Int32) else b_X11_why_41 M (2 : Int32))))
set_option maxRecDepth 20000 in
set_option maxHeartbeats 2000000 in
theorem w_X11_why_0 {x : xC} (C : CtM x RX11 cX11_why 4 ({ frames := 2, cells := 0, slots := 0, locals := 46 } : Room)) (M : xM) (x1 : Int32) (x2 : Int32) (x3 : Int32)  (o : Int32) (h : b_X11_why_0 M x1 x2 x3 = some o) (hr : (x_me x).sig.returnType = some .int) (ev : x_rv x = some (.int o)) (eM : x_M x = M) : J x M 0 [(0, .ref (x_ad x 0)), (1, .int x1), (2, .int x2), (3, .int x3)] [] := by
  unfold b_X11_why_0 at h
  refine r_aload_n C.1 0 dX11_why_0 rfl rfl ?_
  refine r_iload_n C.1 1 dX11_why_1 rfl rfl ?_
  obtain ⟨r_1, hc_2, h⟩ := bd_E h
  refine cl_X11_262 C ⟨Nat.le_of_ble_eq_true rfl, Nat.le_of_ble_eq_true rfl⟩ (m_X11_isWard _ _ _ M x1 hc_2) (Nat.le_of_ble_eq_true rfl) dX11_why_2 ?_
  refine r_if_ne C.1 12 dX11_why_5 (by decide) (fun c_3 => ?_) (fun c_3 => ?_)
  · replace h := ite_F c_3 h
    refine r_iload_n C.1 2 dX11_why_12 rfl rfl ?_
    obtain ⟨r_4, hc_5, h⟩ := bd_E h
    refine cl_X11_265 C ⟨Nat.le_of_ble_eq_true rfl, Nat.le_of_ble_eq_true rfl⟩ (m_X11_isDay _ _ _ M x2 hc_5) (Nat.le_of_ble_eq_true rfl) dX11_why_13 ?_
    refine r_if_eq C.1 23 dX11_why_16 (by decide) (fun c_6 => ?_) (fun c_6 => ?_)
    · replace h := ite_T c_6 h
      exact r_sub [] rfl (w_X11_why_23 C M _ h hr ev eM)
    · replace h := ite_F c_6 h
      refine r_iload_n C.1 3 dX11_why_19 rfl rfl ?_
      refine r_if_ne C.1 27 dX11_why_20 (by decide) (fun c_7 => ?_) (fun c_7 => ?_)
      · replace h := ite_F c_7 h
        refine r_aload_n C.1 0 dX11_why_27 rfl rfl ?_
        refine r_iload_n C.1 1 dX11_why_28 rfl rfl ?_
        refine r_iload_n C.1 2 dX11_why_29 rfl rfl ?_
        obtain ⟨r_8, hc_9, h⟩ := bd_E h
        refine cl_X11_268 C ⟨Nat.le_of_ble_eq_true rfl, Nat.le_of_ble_eq_true rfl⟩ (m_X11_isShut _ _ _ M x1 x2 hc_9) (Nat.le_of_ble_eq_true rfl) dX11_why_30 ?_
        refine r_if_eq C.1 40 dX11_why_33 (by decide) (fun c_10 => ?_) (fun c_10 => ?_)
        · replace h := ite_T c_10 h
          refine r_iconst (v := -1) C.1 dX11_why_40 rfl ?_
          exact r_sub [] rfl (w_X11_why_41 C M (-1 : Int32) _ h hr ev eM)
        · replace h := ite_F c_10 h
          refine r_iconst (v := 2) C.1 dX11_why_36 rfl ?_
          refine r_goto C.1 41 dX11_why_37 (by decide) ?_
          exact r_sub [] rfl (w_X11_why_41 C M (2 : Int32) _ h hr ev eM)
      · replace h := ite_T c_7 h
        exact r_sub [] rfl (w_X11_why_23 C M _ h hr ev eM)
  · replace h := ite_T c_3 h
    refine r_iconst (v := 0) C.1 dX11_why_8 rfl ?_
    refine r_goto C.1 41 dX11_why_9 (by decide) ?_
    exact r_sub [] rfl (w_X11_why_41 C M (0 : Int32) _ h hr ev eM)
def f_X11_why (M : xM) (x1 : Int32) (x2 : Int32) (x3 : Int32) : Option (Int32) := b_X11_why_0 M x1 x2 x3
set_option maxRecDepth 20000 in
theorem m_X11_why (l : Launch) (D : va_G) (ad : Nat → Nat) (M : xM) (x1 : Int32) (x2 : Int32) (x3 : Int32)  {o : Int32} (h : f_X11_why M x1 x2 x3 = some o) : xMetM l yX11_why cX11_why 4 (some .int) ({ frames := 2, cells := 0, slots := 0, locals := 46 } : Room) [.ref (ad 0), .int x1, .int x2, .int x3] D ad M (some (.int o)) M := by
  refine xMetM_of (own := RX11) (by decide) rfl (Nat.le_of_ble_eq_true rfl) ?_
  intro x C e1 e2 e3 ev eM hr
  subst e1; subst e2; subst e3
  refine r_sub (L := [(0, .ref (x_ad x 0)), (1, .int x1), (2, .int x2), (3, .int x3)]) (L' := [(0, .ref (x_ad x 0)), (1, .int x1), (2, .int x2), (3, .int x3)]) [0, 1, 2, 3] rfl ?_
  exact w_X11_why_0 C M x1 x2 x3 _ h hr ev eM

def b_X11_receive_64 (M : xM) (s0 : Int32) : Option (Int32 × xM) :=
  some (s0, M)
set_option maxRecDepth 20000 in
set_option maxHeartbeats 2000000 in
theorem w_X11_receive_64 {x : xC} (C : CtM x RX11 cX11_receive 6 ({ frames := 3, cells := 0, slots := 0, locals := 69 } : Room)) (M : xM) (s0 : Int32)  (o : Int32 × xM) (h : b_X11_receive_64 M s0 = some o) (hr : (x_me x).sig.returnType = some .int) (ev : x_rv x = some (.int o.1)) (eM : x_M x = o.2) : J x M 64 [] [.int s0] := by
  unfold b_X11_receive_64 at h
  obtain rfl := Option.some.inj h
  exact r_iret C.1 hr ev eM dX11_receive_64

def b_X11_receive_33 (M : xM) (x1 : Int32) (x2 : Int32) (x3 : Int32) (x4 : Int32) (s0 : Int32) (s1 : Int32) (s2 : Int32) : Option (Int32 × xM) :=
  bd (f_X11_why M s2 s1 s0) (fun r_1 => if r_1 = (-1 : Int32) then bd2 (f_X11_enters M (0 : Int32) x1 x2 x3 x4 (-1 : Int32)) (fun r_4 M_6 => b_X11_receive_64 M_6 r_4) else bd2 (f_X11_refuses M r_1) (fun r_7 M_9 => b_X11_receive_64 M_9 r_7))
set_option maxRecDepth 20000 in
set_option maxHeartbeats 2000000 in
theorem w_X11_receive_33 {x : xC} (C : CtM x RX11 cX11_receive 6 ({ frames := 3, cells := 0, slots := 0, locals := 69 } : Room)) (M : xM) (x1 : Int32) (x2 : Int32) (x3 : Int32) (x4 : Int32) (s0 : Int32) (s1 : Int32) (s2 : Int32)  (o : Int32 × xM) (h : b_X11_receive_33 M x1 x2 x3 x4 s0 s1 s2 = some o) (hr : (x_me x).sig.returnType = some .int) (ev : x_rv x = some (.int o.1)) (eM : x_M x = o.2) : J x M 33 [(0, .ref (x_ad x 0)), (1, .int x1), (2, .int x2), (3, .int x3), (4, .int x4)] [.int s0, .int s1, .int s2, .ref (x_ad x 0)] := by
  unfold b_X11_receive_33 at h
  obtain ⟨r_1, hc_2, h⟩ := bd_E h
  refine cl_X11_281 C ⟨Nat.le_of_ble_eq_true rfl, Nat.le_of_ble_eq_true rfl⟩ (m_X11_why _ _ _ M s2 s1 s0 hc_2) (Nat.le_of_ble_eq_true rfl) dX11_receive_33 ?_
  refine r_istore C.1 [(5, .int r_1), (0, .ref (x_ad x 0)), (1, .int x1), (2, .int x2), (3, .int x3), (4, .int x4)] dX11_receive_36 (by decide) rfl rfl ?_
  refine r_iload C.1 0 dX11_receive_38 rfl ?_
  refine r_iconst (v := -1) C.1 dX11_receive_40 rfl ?_
  refine r_icmp_eq C.1 53 dX11_receive_41 (by decide) (fun c_3 => ?_) (fun c_3 => ?_)
  · replace h := ite_T c_3 h
    refine r_aload_n C.1 1 dX11_receive_53 rfl rfl ?_
    refine r_iconst (v := 0) C.1 dX11_receive_54 rfl ?_
    refine r_iload_n C.1 2 dX11_receive_55 rfl rfl ?_
    refine r_iload_n C.1 3 dX11_receive_56 rfl rfl ?_
    refine r_iload_n C.1 4 dX11_receive_57 rfl rfl ?_
    refine r_iload C.1 5 dX11_receive_58 rfl ?_
    refine r_iconst (v := -1) C.1 dX11_receive_60 rfl ?_
    obtain ⟨r_4, M_6, hc_5, h⟩ := bd2_E h
    refine cl_X11_285 C ⟨Nat.le_of_ble_eq_true rfl, Nat.le_of_ble_eq_true rfl⟩ (m_X11_enters _ _ _ M (0 : Int32) x1 x2 x3 x4 (-1 : Int32) hc_5) (Nat.le_of_ble_eq_true rfl) dX11_receive_61 ?_
    exact r_sub [] rfl (w_X11_receive_64 C M_6 r_4 _ h hr ev eM)
  · replace h := ite_F c_3 h
    refine r_aload_n C.1 1 dX11_receive_44 rfl rfl ?_
    refine r_iload C.1 0 dX11_receive_45 rfl ?_
    obtain ⟨r_7, M_9, hc_8, h⟩ := bd2_E h
    refine cl_X11_248 C ⟨Nat.le_of_ble_eq_true rfl, Nat.le_of_ble_eq_true rfl⟩ (m_X11_refuses _ _ _ M r_1 hc_8) (Nat.le_of_ble_eq_true rfl) dX11_receive_47 ?_
    refine r_goto C.1 64 dX11_receive_50 (by decide) ?_
    exact r_sub [] rfl (w_X11_receive_64 C M_9 r_7 _ h hr ev eM)

def b_X11_receive_32 (M : xM) (x1 : Int32) (x2 : Int32) (x3 : Int32) (x4 : Int32) (s0 : Int32) (s1 : Int32) : Option (Int32 × xM) :=
  b_X11_receive_33 M x1 x2 x3 x4 (0 : Int32) s0 s1
set_option maxRecDepth 20000 in
set_option maxHeartbeats 2000000 in
theorem w_X11_receive_32 {x : xC} (C : CtM x RX11 cX11_receive 6 ({ frames := 3, cells := 0, slots := 0, locals := 69 } : Room)) (M : xM) (x1 : Int32) (x2 : Int32) (x3 : Int32) (x4 : Int32) (s0 : Int32) (s1 : Int32)  (o : Int32 × xM) (h : b_X11_receive_32 M x1 x2 x3 x4 s0 s1 = some o) (hr : (x_me x).sig.returnType = some .int) (ev : x_rv x = some (.int o.1)) (eM : x_M x = o.2) : J x M 32 [(0, .ref (x_ad x 0)), (1, .int x1), (2, .int x2), (3, .int x3), (4, .int x4)] [.int s0, .int s1, .ref (x_ad x 0)] := by
  unfold b_X11_receive_32 at h
  refine r_iconst (v := 0) C.1 dX11_receive_32 rfl ?_
  exact r_sub [0, 1, 2, 3, 4] rfl (w_X11_receive_33 C M x1 x2 x3 x4 (0 : Int32) s0 s1 _ h hr ev eM)

def b_X11_receive_0 (M : xM) (x1 : Int32) (x2 : Int32) (x3 : Int32) (x4 : Int32) : Option (Int32 × xM) :=
  lt (uM M 0 0 (0 : Int32)) (fun M_1 => bd (f_X11_isAmount M_1 x3) (fun r_2 => if r_2 = 0 then b_X11_receive_32 M_1 x1 x2 x3 x4 x2 x1 else bd (f_X11_in M_1 x4.toInt64 (0 : Int64) (3 : Int64)) (fun r_5 => if r_5 = 0 then b_X11_receive_32 M_1 x1 x2 x3 x4 x2 x1 else b_X11_receive_33 M_1 x1 x2 x3 x4 (1 : Int32) x2 x1)))
set_option maxRecDepth 20000 in
set_option maxHeartbeats 2000000 in
theorem w_X11_receive_0 {x : xC} (C : CtM x RX11 cX11_receive 6 ({ frames := 3, cells := 0, slots := 0, locals := 69 } : Room)) (M : xM) (x1 : Int32) (x2 : Int32) (x3 : Int32) (x4 : Int32)  (o : Int32 × xM) (h : b_X11_receive_0 M x1 x2 x3 x4 = some o) (hr : (x_me x).sig.returnType = some .int) (ev : x_rv x = some (.int o.1)) (eM : x_M x = o.2) : J x M 0 [(0, .ref (x_ad x 0)), (1, .int x1), (2, .int x2), (3, .int x3), (4, .int x4)] [] := by
  unfold b_X11_receive_0 at h
  refine r_aload_n C.1 0 dX11_receive_0 rfl rfl ?_
  refine r_iconst (v := 0) C.1 dX11_receive_1 rfl ?_
  obtain ⟨M_1, eM_1, h⟩ := lt_E h
  refine pf_X11_56 C eM_1 dX11_receive_2 ?_
  refine r_aload_n C.1 0 dX11_receive_5 rfl rfl ?_
  refine r_iload_n C.1 1 dX11_receive_6 rfl rfl ?_
  refine r_iload_n C.1 2 dX11_receive_7 rfl rfl ?_
  refine r_iload_n C.1 3 dX11_receive_8 rfl rfl ?_
  obtain ⟨r_2, hc_3, h⟩ := bd_E h
  refine cl_X11_276 C ⟨Nat.le_of_ble_eq_true rfl, Nat.le_of_ble_eq_true rfl⟩ (m_X11_isAmount _ _ _ M_1 x3 hc_3) (Nat.le_of_ble_eq_true rfl) dX11_receive_9 ?_
  refine r_if_eq C.1 32 dX11_receive_12 (by decide) (fun c_4 => ?_) (fun c_4 => ?_)
  · replace h := ite_T c_4 h
    exact r_sub [0, 1, 2, 3, 4] rfl (w_X11_receive_32 C M_1 x1 x2 x3 x4 x2 x1 _ h hr ev eM)
  · replace h := ite_F c_4 h
    refine r_iload C.1 4 dX11_receive_15 rfl ?_
    refine r_i2l C.1 dX11_receive_17 ?_
    refine r_lconst (v := 0) C.1 dX11_receive_18 rfl ?_
    refine r_ldc2 (v := 3) C.1 kw_1483 dX11_receive_19 ?_
    obtain ⟨r_5, hc_6, h⟩ := bd_E h
    refine cl_X11_67 C ⟨Nat.le_of_ble_eq_true rfl, Nat.le_of_ble_eq_true rfl⟩ (m_X11_in _ _ _ M_1 x4.toInt64 (0 : Int64) (3 : Int64) hc_6) (Nat.le_of_ble_eq_true rfl) dX11_receive_22 ?_
    refine r_if_eq C.1 32 dX11_receive_25 (by decide) (fun c_7 => ?_) (fun c_7 => ?_)
    · replace h := ite_T c_7 h
      exact r_sub [0, 1, 2, 3, 4] rfl (w_X11_receive_32 C M_1 x1 x2 x3 x4 x2 x1 _ h hr ev eM)
    · replace h := ite_F c_7 h
      refine r_iconst (v := 1) C.1 dX11_receive_28 rfl ?_
      refine r_goto C.1 33 dX11_receive_29 (by decide) ?_
      exact r_sub [0, 1, 2, 3, 4] rfl (w_X11_receive_33 C M_1 x1 x2 x3 x4 (1 : Int32) x2 x1 _ h hr ev eM)
def f_X11_receive (M : xM) (x1 : Int32) (x2 : Int32) (x3 : Int32) (x4 : Int32) : Option (Int32 × xM) := b_X11_receive_0 M x1 x2 x3 x4
set_option maxRecDepth 20000 in
theorem m_X11_receive (l : Launch) (D : va_G) (ad : Nat → Nat) (M : xM) (x1 : Int32) (x2 : Int32) (x3 : Int32) (x4 : Int32)  {r : Int32} {M1 : xM} (h : f_X11_receive M x1 x2 x3 x4 = some (r, M1)) : xMetM l yX11_receive cX11_receive 6 (some .int) ({ frames := 3, cells := 0, slots := 0, locals := 69 } : Room) [.ref (ad 0), .int x1, .int x2, .int x3, .int x4] D ad M (some (.int r)) M1 := by
  refine xMetM_of (own := RX11) (by decide) rfl (Nat.le_of_ble_eq_true rfl) ?_
  intro x C e1 e2 e3 ev eM hr
  subst e1; subst e2; subst e3
  refine r_sub (L := [(0, .ref (x_ad x 0)), (1, .int x1), (2, .int x2), (3, .int x3), (4, .int x4)]) (L' := [(0, .ref (x_ad x 0)), (1, .int x1), (2, .int x2), (3, .int x3), (4, .int x4)]) [0, 1, 2, 3, 4] rfl ?_
  exact w_X11_receive_0 C M x1 x2 x3 x4 _ h hr ev eM

def b_X11_pay_78 (M : xM) (s0 : Int32) : Option (Int32 × xM) :=
  some (s0, M)
set_option maxRecDepth 20000 in
set_option maxHeartbeats 2000000 in
theorem w_X11_pay_78 {x : xC} (C : CtM x RX11 cX11_pay 7 ({ frames := 3, cells := 0, slots := 0, locals := 69 } : Room)) (M : xM) (s0 : Int32)  (o : Int32 × xM) (h : b_X11_pay_78 M s0 = some o) (hr : (x_me x).sig.returnType = some .int) (ev : x_rv x = some (.int o.1)) (eM : x_M x = o.2) : J x M 78 [] [.int s0] := by
  unfold b_X11_pay_78 at h
  obtain rfl := Option.some.inj h
  exact r_iret C.1 hr ev eM dX11_pay_78

def b_X11_pay_46 (M : xM) (x1 : Int32) (x2 : Int32) (x3 : Int32) (x4 : Int32) (x5 : Int32) (s0 : Int32) (s1 : Int32) (s2 : Int32) : Option (Int32 × xM) :=
  bd (f_X11_why M s2 s1 s0) (fun r_1 => if r_1 = (-1 : Int32) then bd2 (f_X11_enters M (1 : Int32) x1 x2 x3 x4 x5) (fun r_4 M_6 => b_X11_pay_78 M_6 r_4) else bd2 (f_X11_refuses M r_1) (fun r_7 M_9 => b_X11_pay_78 M_9 r_7))
set_option maxRecDepth 20000 in
set_option maxHeartbeats 2000000 in
theorem w_X11_pay_46 {x : xC} (C : CtM x RX11 cX11_pay 7 ({ frames := 3, cells := 0, slots := 0, locals := 69 } : Room)) (M : xM) (x1 : Int32) (x2 : Int32) (x3 : Int32) (x4 : Int32) (x5 : Int32) (s0 : Int32) (s1 : Int32) (s2 : Int32)  (o : Int32 × xM) (h : b_X11_pay_46 M x1 x2 x3 x4 x5 s0 s1 s2 = some o) (hr : (x_me x).sig.returnType = some .int) (ev : x_rv x = some (.int o.1)) (eM : x_M x = o.2) : J x M 46 [(0, .ref (x_ad x 0)), (1, .int x1), (2, .int x2), (3, .int x3), (4, .int x4), (5, .int x5)] [.int s0, .int s1, .int s2, .ref (x_ad x 0)] := by
  unfold b_X11_pay_46 at h
  obtain ⟨r_1, hc_2, h⟩ := bd_E h
  refine cl_X11_281 C ⟨Nat.le_of_ble_eq_true rfl, Nat.le_of_ble_eq_true rfl⟩ (m_X11_why _ _ _ M s2 s1 s0 hc_2) (Nat.le_of_ble_eq_true rfl) dX11_pay_46 ?_
  refine r_istore C.1 [(6, .int r_1), (0, .ref (x_ad x 0)), (1, .int x1), (2, .int x2), (3, .int x3), (4, .int x4), (5, .int x5)] dX11_pay_49 (by decide) rfl rfl ?_
  refine r_iload C.1 0 dX11_pay_51 rfl ?_
  refine r_iconst (v := -1) C.1 dX11_pay_53 rfl ?_
  refine r_icmp_eq C.1 66 dX11_pay_54 (by decide) (fun c_3 => ?_) (fun c_3 => ?_)
  · replace h := ite_T c_3 h
    refine r_aload_n C.1 1 dX11_pay_66 rfl rfl ?_
    refine r_iconst (v := 1) C.1 dX11_pay_67 rfl ?_
    refine r_iload_n C.1 2 dX11_pay_68 rfl rfl ?_
    refine r_iload_n C.1 3 dX11_pay_69 rfl rfl ?_
    refine r_iload_n C.1 4 dX11_pay_70 rfl rfl ?_
    refine r_iload C.1 5 dX11_pay_71 rfl ?_
    refine r_iload C.1 6 dX11_pay_73 rfl ?_
    obtain ⟨r_4, M_6, hc_5, h⟩ := bd2_E h
    refine cl_X11_285 C ⟨Nat.le_of_ble_eq_true rfl, Nat.le_of_ble_eq_true rfl⟩ (m_X11_enters _ _ _ M (1 : Int32) x1 x2 x3 x4 x5 hc_5) (Nat.le_of_ble_eq_true rfl) dX11_pay_75 ?_
    exact r_sub [] rfl (w_X11_pay_78 C M_6 r_4 _ h hr ev eM)
  · replace h := ite_F c_3 h
    refine r_aload_n C.1 1 dX11_pay_57 rfl rfl ?_
    refine r_iload C.1 0 dX11_pay_58 rfl ?_
    obtain ⟨r_7, M_9, hc_8, h⟩ := bd2_E h
    refine cl_X11_248 C ⟨Nat.le_of_ble_eq_true rfl, Nat.le_of_ble_eq_true rfl⟩ (m_X11_refuses _ _ _ M r_1 hc_8) (Nat.le_of_ble_eq_true rfl) dX11_pay_60 ?_
    refine r_goto C.1 78 dX11_pay_63 (by decide) ?_
    exact r_sub [] rfl (w_X11_pay_78 C M_9 r_7 _ h hr ev eM)

def b_X11_pay_45 (M : xM) (x1 : Int32) (x2 : Int32) (x3 : Int32) (x4 : Int32) (x5 : Int32) (s0 : Int32) (s1 : Int32) : Option (Int32 × xM) :=
  b_X11_pay_46 M x1 x2 x3 x4 x5 (0 : Int32) s0 s1
set_option maxRecDepth 20000 in
set_option maxHeartbeats 2000000 in
theorem w_X11_pay_45 {x : xC} (C : CtM x RX11 cX11_pay 7 ({ frames := 3, cells := 0, slots := 0, locals := 69 } : Room)) (M : xM) (x1 : Int32) (x2 : Int32) (x3 : Int32) (x4 : Int32) (x5 : Int32) (s0 : Int32) (s1 : Int32)  (o : Int32 × xM) (h : b_X11_pay_45 M x1 x2 x3 x4 x5 s0 s1 = some o) (hr : (x_me x).sig.returnType = some .int) (ev : x_rv x = some (.int o.1)) (eM : x_M x = o.2) : J x M 45 [(0, .ref (x_ad x 0)), (1, .int x1), (2, .int x2), (3, .int x3), (4, .int x4), (5, .int x5)] [.int s0, .int s1, .ref (x_ad x 0)] := by
  unfold b_X11_pay_45 at h
  refine r_iconst (v := 0) C.1 dX11_pay_45 rfl ?_
  exact r_sub [0, 1, 2, 3, 4, 5] rfl (w_X11_pay_46 C M x1 x2 x3 x4 x5 (0 : Int32) s0 s1 _ h hr ev eM)

def b_X11_pay_0 (M : xM) (x1 : Int32) (x2 : Int32) (x3 : Int32) (x4 : Int32) (x5 : Int32) : Option (Int32 × xM) :=
  lt (uM M 0 0 (0 : Int32)) (fun M_1 => bd (f_X11_isAmount M_1 x3) (fun r_2 => if r_2 = 0 then b_X11_pay_45 M_1 x1 x2 x3 x4 x5 x2 x1 else bd (f_X11_in M_1 x4.toInt64 (0 : Int64) (3 : Int64)) (fun r_5 => if r_5 = 0 then b_X11_pay_45 M_1 x1 x2 x3 x4 x5 x2 x1 else bd (f_X11_in M_1 x5.toInt64 (0 : Int64) (999 : Int64)) (fun r_8 => if r_8 = 0 then b_X11_pay_45 M_1 x1 x2 x3 x4 x5 x2 x1 else b_X11_pay_46 M_1 x1 x2 x3 x4 x5 (1 : Int32) x2 x1))))
set_option maxRecDepth 20000 in
set_option maxHeartbeats 2000000 in
theorem w_X11_pay_0 {x : xC} (C : CtM x RX11 cX11_pay 7 ({ frames := 3, cells := 0, slots := 0, locals := 69 } : Room)) (M : xM) (x1 : Int32) (x2 : Int32) (x3 : Int32) (x4 : Int32) (x5 : Int32)  (o : Int32 × xM) (h : b_X11_pay_0 M x1 x2 x3 x4 x5 = some o) (hr : (x_me x).sig.returnType = some .int) (ev : x_rv x = some (.int o.1)) (eM : x_M x = o.2) : J x M 0 [(0, .ref (x_ad x 0)), (1, .int x1), (2, .int x2), (3, .int x3), (4, .int x4), (5, .int x5)] [] := by
  unfold b_X11_pay_0 at h
  refine r_aload_n C.1 0 dX11_pay_0 rfl rfl ?_
  refine r_iconst (v := 0) C.1 dX11_pay_1 rfl ?_
  obtain ⟨M_1, eM_1, h⟩ := lt_E h
  refine pf_X11_56 C eM_1 dX11_pay_2 ?_
  refine r_aload_n C.1 0 dX11_pay_5 rfl rfl ?_
  refine r_iload_n C.1 1 dX11_pay_6 rfl rfl ?_
  refine r_iload_n C.1 2 dX11_pay_7 rfl rfl ?_
  refine r_iload_n C.1 3 dX11_pay_8 rfl rfl ?_
  obtain ⟨r_2, hc_3, h⟩ := bd_E h
  refine cl_X11_276 C ⟨Nat.le_of_ble_eq_true rfl, Nat.le_of_ble_eq_true rfl⟩ (m_X11_isAmount _ _ _ M_1 x3 hc_3) (Nat.le_of_ble_eq_true rfl) dX11_pay_9 ?_
  refine r_if_eq C.1 45 dX11_pay_12 (by decide) (fun c_4 => ?_) (fun c_4 => ?_)
  · replace h := ite_T c_4 h
    exact r_sub [0, 1, 2, 3, 4, 5] rfl (w_X11_pay_45 C M_1 x1 x2 x3 x4 x5 x2 x1 _ h hr ev eM)
  · replace h := ite_F c_4 h
    refine r_iload C.1 4 dX11_pay_15 rfl ?_
    refine r_i2l C.1 dX11_pay_17 ?_
    refine r_lconst (v := 0) C.1 dX11_pay_18 rfl ?_
    refine r_ldc2 (v := 3) C.1 kw_1483 dX11_pay_19 ?_
    obtain ⟨r_5, hc_6, h⟩ := bd_E h
    refine cl_X11_67 C ⟨Nat.le_of_ble_eq_true rfl, Nat.le_of_ble_eq_true rfl⟩ (m_X11_in _ _ _ M_1 x4.toInt64 (0 : Int64) (3 : Int64) hc_6) (Nat.le_of_ble_eq_true rfl) dX11_pay_22 ?_
    refine r_if_eq C.1 45 dX11_pay_25 (by decide) (fun c_7 => ?_) (fun c_7 => ?_)
    · replace h := ite_T c_7 h
      exact r_sub [0, 1, 2, 3, 4, 5] rfl (w_X11_pay_45 C M_1 x1 x2 x3 x4 x5 x2 x1 _ h hr ev eM)
    · replace h := ite_F c_7 h
      refine r_iload C.1 5 dX11_pay_28 rfl ?_
      refine r_i2l C.1 dX11_pay_30 ?_
      refine r_lconst (v := 0) C.1 dX11_pay_31 rfl ?_
      refine r_ldc2 (v := 999) C.1 kw_1496 dX11_pay_32 ?_
      obtain ⟨r_8, hc_9, h⟩ := bd_E h
      refine cl_X11_67 C ⟨Nat.le_of_ble_eq_true rfl, Nat.le_of_ble_eq_true rfl⟩ (m_X11_in _ _ _ M_1 x5.toInt64 (0 : Int64) (999 : Int64) hc_9) (Nat.le_of_ble_eq_true rfl) dX11_pay_35 ?_
      refine r_if_eq C.1 45 dX11_pay_38 (by decide) (fun c_10 => ?_) (fun c_10 => ?_)
      · replace h := ite_T c_10 h
        exact r_sub [0, 1, 2, 3, 4, 5] rfl (w_X11_pay_45 C M_1 x1 x2 x3 x4 x5 x2 x1 _ h hr ev eM)
      · replace h := ite_F c_10 h
        refine r_iconst (v := 1) C.1 dX11_pay_41 rfl ?_
        refine r_goto C.1 46 dX11_pay_42 (by decide) ?_
        exact r_sub [0, 1, 2, 3, 4, 5] rfl (w_X11_pay_46 C M_1 x1 x2 x3 x4 x5 (1 : Int32) x2 x1 _ h hr ev eM)
def f_X11_pay (M : xM) (x1 : Int32) (x2 : Int32) (x3 : Int32) (x4 : Int32) (x5 : Int32) : Option (Int32 × xM) := b_X11_pay_0 M x1 x2 x3 x4 x5
set_option maxRecDepth 20000 in
theorem m_X11_pay (l : Launch) (D : va_G) (ad : Nat → Nat) (M : xM) (x1 : Int32) (x2 : Int32) (x3 : Int32) (x4 : Int32) (x5 : Int32)  {r : Int32} {M1 : xM} (h : f_X11_pay M x1 x2 x3 x4 x5 = some (r, M1)) : xMetM l yX11_pay cX11_pay 7 (some .int) ({ frames := 3, cells := 0, slots := 0, locals := 69 } : Room) [.ref (ad 0), .int x1, .int x2, .int x3, .int x4, .int x5] D ad M (some (.int r)) M1 := by
  refine xMetM_of (own := RX11) (by decide) rfl (Nat.le_of_ble_eq_true rfl) ?_
  intro x C e1 e2 e3 ev eM hr
  subst e1; subst e2; subst e3
  refine r_sub (L := [(0, .ref (x_ad x 0)), (1, .int x1), (2, .int x2), (3, .int x3), (4, .int x4), (5, .int x5)]) (L' := [(0, .ref (x_ad x 0)), (1, .int x1), (2, .int x2), (3, .int x3), (4, .int x4), (5, .int x5)]) [0, 1, 2, 3, 4, 5] rfl ?_
  exact w_X11_pay_0 C M x1 x2 x3 x4 x5 _ h hr ev eM

def b_X11_layOut_62 (M : xM) (s0 : Int32) : Option (Int32 × xM) :=
  some (s0, M)
set_option maxRecDepth 20000 in
set_option maxHeartbeats 2000000 in
theorem w_X11_layOut_62 {x : xC} (C : CtM x RX11 cX11_layOut 5 ({ frames := 6, cells := 0, slots := 0, locals := 133 } : Room)) (M : xM) (s0 : Int32)  (o : Int32 × xM) (h : b_X11_layOut_62 M s0 = some o) (hr : (x_me x).sig.returnType = some .int) (ev : x_rv x = some (.int o.1)) (eM : x_M x = o.2) : J x M 62 [] [.int s0] := by
  unfold b_X11_layOut_62 at h
  obtain rfl := Option.some.inj h
  exact r_iret C.1 hr ev eM dX11_layOut_62

def b_X11_layOut_0 (M : xM) (x1 : Int32) (x2 : Int32) (x3 : Int32) : Option (Int32 × xM) :=
  lt (uM M 0 0 (0 : Int32)) (fun M_1 => bd (f_X11_isAmount M_1 x3) (fun r_2 => bd (f_X11_why M_1 x1 x2 r_2) (fun r_4 => if r_4 = (-1 : Int32) then bd (f_X11_lays M_1) (fun M_9 => bd (f_X11_moneyOn M_9 x1 x2) (fun r_10 => if x3 ≤ r_10 then bd2 (f_X11_enters M_9 (2 : Int32) x1 x2 x3 (-1 : Int32) (-1 : Int32)) (fun r_13 M_15 => b_X11_layOut_62 M_15 r_13) else bd2 (f_X11_refuses M_9 (3 : Int32)) (fun r_16 M_18 => b_X11_layOut_62 M_18 r_16))) else bd2 (f_X11_refuses M_1 r_4) (fun r_19 M_21 => some (r_19, M_21)))))
set_option maxRecDepth 20000 in
set_option maxHeartbeats 2000000 in
theorem w_X11_layOut_0 {x : xC} (C : CtM x RX11 cX11_layOut 5 ({ frames := 6, cells := 0, slots := 0, locals := 133 } : Room)) (M : xM) (x1 : Int32) (x2 : Int32) (x3 : Int32)  (o : Int32 × xM) (h : b_X11_layOut_0 M x1 x2 x3 = some o) (hr : (x_me x).sig.returnType = some .int) (ev : x_rv x = some (.int o.1)) (eM : x_M x = o.2) : J x M 0 [(0, .ref (x_ad x 0)), (1, .int x1), (2, .int x2), (3, .int x3)] [] := by
  unfold b_X11_layOut_0 at h
  refine r_aload_n C.1 0 dX11_layOut_0 rfl rfl ?_
  refine r_iconst (v := 0) C.1 dX11_layOut_1 rfl ?_
  obtain ⟨M_1, eM_1, h⟩ := lt_E h
  refine pf_X11_56 C eM_1 dX11_layOut_2 ?_
  refine r_aload_n C.1 0 dX11_layOut_5 rfl rfl ?_
  refine r_iload_n C.1 1 dX11_layOut_6 rfl rfl ?_
  refine r_iload_n C.1 2 dX11_layOut_7 rfl rfl ?_
  refine r_iload_n C.1 3 dX11_layOut_8 rfl rfl ?_
  obtain ⟨r_2, hc_3, h⟩ := bd_E h
  refine cl_X11_276 C ⟨Nat.le_of_ble_eq_true rfl, Nat.le_of_ble_eq_true rfl⟩ (m_X11_isAmount _ _ _ M_1 x3 hc_3) (Nat.le_of_ble_eq_true rfl) dX11_layOut_9 ?_
  obtain ⟨r_4, hc_5, h⟩ := bd_E h
  refine cl_X11_281 C ⟨Nat.le_of_ble_eq_true rfl, Nat.le_of_ble_eq_true rfl⟩ (m_X11_why _ _ _ M_1 x1 x2 r_2 hc_5) (Nat.le_of_ble_eq_true rfl) dX11_layOut_12 ?_
  refine r_istore C.1 [(4, .int r_4), (0, .ref (x_ad x 0)), (1, .int x1), (2, .int x2), (3, .int x3)] dX11_layOut_15 (by decide) rfl rfl ?_
  refine r_iload C.1 0 dX11_layOut_17 rfl ?_
  refine r_iconst (v := -1) C.1 dX11_layOut_19 rfl ?_
  refine r_icmp_eq C.1 30 dX11_layOut_20 (by decide) (fun c_6 => ?_) (fun c_6 => ?_)
  · replace h := ite_T c_6 h
    refine r_aload_n C.1 1 dX11_layOut_30 rfl rfl ?_
    obtain ⟨M_9, hc_8, h⟩ := bd_E h
    refine cl_X11_221 C ⟨Nat.le_of_ble_eq_true rfl, Nat.le_of_ble_eq_true rfl⟩ (m_X11_lays _ _ _ M_1 hc_8) (Nat.le_of_ble_eq_true rfl) dX11_layOut_31 ?_
    refine r_aload_n C.1 1 dX11_layOut_34 rfl rfl ?_
    refine r_iload_n C.1 2 dX11_layOut_35 rfl rfl ?_
    refine r_iload_n C.1 3 dX11_layOut_36 rfl rfl ?_
    obtain ⟨r_10, hc_11, h⟩ := bd_E h
    refine cl_X11_290 C ⟨Nat.le_of_ble_eq_true rfl, Nat.le_of_ble_eq_true rfl⟩ (m_X11_moneyOn _ _ _ M_9 x1 x2 hc_11) (Nat.le_of_ble_eq_true rfl) dX11_layOut_37 ?_
    refine r_iload_n C.1 4 dX11_layOut_40 rfl rfl ?_
    refine r_icmp_ge C.1 52 dX11_layOut_41 (by decide) (fun c_12 => ?_) (fun c_12 => ?_)
    · replace h := ite_T c_12 h
      refine r_aload_n C.1 1 dX11_layOut_52 rfl rfl ?_
      refine r_iconst (v := 2) C.1 dX11_layOut_53 rfl ?_
      refine r_iload_n C.1 2 dX11_layOut_54 rfl rfl ?_
      refine r_iload_n C.1 3 dX11_layOut_55 rfl rfl ?_
      refine r_iload_n C.1 4 dX11_layOut_56 rfl rfl ?_
      refine r_iconst (v := -1) C.1 dX11_layOut_57 rfl ?_
      refine r_iconst (v := -1) C.1 dX11_layOut_58 rfl ?_
      obtain ⟨r_13, M_15, hc_14, h⟩ := bd2_E h
      refine cl_X11_285 C ⟨Nat.le_of_ble_eq_true rfl, Nat.le_of_ble_eq_true rfl⟩ (m_X11_enters _ _ _ M_9 (2 : Int32) x1 x2 x3 (-1 : Int32) (-1 : Int32) hc_14) (Nat.le_of_ble_eq_true rfl) dX11_layOut_59 ?_
      exact r_sub [] rfl (w_X11_layOut_62 C M_15 r_13 _ h hr ev eM)
    · replace h := ite_F c_12 h
      refine r_aload_n C.1 1 dX11_layOut_44 rfl rfl ?_
      refine r_iconst (v := 3) C.1 dX11_layOut_45 rfl ?_
      obtain ⟨r_16, M_18, hc_17, h⟩ := bd2_E h
      refine cl_X11_248 C ⟨Nat.le_of_ble_eq_true rfl, Nat.le_of_ble_eq_true rfl⟩ (m_X11_refuses _ _ _ M_9 (3 : Int32) hc_17) (Nat.le_of_ble_eq_true rfl) dX11_layOut_46 ?_
      refine r_goto C.1 62 dX11_layOut_49 (by decide) ?_
      exact r_sub [] rfl (w_X11_layOut_62 C M_18 r_16 _ h hr ev eM)
  · replace h := ite_F c_6 h
    refine r_aload_n C.1 1 dX11_layOut_23 rfl rfl ?_
    refine r_iload C.1 0 dX11_layOut_24 rfl ?_
    obtain ⟨r_19, M_21, hc_20, h⟩ := bd2_E h
    refine cl_X11_248 C ⟨Nat.le_of_ble_eq_true rfl, Nat.le_of_ble_eq_true rfl⟩ (m_X11_refuses _ _ _ M_1 r_4 hc_20) (Nat.le_of_ble_eq_true rfl) dX11_layOut_26 ?_
    obtain rfl := Option.some.inj h
    exact r_iret C.1 hr ev eM dX11_layOut_29
def f_X11_layOut (M : xM) (x1 : Int32) (x2 : Int32) (x3 : Int32) : Option (Int32 × xM) := b_X11_layOut_0 M x1 x2 x3
set_option maxRecDepth 20000 in
theorem m_X11_layOut (l : Launch) (D : va_G) (ad : Nat → Nat) (M : xM) (x1 : Int32) (x2 : Int32) (x3 : Int32)  {r : Int32} {M1 : xM} (h : f_X11_layOut M x1 x2 x3 = some (r, M1)) : xMetM l yX11_layOut cX11_layOut 5 (some .int) ({ frames := 6, cells := 0, slots := 0, locals := 133 } : Room) [.ref (ad 0), .int x1, .int x2, .int x3] D ad M (some (.int r)) M1 := by
  refine xMetM_of (own := RX11) (by decide) rfl (Nat.le_of_ble_eq_true rfl) ?_
  intro x C e1 e2 e3 ev eM hr
  subst e1; subst e2; subst e3
  refine r_sub (L := [(0, .ref (x_ad x 0)), (1, .int x1), (2, .int x2), (3, .int x3)]) (L' := [(0, .ref (x_ad x 0)), (1, .int x1), (2, .int x2), (3, .int x3)]) [0, 1, 2, 3] rfl ?_
  exact w_X11_layOut_0 C M x1 x2 x3 _ h hr ev eM

def b_X11_callIn_58 (M : xM) (s0 : Int32) : Option (Int32 × xM) :=
  some (s0, M)
set_option maxRecDepth 20000 in
set_option maxHeartbeats 2000000 in
theorem w_X11_callIn_58 {x : xC} (C : CtM x RX11 cX11_callIn 5 ({ frames := 3, cells := 0, slots := 0, locals := 69 } : Room)) (M : xM) (s0 : Int32)  (o : Int32 × xM) (h : b_X11_callIn_58 M s0 = some o) (hr : (x_me x).sig.returnType = some .int) (ev : x_rv x = some (.int o.1)) (eM : x_M x = o.2) : J x M 58 [] [.int s0] := by
  unfold b_X11_callIn_58 at h
  obtain rfl := Option.some.inj h
  exact r_iret C.1 hr ev eM dX11_callIn_58

def b_X11_callIn_0 (M : xM) (x1 : Int32) (x2 : Int32) (x3 : Int32) : Option (Int32 × xM) :=
  lt (uM M 0 0 (0 : Int32)) (fun M_1 => bd (f_X11_isAmount M_1 x3) (fun r_2 => bd (f_X11_why M_1 x1 x2 r_2) (fun r_4 => if r_4 = (-1 : Int32) then bd (f_X11_outOn M_1 x1 x2) (fun r_7 => if x3 ≤ r_7 then bd2 (f_X11_enters M_1 (3 : Int32) x1 x2 x3 (-1 : Int32) (-1 : Int32)) (fun r_10 M_12 => b_X11_callIn_58 M_12 r_10) else bd2 (f_X11_refuses M_1 (3 : Int32)) (fun r_13 M_15 => b_X11_callIn_58 M_15 r_13)) else bd2 (f_X11_refuses M_1 r_4) (fun r_16 M_18 => some (r_16, M_18)))))
set_option maxRecDepth 20000 in
set_option maxHeartbeats 2000000 in
theorem w_X11_callIn_0 {x : xC} (C : CtM x RX11 cX11_callIn 5 ({ frames := 3, cells := 0, slots := 0, locals := 69 } : Room)) (M : xM) (x1 : Int32) (x2 : Int32) (x3 : Int32)  (o : Int32 × xM) (h : b_X11_callIn_0 M x1 x2 x3 = some o) (hr : (x_me x).sig.returnType = some .int) (ev : x_rv x = some (.int o.1)) (eM : x_M x = o.2) : J x M 0 [(0, .ref (x_ad x 0)), (1, .int x1), (2, .int x2), (3, .int x3)] [] := by
  unfold b_X11_callIn_0 at h
  refine r_aload_n C.1 0 dX11_callIn_0 rfl rfl ?_
  refine r_iconst (v := 0) C.1 dX11_callIn_1 rfl ?_
  obtain ⟨M_1, eM_1, h⟩ := lt_E h
  refine pf_X11_56 C eM_1 dX11_callIn_2 ?_
  refine r_aload_n C.1 0 dX11_callIn_5 rfl rfl ?_
  refine r_iload_n C.1 1 dX11_callIn_6 rfl rfl ?_
  refine r_iload_n C.1 2 dX11_callIn_7 rfl rfl ?_
  refine r_iload_n C.1 3 dX11_callIn_8 rfl rfl ?_
  obtain ⟨r_2, hc_3, h⟩ := bd_E h
  refine cl_X11_276 C ⟨Nat.le_of_ble_eq_true rfl, Nat.le_of_ble_eq_true rfl⟩ (m_X11_isAmount _ _ _ M_1 x3 hc_3) (Nat.le_of_ble_eq_true rfl) dX11_callIn_9 ?_
  obtain ⟨r_4, hc_5, h⟩ := bd_E h
  refine cl_X11_281 C ⟨Nat.le_of_ble_eq_true rfl, Nat.le_of_ble_eq_true rfl⟩ (m_X11_why _ _ _ M_1 x1 x2 r_2 hc_5) (Nat.le_of_ble_eq_true rfl) dX11_callIn_12 ?_
  refine r_istore C.1 [(4, .int r_4), (0, .ref (x_ad x 0)), (1, .int x1), (2, .int x2), (3, .int x3)] dX11_callIn_15 (by decide) rfl rfl ?_
  refine r_iload C.1 0 dX11_callIn_17 rfl ?_
  refine r_iconst (v := -1) C.1 dX11_callIn_19 rfl ?_
  refine r_icmp_eq C.1 30 dX11_callIn_20 (by decide) (fun c_6 => ?_) (fun c_6 => ?_)
  · replace h := ite_T c_6 h
    refine r_aload_n C.1 1 dX11_callIn_30 rfl rfl ?_
    refine r_iload_n C.1 2 dX11_callIn_31 rfl rfl ?_
    refine r_iload_n C.1 3 dX11_callIn_32 rfl rfl ?_
    obtain ⟨r_7, hc_8, h⟩ := bd_E h
    refine cl_X11_293 C ⟨Nat.le_of_ble_eq_true rfl, Nat.le_of_ble_eq_true rfl⟩ (m_X11_outOn _ _ _ M_1 x1 x2 hc_8) (Nat.le_of_ble_eq_true rfl) dX11_callIn_33 ?_
    refine r_iload_n C.1 4 dX11_callIn_36 rfl rfl ?_
    refine r_icmp_ge C.1 48 dX11_callIn_37 (by decide) (fun c_9 => ?_) (fun c_9 => ?_)
    · replace h := ite_T c_9 h
      refine r_aload_n C.1 1 dX11_callIn_48 rfl rfl ?_
      refine r_iconst (v := 3) C.1 dX11_callIn_49 rfl ?_
      refine r_iload_n C.1 2 dX11_callIn_50 rfl rfl ?_
      refine r_iload_n C.1 3 dX11_callIn_51 rfl rfl ?_
      refine r_iload_n C.1 4 dX11_callIn_52 rfl rfl ?_
      refine r_iconst (v := -1) C.1 dX11_callIn_53 rfl ?_
      refine r_iconst (v := -1) C.1 dX11_callIn_54 rfl ?_
      obtain ⟨r_10, M_12, hc_11, h⟩ := bd2_E h
      refine cl_X11_285 C ⟨Nat.le_of_ble_eq_true rfl, Nat.le_of_ble_eq_true rfl⟩ (m_X11_enters _ _ _ M_1 (3 : Int32) x1 x2 x3 (-1 : Int32) (-1 : Int32) hc_11) (Nat.le_of_ble_eq_true rfl) dX11_callIn_55 ?_
      exact r_sub [] rfl (w_X11_callIn_58 C M_12 r_10 _ h hr ev eM)
    · replace h := ite_F c_9 h
      refine r_aload_n C.1 1 dX11_callIn_40 rfl rfl ?_
      refine r_iconst (v := 3) C.1 dX11_callIn_41 rfl ?_
      obtain ⟨r_13, M_15, hc_14, h⟩ := bd2_E h
      refine cl_X11_248 C ⟨Nat.le_of_ble_eq_true rfl, Nat.le_of_ble_eq_true rfl⟩ (m_X11_refuses _ _ _ M_1 (3 : Int32) hc_14) (Nat.le_of_ble_eq_true rfl) dX11_callIn_42 ?_
      refine r_goto C.1 58 dX11_callIn_45 (by decide) ?_
      exact r_sub [] rfl (w_X11_callIn_58 C M_15 r_13 _ h hr ev eM)
  · replace h := ite_F c_6 h
    refine r_aload_n C.1 1 dX11_callIn_23 rfl rfl ?_
    refine r_iload C.1 0 dX11_callIn_24 rfl ?_
    obtain ⟨r_16, M_18, hc_17, h⟩ := bd2_E h
    refine cl_X11_248 C ⟨Nat.le_of_ble_eq_true rfl, Nat.le_of_ble_eq_true rfl⟩ (m_X11_refuses _ _ _ M_1 r_4 hc_17) (Nat.le_of_ble_eq_true rfl) dX11_callIn_26 ?_
    obtain rfl := Option.some.inj h
    exact r_iret C.1 hr ev eM dX11_callIn_29
def f_X11_callIn (M : xM) (x1 : Int32) (x2 : Int32) (x3 : Int32) : Option (Int32 × xM) := b_X11_callIn_0 M x1 x2 x3
set_option maxRecDepth 20000 in
theorem m_X11_callIn (l : Launch) (D : va_G) (ad : Nat → Nat) (M : xM) (x1 : Int32) (x2 : Int32) (x3 : Int32)  {r : Int32} {M1 : xM} (h : f_X11_callIn M x1 x2 x3 = some (r, M1)) : xMetM l yX11_callIn cX11_callIn 5 (some .int) ({ frames := 3, cells := 0, slots := 0, locals := 69 } : Room) [.ref (ad 0), .int x1, .int x2, .int x3] D ad M (some (.int r)) M1 := by
  refine xMetM_of (own := RX11) (by decide) rfl (Nat.le_of_ble_eq_true rfl) ?_
  intro x C e1 e2 e3 ev eM hr
  subst e1; subst e2; subst e3
  refine r_sub (L := [(0, .ref (x_ad x 0)), (1, .int x1), (2, .int x2), (3, .int x3)]) (L' := [(0, .ref (x_ad x 0)), (1, .int x1), (2, .int x2), (3, .int x3)]) [0, 1, 2, 3] rfl ?_
  exact w_X11_callIn_0 C M x1 x2 x3 _ h hr ev eM

def b_X11_order_42 (M : xM) (x1 : Int32) (x2 : Int32) (x3 : Int32) (x4 : Int32) (x5 : Int32) (s0 : Int32) : Option (Int32 × xM) :=
  bd (f_X11_why M x1 x3 s0) (fun r_1 => if r_1 = (-1 : Int32) then gd (3 : Int32) 495 (if (M 4 (3 : Int32).toNatClampNeg) = (12 : Int32) then bd2 (f_X11_refuses M (4 : Int32)) (fun r_25 M_27 => some (r_25, M_27)) else bd (f_X11_keeps M) (fun M_8 => gd (3 : Int32) 495 (lt ((435 : Int32) + ((5 : Int32) * (M_8 4 (3 : Int32).toNatClampNeg))) (fun y_10 => gd y_10 495 (lt (uM M_8 4 y_10.toNatClampNeg x1) (fun M_12 => gd (y_10 + (1 : Int32)) 495 (lt (uM M_12 4 (y_10 + (1 : Int32)).toNatClampNeg x2) (fun M_14 => gd (y_10 + (2 : Int32)) 495 (lt (uM M_14 4 (y_10 + (2 : Int32)).toNatClampNeg x3) (fun M_16 => gd (y_10 + (3 : Int32)) 495 (lt (uM M_16 4 (y_10 + (3 : Int32)).toNatClampNeg x4) (fun M_18 => gd (y_10 + (4 : Int32)) 495 (lt (uM M_18 4 (y_10 + (4 : Int32)).toNatClampNeg x5) (fun M_20 => gd (3 : Int32) 495 (gd (3 : Int32) 495 (lt (uM M_20 4 (3 : Int32).toNatClampNeg ((M_20 4 (3 : Int32).toNatClampNeg) + (1 : Int32))) (fun M_23 => gd (3 : Int32) 495 (some (M_23 4 (3 : Int32).toNatClampNeg, M_23))))))))))))))))))) else bd2 (f_X11_refuses M r_1) (fun r_28 M_30 => some (r_28, M_30)))
set_option maxRecDepth 20000 in
set_option maxHeartbeats 2000000 in
theorem w_X11_order_42 {x : xC} (C : CtM x RX11 cX11_order 9 ({ frames := 3, cells := 0, slots := 0, locals := 69 } : Room)) (M : xM) (x1 : Int32) (x2 : Int32) (x3 : Int32) (x4 : Int32) (x5 : Int32) (s0 : Int32)  (o : Int32 × xM) (h : b_X11_order_42 M x1 x2 x3 x4 x5 s0 = some o) (hr : (x_me x).sig.returnType = some .int) (ev : x_rv x = some (.int o.1)) (eM : x_M x = o.2) : J x M 42 [(0, .ref (x_ad x 0)), (1, .int x1), (2, .int x2), (3, .int x3), (4, .int x4), (5, .int x5)] [.int s0] := by
  unfold b_X11_order_42 at h
  refine r_istore C.1 [(6, .int s0), (0, .ref (x_ad x 0)), (1, .int x1), (2, .int x2), (3, .int x3), (4, .int x4), (5, .int x5)] dX11_order_42 (by decide) rfl rfl ?_
  refine r_aload_n C.1 1 dX11_order_44 rfl rfl ?_
  refine r_iload_n C.1 2 dX11_order_45 rfl rfl ?_
  refine r_iload_n C.1 4 dX11_order_46 rfl rfl ?_
  refine r_iload C.1 0 dX11_order_47 rfl ?_
  obtain ⟨r_1, hc_2, h⟩ := bd_E h
  refine cl_X11_281 C ⟨Nat.le_of_ble_eq_true rfl, Nat.le_of_ble_eq_true rfl⟩ (m_X11_why _ _ _ M x1 x3 s0 hc_2) (Nat.le_of_ble_eq_true rfl) dX11_order_49 ?_
  refine r_istore C.1 [(7, .int r_1), (6, .int s0), (0, .ref (x_ad x 0)), (1, .int x1), (2, .int x2), (3, .int x3), (4, .int x4), (5, .int x5)] dX11_order_52 (by decide) rfl rfl ?_
  refine r_iload C.1 0 dX11_order_54 rfl ?_
  refine r_iconst (v := -1) C.1 dX11_order_56 rfl ?_
  refine r_icmp_eq C.1 67 dX11_order_57 (by decide) (fun c_3 => ?_) (fun c_3 => ?_)
  · replace h := ite_T c_3 h
    refine r_aload_n C.1 2 dX11_order_67 rfl rfl ?_
    refine gf_X11_19 C dX11_order_68 ?_
    refine r_iconst (v := 3) C.1 dX11_order_71 rfl ?_
    obtain ⟨q_4, h⟩ := gd_E h
    refine r_iald C.1 (mK C (by decide)) (mS C (shm_4)) 0 (mT0 C) q_4 dX11_order_72 ?_
    refine r_bipush (v := 12) C.1 dX11_order_73 (by decide) ?_
    refine r_icmp_ne C.1 84 dX11_order_75 (by decide) (fun c_5 => ?_) (fun c_5 => ?_)
    · replace h := ite_F c_5 h
      refine r_aload_n C.1 2 dX11_order_84 rfl rfl ?_
      obtain ⟨M_8, hc_7, h⟩ := bd_E h
      refine cl_X11_251 C ⟨Nat.le_of_ble_eq_true rfl, Nat.le_of_ble_eq_true rfl⟩ (m_X11_keeps _ _ _ M hc_7) (Nat.le_of_ble_eq_true rfl) dX11_order_85 ?_
      refine r_sipush (v := 435) C.1 dX11_order_88 (by decide) ?_
      refine r_iconst (v := 5) C.1 dX11_order_91 rfl ?_
      refine r_aload_n C.1 2 dX11_order_92 rfl rfl ?_
      refine gf_X11_19 C dX11_order_93 ?_
      refine r_iconst (v := 3) C.1 dX11_order_96 rfl ?_
      obtain ⟨q_9, h⟩ := gd_E h
      refine r_iald C.1 (mK C (by decide)) (mS C (shm_4)) 0 (mT0 C) q_9 dX11_order_97 ?_
      refine r_imul C.1 dX11_order_98 ?_
      refine r_iadd C.1 dX11_order_99 ?_
      obtain ⟨y_10, ey_10, h⟩ := lt_E h
      refine r_istore C.1 [(8, .int y_10), (7, .int r_1), (6, .int s0), (0, .ref (x_ad x 0)), (1, .int x1), (2, .int x2), (3, .int x3), (4, .int x4), (5, .int x5)] dX11_order_100 (by decide) ey_10 rfl ?_
      refine r_aload_n C.1 3 dX11_order_102 rfl rfl ?_
      refine gf_X11_19 C dX11_order_103 ?_
      refine r_iload C.1 0 dX11_order_106 rfl ?_
      refine r_iload_n C.1 4 dX11_order_108 rfl rfl ?_
      obtain ⟨q_11, h⟩ := gd_E h
      obtain ⟨M_12, eM_12, h⟩ := lt_E h
      refine r_iast C.1 (mK C (by decide)) (mS C (shm_4)) 0 (mT0 C) q_11 eM_12 dX11_order_109 ?_
      refine r_aload_n C.1 3 dX11_order_110 rfl rfl ?_
      refine gf_X11_19 C dX11_order_111 ?_
      refine r_iload C.1 0 dX11_order_114 rfl ?_
      refine r_iconst (v := 1) C.1 dX11_order_116 rfl ?_
      refine r_iadd C.1 dX11_order_117 ?_
      refine r_iload_n C.1 5 dX11_order_118 rfl rfl ?_
      obtain ⟨q_13, h⟩ := gd_E h
      obtain ⟨M_14, eM_14, h⟩ := lt_E h
      refine r_iast C.1 (mK C (by decide)) (mS C (shm_4)) 0 (mT0 C) q_13 eM_14 dX11_order_119 ?_
      refine r_aload_n C.1 3 dX11_order_120 rfl rfl ?_
      refine gf_X11_19 C dX11_order_121 ?_
      refine r_iload C.1 0 dX11_order_124 rfl ?_
      refine r_iconst (v := 2) C.1 dX11_order_126 rfl ?_
      refine r_iadd C.1 dX11_order_127 ?_
      refine r_iload_n C.1 6 dX11_order_128 rfl rfl ?_
      obtain ⟨q_15, h⟩ := gd_E h
      obtain ⟨M_16, eM_16, h⟩ := lt_E h
      refine r_iast C.1 (mK C (by decide)) (mS C (shm_4)) 0 (mT0 C) q_15 eM_16 dX11_order_129 ?_
      refine r_aload_n C.1 3 dX11_order_130 rfl rfl ?_
      refine gf_X11_19 C dX11_order_131 ?_
      refine r_iload C.1 0 dX11_order_134 rfl ?_
      refine r_iconst (v := 3) C.1 dX11_order_136 rfl ?_
      refine r_iadd C.1 dX11_order_137 ?_
      refine r_iload C.1 7 dX11_order_138 rfl ?_
      obtain ⟨q_17, h⟩ := gd_E h
      obtain ⟨M_18, eM_18, h⟩ := lt_E h
      refine r_iast C.1 (mK C (by decide)) (mS C (shm_4)) 0 (mT0 C) q_17 eM_18 dX11_order_140 ?_
      refine r_aload_n C.1 3 dX11_order_141 rfl rfl ?_
      refine gf_X11_19 C dX11_order_142 ?_
      refine r_iload C.1 0 dX11_order_145 rfl ?_
      refine r_iconst (v := 4) C.1 dX11_order_147 rfl ?_
      refine r_iadd C.1 dX11_order_148 ?_
      refine r_iload C.1 8 dX11_order_149 rfl ?_
      obtain ⟨q_19, h⟩ := gd_E h
      obtain ⟨M_20, eM_20, h⟩ := lt_E h
      refine r_iast C.1 (mK C (by decide)) (mS C (shm_4)) 0 (mT0 C) q_19 eM_20 dX11_order_151 ?_
      refine r_aload_n C.1 3 dX11_order_152 rfl rfl ?_
      refine gf_X11_19 C dX11_order_153 ?_
      refine r_iconst (v := 3) C.1 dX11_order_156 rfl ?_
      refine r_dup2 C.1 rfl rfl dX11_order_157 ?_
      obtain ⟨q_21, h⟩ := gd_E h
      refine r_iald C.1 (mK C (by decide)) (mS C (shm_4)) 0 (mT0 C) q_21 dX11_order_158 ?_
      refine r_iconst (v := 1) C.1 dX11_order_159 rfl ?_
      refine r_iadd C.1 dX11_order_160 ?_
      obtain ⟨q_22, h⟩ := gd_E h
      obtain ⟨M_23, eM_23, h⟩ := lt_E h
      refine r_iast C.1 (mK C (by decide)) (mS C (shm_4)) 0 (mT0 C) q_22 eM_23 dX11_order_161 ?_
      refine r_aload_n C.1 3 dX11_order_162 rfl rfl ?_
      refine gf_X11_19 C dX11_order_163 ?_
      refine r_iconst (v := 3) C.1 dX11_order_166 rfl ?_
      obtain ⟨q_24, h⟩ := gd_E h
      refine r_iald C.1 (mK C (by decide)) (mS C (shm_4)) 0 (mT0 C) q_24 dX11_order_167 ?_
      obtain rfl := Option.some.inj h
      exact r_iret C.1 hr ev eM dX11_order_168
    · replace h := ite_T c_5 h
      refine r_aload_n C.1 2 dX11_order_78 rfl rfl ?_
      refine r_iconst (v := 4) C.1 dX11_order_79 rfl ?_
      obtain ⟨r_25, M_27, hc_26, h⟩ := bd2_E h
      refine cl_X11_248 C ⟨Nat.le_of_ble_eq_true rfl, Nat.le_of_ble_eq_true rfl⟩ (m_X11_refuses _ _ _ M (4 : Int32) hc_26) (Nat.le_of_ble_eq_true rfl) dX11_order_80 ?_
      obtain rfl := Option.some.inj h
      exact r_iret C.1 hr ev eM dX11_order_83
  · replace h := ite_F c_3 h
    refine r_aload_n C.1 2 dX11_order_60 rfl rfl ?_
    refine r_iload C.1 0 dX11_order_61 rfl ?_
    obtain ⟨r_28, M_30, hc_29, h⟩ := bd2_E h
    refine cl_X11_248 C ⟨Nat.le_of_ble_eq_true rfl, Nat.le_of_ble_eq_true rfl⟩ (m_X11_refuses _ _ _ M r_1 hc_29) (Nat.le_of_ble_eq_true rfl) dX11_order_63 ?_
    obtain rfl := Option.some.inj h
    exact r_iret C.1 hr ev eM dX11_order_66

def b_X11_order_41 (M : xM) (x1 : Int32) (x2 : Int32) (x3 : Int32) (x4 : Int32) (x5 : Int32) : Option (Int32 × xM) :=
  b_X11_order_42 M x1 x2 x3 x4 x5 (0 : Int32)
set_option maxRecDepth 20000 in
set_option maxHeartbeats 2000000 in
theorem w_X11_order_41 {x : xC} (C : CtM x RX11 cX11_order 9 ({ frames := 3, cells := 0, slots := 0, locals := 69 } : Room)) (M : xM) (x1 : Int32) (x2 : Int32) (x3 : Int32) (x4 : Int32) (x5 : Int32)  (o : Int32 × xM) (h : b_X11_order_41 M x1 x2 x3 x4 x5 = some o) (hr : (x_me x).sig.returnType = some .int) (ev : x_rv x = some (.int o.1)) (eM : x_M x = o.2) : J x M 41 [(0, .ref (x_ad x 0)), (1, .int x1), (2, .int x2), (3, .int x3), (4, .int x4), (5, .int x5)] [] := by
  unfold b_X11_order_41 at h
  refine r_iconst (v := 0) C.1 dX11_order_41 rfl ?_
  exact r_sub [0, 1, 2, 3, 4, 5] rfl (w_X11_order_42 C M x1 x2 x3 x4 x5 (0 : Int32) _ h hr ev eM)

def b_X11_order_0 (M : xM) (x1 : Int32) (x2 : Int32) (x3 : Int32) (x4 : Int32) (x5 : Int32) : Option (Int32 × xM) :=
  lt (uM M 0 0 (0 : Int32)) (fun M_1 => bd (f_X11_in M_1 x2.toInt64 (0 : Int64) (1 : Int64)) (fun r_2 => if r_2 = 0 then b_X11_order_41 M_1 x1 x2 x3 x4 x5 else bd (f_X11_isDay M_1 x4) (fun r_5 => if r_5 = 0 then b_X11_order_41 M_1 x1 x2 x3 x4 x5 else if x4 < x3 then b_X11_order_41 M_1 x1 x2 x3 x4 x5 else bd (f_X11_isAmount M_1 x5) (fun r_9 => if r_9 = 0 then b_X11_order_41 M_1 x1 x2 x3 x4 x5 else b_X11_order_42 M_1 x1 x2 x3 x4 x5 (1 : Int32)))))
set_option maxRecDepth 20000 in
set_option maxHeartbeats 2000000 in
theorem w_X11_order_0 {x : xC} (C : CtM x RX11 cX11_order 9 ({ frames := 3, cells := 0, slots := 0, locals := 69 } : Room)) (M : xM) (x1 : Int32) (x2 : Int32) (x3 : Int32) (x4 : Int32) (x5 : Int32)  (o : Int32 × xM) (h : b_X11_order_0 M x1 x2 x3 x4 x5 = some o) (hr : (x_me x).sig.returnType = some .int) (ev : x_rv x = some (.int o.1)) (eM : x_M x = o.2) : J x M 0 [(0, .ref (x_ad x 0)), (1, .int x1), (2, .int x2), (3, .int x3), (4, .int x4), (5, .int x5)] [] := by
  unfold b_X11_order_0 at h
  refine r_aload_n C.1 0 dX11_order_0 rfl rfl ?_
  refine r_iconst (v := 0) C.1 dX11_order_1 rfl ?_
  obtain ⟨M_1, eM_1, h⟩ := lt_E h
  refine pf_X11_56 C eM_1 dX11_order_2 ?_
  refine r_iload_n C.1 2 dX11_order_5 rfl rfl ?_
  refine r_i2l C.1 dX11_order_6 ?_
  refine r_lconst (v := 0) C.1 dX11_order_7 rfl ?_
  refine r_lconst (v := 1) C.1 dX11_order_8 rfl ?_
  obtain ⟨r_2, hc_3, h⟩ := bd_E h
  refine cl_X11_67 C ⟨Nat.le_of_ble_eq_true rfl, Nat.le_of_ble_eq_true rfl⟩ (m_X11_in _ _ _ M_1 x2.toInt64 (0 : Int64) (1 : Int64) hc_3) (Nat.le_of_ble_eq_true rfl) dX11_order_9 ?_
  refine r_if_eq C.1 41 dX11_order_12 (by decide) (fun c_4 => ?_) (fun c_4 => ?_)
  · replace h := ite_T c_4 h
    exact r_sub [0, 1, 2, 3, 4, 5] rfl (w_X11_order_41 C M_1 x1 x2 x3 x4 x5 _ h hr ev eM)
  · replace h := ite_F c_4 h
    refine r_iload C.1 4 dX11_order_15 rfl ?_
    obtain ⟨r_5, hc_6, h⟩ := bd_E h
    refine cl_X11_265 C ⟨Nat.le_of_ble_eq_true rfl, Nat.le_of_ble_eq_true rfl⟩ (m_X11_isDay _ _ _ M_1 x4 hc_6) (Nat.le_of_ble_eq_true rfl) dX11_order_17 ?_
    refine r_if_eq C.1 41 dX11_order_20 (by decide) (fun c_7 => ?_) (fun c_7 => ?_)
    · replace h := ite_T c_7 h
      exact r_sub [0, 1, 2, 3, 4, 5] rfl (w_X11_order_41 C M_1 x1 x2 x3 x4 x5 _ h hr ev eM)
    · replace h := ite_F c_7 h
      refine r_iload C.1 4 dX11_order_23 rfl ?_
      refine r_iload_n C.1 3 dX11_order_25 rfl rfl ?_
      refine r_icmp_lt C.1 41 dX11_order_26 (by decide) (fun c_8 => ?_) (fun c_8 => ?_)
      · replace h := ite_T c_8 h
        exact r_sub [0, 1, 2, 3, 4, 5] rfl (w_X11_order_41 C M_1 x1 x2 x3 x4 x5 _ h hr ev eM)
      · replace h := ite_F c_8 h
        refine r_iload C.1 5 dX11_order_29 rfl ?_
        obtain ⟨r_9, hc_10, h⟩ := bd_E h
        refine cl_X11_276 C ⟨Nat.le_of_ble_eq_true rfl, Nat.le_of_ble_eq_true rfl⟩ (m_X11_isAmount _ _ _ M_1 x5 hc_10) (Nat.le_of_ble_eq_true rfl) dX11_order_31 ?_
        refine r_if_eq C.1 41 dX11_order_34 (by decide) (fun c_11 => ?_) (fun c_11 => ?_)
        · replace h := ite_T c_11 h
          exact r_sub [0, 1, 2, 3, 4, 5] rfl (w_X11_order_41 C M_1 x1 x2 x3 x4 x5 _ h hr ev eM)
        · replace h := ite_F c_11 h
          refine r_iconst (v := 1) C.1 dX11_order_37 rfl ?_
          refine r_goto C.1 42 dX11_order_38 (by decide) ?_
          exact r_sub [0, 1, 2, 3, 4, 5] rfl (w_X11_order_42 C M_1 x1 x2 x3 x4 x5 (1 : Int32) _ h hr ev eM)
def f_X11_order (M : xM) (x1 : Int32) (x2 : Int32) (x3 : Int32) (x4 : Int32) (x5 : Int32) : Option (Int32 × xM) := b_X11_order_0 M x1 x2 x3 x4 x5
set_option maxRecDepth 20000 in
theorem m_X11_order (l : Launch) (D : va_G) (ad : Nat → Nat) (M : xM) (x1 : Int32) (x2 : Int32) (x3 : Int32) (x4 : Int32) (x5 : Int32)  {r : Int32} {M1 : xM} (h : f_X11_order M x1 x2 x3 x4 x5 = some (r, M1)) : xMetM l yX11_order cX11_order 9 (some .int) ({ frames := 3, cells := 0, slots := 0, locals := 69 } : Room) [.ref (ad 0), .int x1, .int x2, .int x3, .int x4, .int x5] D ad M (some (.int r)) M1 := by
  refine xMetM_of (own := RX11) (by decide) rfl (Nat.le_of_ble_eq_true rfl) ?_
  intro x C e1 e2 e3 ev eM hr
  subst e1; subst e2; subst e3
  refine r_sub (L := [(0, .ref (x_ad x 0)), (1, .int x1), (2, .int x2), (3, .int x3), (4, .int x4), (5, .int x5)]) (L' := [(0, .ref (x_ad x 0)), (1, .int x1), (2, .int x2), (3, .int x3), (4, .int x4), (5, .int x5)]) [0, 1, 2, 3, 4, 5] rfl ?_
  exact w_X11_order_0 C M x1 x2 x3 x4 x5 _ h hr ev eM

def b_X11_ratify_0 (M : xM) (x1 : Int32) : Option (Int32 × xM) :=
  lt (uM M 0 0 (0 : Int32)) (fun M_1 => bd (f_X11_isPayment M_1 x1) (fun r_2 => if r_2 = 0 then bd2 (f_X11_refuses M_1 (0 : Int32)) (fun r_31 M_33 => some (r_31, M_33)) else bd (f_X11_entryOf M_1 x1 (1 : Int32)) (fun r_5 => bd (f_X11_entryOf M_1 x1 (2 : Int32)) (fun r_7 => bd (f_X11_isShut M_1 r_5 r_7) (fun r_9 => if r_9 = 0 then bd (f_X11_entryOf M_1 x1 (6 : Int32)) (fun r_12 => if r_12 = (1 : Int32) then bd2 (f_X11_refuses M_1 (3 : Int32)) (fun r_25 M_27 => some (r_25, M_27)) else bd (f_X11_lays M_1) (fun M_17 => bd (f_X11_disallowed M_17 x1) (fun r_18 => bd (f_X11_keeps M_17) (fun M_22 => gd (((155 : Int32) + ((7 : Int32) * x1)) + (6 : Int32)) 495 (lt (uM M_22 4 (((155 : Int32) + ((7 : Int32) * x1)) + (6 : Int32)).toNatClampNeg (1 : Int32)) (fun M_24 => some (r_18, M_24))))))) else bd2 (f_X11_refuses M_1 (2 : Int32)) (fun r_28 M_30 => some (r_28, M_30)))))))
set_option maxRecDepth 20000 in
set_option maxHeartbeats 2000000 in
theorem w_X11_ratify_0 {x : xC} (C : CtM x RX11 cX11_ratify 3 ({ frames := 6, cells := 0, slots := 0, locals := 133 } : Room)) (M : xM) (x1 : Int32)  (o : Int32 × xM) (h : b_X11_ratify_0 M x1 = some o) (hr : (x_me x).sig.returnType = some .int) (ev : x_rv x = some (.int o.1)) (eM : x_M x = o.2) : J x M 0 [(0, .ref (x_ad x 0)), (1, .int x1)] [] := by
  unfold b_X11_ratify_0 at h
  refine r_aload_n C.1 0 dX11_ratify_0 rfl rfl ?_
  refine r_iconst (v := 0) C.1 dX11_ratify_1 rfl ?_
  obtain ⟨M_1, eM_1, h⟩ := lt_E h
  refine pf_X11_56 C eM_1 dX11_ratify_2 ?_
  refine r_aload_n C.1 0 dX11_ratify_5 rfl rfl ?_
  refine r_iload_n C.1 1 dX11_ratify_6 rfl rfl ?_
  obtain ⟨r_2, hc_3, h⟩ := bd_E h
  refine cl_X11_296 C ⟨Nat.le_of_ble_eq_true rfl, Nat.le_of_ble_eq_true rfl⟩ (m_X11_isPayment _ _ _ M_1 x1 hc_3) (Nat.le_of_ble_eq_true rfl) dX11_ratify_7 ?_
  refine r_if_ne C.1 19 dX11_ratify_10 (by decide) (fun c_4 => ?_) (fun c_4 => ?_)
  · replace h := ite_F c_4 h
    refine r_aload_n C.1 0 dX11_ratify_19 rfl rfl ?_
    refine r_aload_n C.1 0 dX11_ratify_20 rfl rfl ?_
    refine r_iload_n C.1 1 dX11_ratify_21 rfl rfl ?_
    refine r_iconst (v := 1) C.1 dX11_ratify_22 rfl ?_
    obtain ⟨r_5, hc_6, h⟩ := bd_E h
    refine cl_X11_173 C ⟨Nat.le_of_ble_eq_true rfl, Nat.le_of_ble_eq_true rfl⟩ (m_X11_entryOf _ _ _ M_1 x1 (1 : Int32) hc_6) (Nat.le_of_ble_eq_true rfl) dX11_ratify_23 ?_
    refine r_aload_n C.1 0 dX11_ratify_26 rfl rfl ?_
    refine r_iload_n C.1 1 dX11_ratify_27 rfl rfl ?_
    refine r_iconst (v := 2) C.1 dX11_ratify_28 rfl ?_
    obtain ⟨r_7, hc_8, h⟩ := bd_E h
    refine cl_X11_173 C ⟨Nat.le_of_ble_eq_true rfl, Nat.le_of_ble_eq_true rfl⟩ (m_X11_entryOf _ _ _ M_1 x1 (2 : Int32) hc_8) (Nat.le_of_ble_eq_true rfl) dX11_ratify_29 ?_
    obtain ⟨r_9, hc_10, h⟩ := bd_E h
    refine cl_X11_268 C ⟨Nat.le_of_ble_eq_true rfl, Nat.le_of_ble_eq_true rfl⟩ (m_X11_isShut _ _ _ M_1 r_5 r_7 hc_10) (Nat.le_of_ble_eq_true rfl) dX11_ratify_32 ?_
    refine r_if_eq C.1 44 dX11_ratify_35 (by decide) (fun c_11 => ?_) (fun c_11 => ?_)
    · replace h := ite_T c_11 h
      refine r_aload_n C.1 0 dX11_ratify_44 rfl rfl ?_
      refine r_iload_n C.1 1 dX11_ratify_45 rfl rfl ?_
      refine r_bipush (v := 6) C.1 dX11_ratify_46 (by decide) ?_
      obtain ⟨r_12, hc_13, h⟩ := bd_E h
      refine cl_X11_173 C ⟨Nat.le_of_ble_eq_true rfl, Nat.le_of_ble_eq_true rfl⟩ (m_X11_entryOf _ _ _ M_1 x1 (6 : Int32) hc_13) (Nat.le_of_ble_eq_true rfl) dX11_ratify_48 ?_
      refine r_iconst (v := 1) C.1 dX11_ratify_51 rfl ?_
      refine r_icmp_ne C.1 61 dX11_ratify_52 (by decide) (fun c_14 => ?_) (fun c_14 => ?_)
      · replace h := ite_F c_14 h
        refine r_aload_n C.1 0 dX11_ratify_61 rfl rfl ?_
        obtain ⟨M_17, hc_16, h⟩ := bd_E h
        refine cl_X11_221 C ⟨Nat.le_of_ble_eq_true rfl, Nat.le_of_ble_eq_true rfl⟩ (m_X11_lays _ _ _ M_1 hc_16) (Nat.le_of_ble_eq_true rfl) dX11_ratify_62 ?_
        refine r_aload_n C.1 0 dX11_ratify_65 rfl rfl ?_
        refine r_iload_n C.1 1 dX11_ratify_66 rfl rfl ?_
        obtain ⟨r_18, hc_19, h⟩ := bd_E h
        refine cl_X11_237 C ⟨Nat.le_of_ble_eq_true rfl, Nat.le_of_ble_eq_true rfl⟩ (m_X11_disallowed _ _ _ M_17 x1 hc_19) (Nat.le_of_ble_eq_true rfl) dX11_ratify_67 ?_
        refine r_istore_n C.1 [(2, .int r_18), (0, .ref (x_ad x 0)), (1, .int x1)] dX11_ratify_70 rfl (by decide) rfl rfl ?_
        refine r_aload_n C.1 1 dX11_ratify_71 rfl rfl ?_
        obtain ⟨M_22, hc_21, h⟩ := bd_E h
        refine cl_X11_251 C ⟨Nat.le_of_ble_eq_true rfl, Nat.le_of_ble_eq_true rfl⟩ (m_X11_keeps _ _ _ M_17 hc_21) (Nat.le_of_ble_eq_true rfl) dX11_ratify_72 ?_
        refine r_aload_n C.1 1 dX11_ratify_75 rfl rfl ?_
        refine gf_X11_19 C dX11_ratify_76 ?_
        refine r_sipush (v := 155) C.1 dX11_ratify_79 (by decide) ?_
        refine r_bipush (v := 7) C.1 dX11_ratify_82 (by decide) ?_
        refine r_iload_n C.1 2 dX11_ratify_84 rfl rfl ?_
        refine r_imul C.1 dX11_ratify_85 ?_
        refine r_iadd C.1 dX11_ratify_86 ?_
        refine r_bipush (v := 6) C.1 dX11_ratify_87 (by decide) ?_
        refine r_iadd C.1 dX11_ratify_89 ?_
        refine r_iconst (v := 1) C.1 dX11_ratify_90 rfl ?_
        obtain ⟨q_23, h⟩ := gd_E h
        obtain ⟨M_24, eM_24, h⟩ := lt_E h
        refine r_iast C.1 (mK C (by decide)) (mS C (shm_4)) 0 (mT0 C) q_23 eM_24 dX11_ratify_91 ?_
        refine r_iload_n C.1 0 dX11_ratify_92 rfl rfl ?_
        obtain rfl := Option.some.inj h
        exact r_iret C.1 hr ev eM dX11_ratify_93
      · replace h := ite_T c_14 h
        refine r_aload_n C.1 0 dX11_ratify_55 rfl rfl ?_
        refine r_iconst (v := 3) C.1 dX11_ratify_56 rfl ?_
        obtain ⟨r_25, M_27, hc_26, h⟩ := bd2_E h
        refine cl_X11_248 C ⟨Nat.le_of_ble_eq_true rfl, Nat.le_of_ble_eq_true rfl⟩ (m_X11_refuses _ _ _ M_1 (3 : Int32) hc_26) (Nat.le_of_ble_eq_true rfl) dX11_ratify_57 ?_
        obtain rfl := Option.some.inj h
        exact r_iret C.1 hr ev eM dX11_ratify_60
    · replace h := ite_F c_11 h
      refine r_aload_n C.1 0 dX11_ratify_38 rfl rfl ?_
      refine r_iconst (v := 2) C.1 dX11_ratify_39 rfl ?_
      obtain ⟨r_28, M_30, hc_29, h⟩ := bd2_E h
      refine cl_X11_248 C ⟨Nat.le_of_ble_eq_true rfl, Nat.le_of_ble_eq_true rfl⟩ (m_X11_refuses _ _ _ M_1 (2 : Int32) hc_29) (Nat.le_of_ble_eq_true rfl) dX11_ratify_40 ?_
      obtain rfl := Option.some.inj h
      exact r_iret C.1 hr ev eM dX11_ratify_43
  · replace h := ite_T c_4 h
    refine r_aload_n C.1 0 dX11_ratify_13 rfl rfl ?_
    refine r_iconst (v := 0) C.1 dX11_ratify_14 rfl ?_
    obtain ⟨r_31, M_33, hc_32, h⟩ := bd2_E h
    refine cl_X11_248 C ⟨Nat.le_of_ble_eq_true rfl, Nat.le_of_ble_eq_true rfl⟩ (m_X11_refuses _ _ _ M_1 (0 : Int32) hc_32) (Nat.le_of_ble_eq_true rfl) dX11_ratify_15 ?_
    obtain rfl := Option.some.inj h
    exact r_iret C.1 hr ev eM dX11_ratify_18
def f_X11_ratify (M : xM) (x1 : Int32) : Option (Int32 × xM) := b_X11_ratify_0 M x1
set_option maxRecDepth 20000 in
theorem m_X11_ratify (l : Launch) (D : va_G) (ad : Nat → Nat) (M : xM) (x1 : Int32)  {r : Int32} {M1 : xM} (h : f_X11_ratify M x1 = some (r, M1)) : xMetM l yX11_ratify cX11_ratify 3 (some .int) ({ frames := 6, cells := 0, slots := 0, locals := 133 } : Room) [.ref (ad 0), .int x1] D ad M (some (.int r)) M1 := by
  refine xMetM_of (own := RX11) (by decide) rfl (Nat.le_of_ble_eq_true rfl) ?_
  intro x C e1 e2 e3 ev eM hr
  subst e1; subst e2; subst e3
  refine r_sub (L := [(0, .ref (x_ad x 0)), (1, .int x1)]) (L' := [(0, .ref (x_ad x 0)), (1, .int x1)]) [0, 1] rfl ?_
  exact w_X11_ratify_0 C M x1 _ h hr ev eM

def b_X11_close_0 (M : xM) (x1 : Int32) : Option (Int32 × xM) :=
  lt (uM M 0 0 (0 : Int32)) (fun M_1 => bd (f_X11_isWard M_1 x1) (fun r_2 => if r_2 = 0 then bd2 (f_X11_refuses M_1 (0 : Int32)) (fun r_35 M_37 => some (r_35, M_37)) else bd (f_X11_its M_1 x1 (36 : Int32)) (fun r_5 => if r_5 = (1 : Int32) then bd2 (f_X11_refuses M_1 (2 : Int32)) (fun r_32 M_34 => some (r_32, M_34)) else bd (f_X11_its M_1 x1 (15 : Int32)) (fun r_8 => if r_8 = (10 : Int32) then bd2 (f_X11_refuses M_1 (3 : Int32)) (fun r_29 M_31 => some (r_29, M_31)) else bd2 (f_X11_chargeOf M_1 x1 r_8) (fun r_11 M_13 => bd (f_X11_commissionOf M_13 x1 r_8) (fun r_14 => bd (f_X11_moneyOn M_13 x1 ((((360 : Int32) * r_8) + (360 : Int32)) - (1 : Int32))) (fun r_16 => lt ((r_16 + r_11) - r_14) (fun y_18 => bd (f_X11_keeps M_13) (fun M_21 => gd ((((7 : Int32) + ((37 : Int32) * x1)) + (16 : Int32)) + r_8) 495 (lt (uM M_21 4 ((((7 : Int32) + ((37 : Int32) * x1)) + (16 : Int32)) + r_8).toNatClampNeg r_11) (fun M_23 => gd ((((7 : Int32) + ((37 : Int32) * x1)) + (26 : Int32)) + r_8) 495 (lt (uM M_23 4 ((((7 : Int32) + ((37 : Int32) * x1)) + (26 : Int32)) + r_8).toNatClampNeg r_14) (fun M_25 => gd (((7 : Int32) + ((37 : Int32) * x1)) + (15 : Int32)) 495 (gd (((7 : Int32) + ((37 : Int32) * x1)) + (15 : Int32)) 495 (lt (uM M_25 4 (((7 : Int32) + ((37 : Int32) * x1)) + (15 : Int32)).toNatClampNeg ((M_25 4 (((7 : Int32) + ((37 : Int32) * x1)) + (15 : Int32)).toNatClampNeg) + (1 : Int32))) (fun M_28 => some (y_18, M_28)))))))))))))))))
set_option maxRecDepth 20000 in
set_option maxHeartbeats 2000000 in
theorem w_X11_close_0 {x : xC} (C : CtM x RX11 cX11_close 6 ({ frames := 8, cells := 0, slots := 0, locals := 177 } : Room)) (M : xM) (x1 : Int32)  (o : Int32 × xM) (h : b_X11_close_0 M x1 = some o) (hr : (x_me x).sig.returnType = some .int) (ev : x_rv x = some (.int o.1)) (eM : x_M x = o.2) : J x M 0 [(0, .ref (x_ad x 0)), (1, .int x1)] [] := by
  unfold b_X11_close_0 at h
  refine r_aload_n C.1 0 dX11_close_0 rfl rfl ?_
  refine r_iconst (v := 0) C.1 dX11_close_1 rfl ?_
  obtain ⟨M_1, eM_1, h⟩ := lt_E h
  refine pf_X11_56 C eM_1 dX11_close_2 ?_
  refine r_aload_n C.1 0 dX11_close_5 rfl rfl ?_
  refine r_iload_n C.1 1 dX11_close_6 rfl rfl ?_
  obtain ⟨r_2, hc_3, h⟩ := bd_E h
  refine cl_X11_262 C ⟨Nat.le_of_ble_eq_true rfl, Nat.le_of_ble_eq_true rfl⟩ (m_X11_isWard _ _ _ M_1 x1 hc_3) (Nat.le_of_ble_eq_true rfl) dX11_close_7 ?_
  refine r_if_ne C.1 19 dX11_close_10 (by decide) (fun c_4 => ?_) (fun c_4 => ?_)
  · replace h := ite_F c_4 h
    refine r_aload_n C.1 0 dX11_close_19 rfl rfl ?_
    refine r_iload_n C.1 1 dX11_close_20 rfl rfl ?_
    refine r_bipush (v := 36) C.1 dX11_close_21 (by decide) ?_
    obtain ⟨r_5, hc_6, h⟩ := bd_E h
    refine cl_X11_176 C ⟨Nat.le_of_ble_eq_true rfl, Nat.le_of_ble_eq_true rfl⟩ (m_X11_its _ _ _ M_1 x1 (36 : Int32) hc_6) (Nat.le_of_ble_eq_true rfl) dX11_close_23 ?_
    refine r_iconst (v := 1) C.1 dX11_close_26 rfl ?_
    refine r_icmp_ne C.1 36 dX11_close_27 (by decide) (fun c_7 => ?_) (fun c_7 => ?_)
    · replace h := ite_F c_7 h
      refine r_aload_n C.1 0 dX11_close_36 rfl rfl ?_
      refine r_iload_n C.1 1 dX11_close_37 rfl rfl ?_
      refine r_bipush (v := 15) C.1 dX11_close_38 (by decide) ?_
      obtain ⟨r_8, hc_9, h⟩ := bd_E h
      refine cl_X11_176 C ⟨Nat.le_of_ble_eq_true rfl, Nat.le_of_ble_eq_true rfl⟩ (m_X11_its _ _ _ M_1 x1 (15 : Int32) hc_9) (Nat.le_of_ble_eq_true rfl) dX11_close_40 ?_
      refine r_istore_n C.1 [(2, .int r_8), (0, .ref (x_ad x 0)), (1, .int x1)] dX11_close_43 rfl (by decide) rfl rfl ?_
      refine r_iload_n C.1 0 dX11_close_44 rfl rfl ?_
      refine r_bipush (v := 10) C.1 dX11_close_45 (by decide) ?_
      refine r_icmp_ne C.1 56 dX11_close_47 (by decide) (fun c_10 => ?_) (fun c_10 => ?_)
      · replace h := ite_F c_10 h
        refine r_aload_n C.1 1 dX11_close_56 rfl rfl ?_
        refine r_iload_n C.1 2 dX11_close_57 rfl rfl ?_
        refine r_iload_n C.1 0 dX11_close_58 rfl rfl ?_
        obtain ⟨r_11, M_13, hc_12, h⟩ := bd2_E h
        refine cl_X11_299 C ⟨Nat.le_of_ble_eq_true rfl, Nat.le_of_ble_eq_true rfl⟩ (m_X11_chargeOf _ _ _ M_1 x1 r_8 hc_12) (Nat.le_of_ble_eq_true rfl) dX11_close_59 ?_
        refine r_istore_n C.1 [(3, .int r_11), (2, .int r_8), (0, .ref (x_ad x 0)), (1, .int x1)] dX11_close_62 rfl (by decide) rfl rfl ?_
        refine r_aload_n C.1 2 dX11_close_63 rfl rfl ?_
        refine r_iload_n C.1 3 dX11_close_64 rfl rfl ?_
        refine r_iload_n C.1 1 dX11_close_65 rfl rfl ?_
        obtain ⟨r_14, hc_15, h⟩ := bd_E h
        refine cl_X11_302 C ⟨Nat.le_of_ble_eq_true rfl, Nat.le_of_ble_eq_true rfl⟩ (m_X11_commissionOf _ _ _ M_13 x1 r_8 hc_15) (Nat.le_of_ble_eq_true rfl) dX11_close_66 ?_
        refine r_istore C.1 [(4, .int r_14), (3, .int r_11), (2, .int r_8), (0, .ref (x_ad x 0)), (1, .int x1)] dX11_close_69 (by decide) rfl rfl ?_
        refine r_aload_n C.1 3 dX11_close_71 rfl rfl ?_
        refine r_iload_n C.1 4 dX11_close_72 rfl rfl ?_
        refine r_sipush (v := 360) C.1 dX11_close_73 (by decide) ?_
        refine r_iload_n C.1 2 dX11_close_76 rfl rfl ?_
        refine r_imul C.1 dX11_close_77 ?_
        refine r_sipush (v := 360) C.1 dX11_close_78 (by decide) ?_
        refine r_iadd C.1 dX11_close_81 ?_
        refine r_iconst (v := 1) C.1 dX11_close_82 rfl ?_
        refine r_isub C.1 dX11_close_83 ?_
        obtain ⟨r_16, hc_17, h⟩ := bd_E h
        refine cl_X11_290 C ⟨Nat.le_of_ble_eq_true rfl, Nat.le_of_ble_eq_true rfl⟩ (m_X11_moneyOn _ _ _ M_13 x1 ((((360 : Int32) * r_8) + (360 : Int32)) - (1 : Int32)) hc_17) (Nat.le_of_ble_eq_true rfl) dX11_close_84 ?_
        refine r_iload_n C.1 1 dX11_close_87 rfl rfl ?_
        refine r_iadd C.1 dX11_close_88 ?_
        refine r_iload C.1 0 dX11_close_89 rfl ?_
        refine r_isub C.1 dX11_close_91 ?_
        obtain ⟨y_18, ey_18, h⟩ := lt_E h
        refine r_istore C.1 [(5, .int y_18), (4, .int r_14), (3, .int r_11), (2, .int r_8), (0, .ref (x_ad x 0)), (1, .int x1)] dX11_close_92 (by decide) ey_18 rfl ?_
        refine r_aload_n C.1 4 dX11_close_94 rfl rfl ?_
        obtain ⟨M_21, hc_20, h⟩ := bd_E h
        refine cl_X11_251 C ⟨Nat.le_of_ble_eq_true rfl, Nat.le_of_ble_eq_true rfl⟩ (m_X11_keeps _ _ _ M_13 hc_20) (Nat.le_of_ble_eq_true rfl) dX11_close_95 ?_
        refine r_aload_n C.1 4 dX11_close_98 rfl rfl ?_
        refine gf_X11_19 C dX11_close_99 ?_
        refine r_bipush (v := 7) C.1 dX11_close_102 (by decide) ?_
        refine r_bipush (v := 37) C.1 dX11_close_104 (by decide) ?_
        refine r_iload_n C.1 5 dX11_close_106 rfl rfl ?_
        refine r_imul C.1 dX11_close_107 ?_
        refine r_iadd C.1 dX11_close_108 ?_
        refine r_bipush (v := 16) C.1 dX11_close_109 (by decide) ?_
        refine r_iadd C.1 dX11_close_111 ?_
        refine r_iload_n C.1 3 dX11_close_112 rfl rfl ?_
        refine r_iadd C.1 dX11_close_113 ?_
        refine r_iload_n C.1 2 dX11_close_114 rfl rfl ?_
        obtain ⟨q_22, h⟩ := gd_E h
        obtain ⟨M_23, eM_23, h⟩ := lt_E h
        refine r_iast C.1 (mK C (by decide)) (mS C (shm_4)) 0 (mT0 C) q_22 eM_23 dX11_close_115 ?_
        refine r_aload_n C.1 4 dX11_close_116 rfl rfl ?_
        refine gf_X11_19 C dX11_close_117 ?_
        refine r_bipush (v := 7) C.1 dX11_close_120 (by decide) ?_
        refine r_bipush (v := 37) C.1 dX11_close_122 (by decide) ?_
        refine r_iload_n C.1 5 dX11_close_124 rfl rfl ?_
        refine r_imul C.1 dX11_close_125 ?_
        refine r_iadd C.1 dX11_close_126 ?_
        refine r_bipush (v := 26) C.1 dX11_close_127 (by decide) ?_
        refine r_iadd C.1 dX11_close_129 ?_
        refine r_iload_n C.1 3 dX11_close_130 rfl rfl ?_
        refine r_iadd C.1 dX11_close_131 ?_
        refine r_iload C.1 1 dX11_close_132 rfl ?_
        obtain ⟨q_24, h⟩ := gd_E h
        obtain ⟨M_25, eM_25, h⟩ := lt_E h
        refine r_iast C.1 (mK C (by decide)) (mS C (shm_4)) 0 (mT0 C) q_24 eM_25 dX11_close_134 ?_
        refine r_aload_n C.1 4 dX11_close_135 rfl rfl ?_
        refine gf_X11_19 C dX11_close_136 ?_
        refine r_bipush (v := 7) C.1 dX11_close_139 (by decide) ?_
        refine r_bipush (v := 37) C.1 dX11_close_141 (by decide) ?_
        refine r_iload_n C.1 5 dX11_close_143 rfl rfl ?_
        refine r_imul C.1 dX11_close_144 ?_
        refine r_iadd C.1 dX11_close_145 ?_
        refine r_bipush (v := 15) C.1 dX11_close_146 (by decide) ?_
        refine r_iadd C.1 dX11_close_148 ?_
        refine r_dup2 C.1 rfl rfl dX11_close_149 ?_
        obtain ⟨q_26, h⟩ := gd_E h
        refine r_iald C.1 (mK C (by decide)) (mS C (shm_4)) 0 (mT0 C) q_26 dX11_close_150 ?_
        refine r_iconst (v := 1) C.1 dX11_close_151 rfl ?_
        refine r_iadd C.1 dX11_close_152 ?_
        obtain ⟨q_27, h⟩ := gd_E h
        obtain ⟨M_28, eM_28, h⟩ := lt_E h
        refine r_iast C.1 (mK C (by decide)) (mS C (shm_4)) 0 (mT0 C) q_27 eM_28 dX11_close_153 ?_
        refine r_iload C.1 0 dX11_close_154 rfl ?_
        obtain rfl := Option.some.inj h
        exact r_iret C.1 hr ev eM dX11_close_156
      · replace h := ite_T c_10 h
        refine r_aload_n C.1 1 dX11_close_50 rfl rfl ?_
        refine r_iconst (v := 3) C.1 dX11_close_51 rfl ?_
        obtain ⟨r_29, M_31, hc_30, h⟩ := bd2_E h
        refine cl_X11_248 C ⟨Nat.le_of_ble_eq_true rfl, Nat.le_of_ble_eq_true rfl⟩ (m_X11_refuses _ _ _ M_1 (3 : Int32) hc_30) (Nat.le_of_ble_eq_true rfl) dX11_close_52 ?_
        obtain rfl := Option.some.inj h
        exact r_iret C.1 hr ev eM dX11_close_55
    · replace h := ite_T c_7 h
      refine r_aload_n C.1 0 dX11_close_30 rfl rfl ?_
      refine r_iconst (v := 2) C.1 dX11_close_31 rfl ?_
      obtain ⟨r_32, M_34, hc_33, h⟩ := bd2_E h
      refine cl_X11_248 C ⟨Nat.le_of_ble_eq_true rfl, Nat.le_of_ble_eq_true rfl⟩ (m_X11_refuses _ _ _ M_1 (2 : Int32) hc_33) (Nat.le_of_ble_eq_true rfl) dX11_close_32 ?_
      obtain rfl := Option.some.inj h
      exact r_iret C.1 hr ev eM dX11_close_35
  · replace h := ite_T c_4 h
    refine r_aload_n C.1 0 dX11_close_13 rfl rfl ?_
    refine r_iconst (v := 0) C.1 dX11_close_14 rfl ?_
    obtain ⟨r_35, M_37, hc_36, h⟩ := bd2_E h
    refine cl_X11_248 C ⟨Nat.le_of_ble_eq_true rfl, Nat.le_of_ble_eq_true rfl⟩ (m_X11_refuses _ _ _ M_1 (0 : Int32) hc_36) (Nat.le_of_ble_eq_true rfl) dX11_close_15 ?_
    obtain rfl := Option.some.inj h
    exact r_iret C.1 hr ev eM dX11_close_18
def f_X11_close (M : xM) (x1 : Int32) : Option (Int32 × xM) := b_X11_close_0 M x1
set_option maxRecDepth 20000 in
theorem m_X11_close (l : Launch) (D : va_G) (ad : Nat → Nat) (M : xM) (x1 : Int32)  {r : Int32} {M1 : xM} (h : f_X11_close M x1 = some (r, M1)) : xMetM l yX11_close cX11_close 6 (some .int) ({ frames := 8, cells := 0, slots := 0, locals := 177 } : Room) [.ref (ad 0), .int x1] D ad M (some (.int r)) M1 := by
  refine xMetM_of (own := RX11) (by decide) rfl (Nat.le_of_ble_eq_true rfl) ?_
  intro x C e1 e2 e3 ev eM hr
  subst e1; subst e2; subst e3
  refine r_sub (L := [(0, .ref (x_ad x 0)), (1, .int x1)]) (L' := [(0, .ref (x_ad x 0)), (1, .int x1)]) [0, 1] rfl ?_
  exact w_X11_close_0 C M x1 _ h hr ev eM

def b_X11_dueOf_0 (M : xM) (x1 : Int32) : Option (Int32 × xM) :=
  bd (f_X11_lays M) (fun M_3 => bd (f_X11_moneyOn M_3 x1 (3599 : Int32)) (fun r_4 => bd (f_X11_outOn M_3 x1 (3599 : Int32)) (fun r_6 => some (r_4 + r_6, M_3))))
set_option maxRecDepth 20000 in
set_option maxHeartbeats 2000000 in
theorem w_X11_dueOf_0 {x : xC} (C : CtM x RX11 cX11_dueOf 2 ({ frames := 6, cells := 0, slots := 0, locals := 133 } : Room)) (M : xM) (x1 : Int32)  (o : Int32 × xM) (h : b_X11_dueOf_0 M x1 = some o) (hr : (x_me x).sig.returnType = some .int) (ev : x_rv x = some (.int o.1)) (eM : x_M x = o.2) : J x M 0 [(0, .ref (x_ad x 0)), (1, .int x1)] [] := by
  unfold b_X11_dueOf_0 at h
  refine r_aload_n C.1 0 dX11_dueOf_0 rfl rfl ?_
  obtain ⟨M_3, hc_2, h⟩ := bd_E h
  refine cl_X11_221 C ⟨Nat.le_of_ble_eq_true rfl, Nat.le_of_ble_eq_true rfl⟩ (m_X11_lays _ _ _ M hc_2) (Nat.le_of_ble_eq_true rfl) dX11_dueOf_1 ?_
  refine r_aload_n C.1 0 dX11_dueOf_4 rfl rfl ?_
  refine r_iload_n C.1 1 dX11_dueOf_5 rfl rfl ?_
  refine r_sipush (v := 3599) C.1 dX11_dueOf_6 (by decide) ?_
  obtain ⟨r_4, hc_5, h⟩ := bd_E h
  refine cl_X11_290 C ⟨Nat.le_of_ble_eq_true rfl, Nat.le_of_ble_eq_true rfl⟩ (m_X11_moneyOn _ _ _ M_3 x1 (3599 : Int32) hc_5) (Nat.le_of_ble_eq_true rfl) dX11_dueOf_9 ?_
  refine r_aload_n C.1 0 dX11_dueOf_12 rfl rfl ?_
  refine r_iload_n C.1 1 dX11_dueOf_13 rfl rfl ?_
  refine r_sipush (v := 3599) C.1 dX11_dueOf_14 (by decide) ?_
  obtain ⟨r_6, hc_7, h⟩ := bd_E h
  refine cl_X11_293 C ⟨Nat.le_of_ble_eq_true rfl, Nat.le_of_ble_eq_true rfl⟩ (m_X11_outOn _ _ _ M_3 x1 (3599 : Int32) hc_7) (Nat.le_of_ble_eq_true rfl) dX11_dueOf_17 ?_
  refine r_iadd C.1 dX11_dueOf_20 ?_
  obtain rfl := Option.some.inj h
  exact r_iret C.1 hr ev eM dX11_dueOf_21
def f_X11_dueOf (M : xM) (x1 : Int32) : Option (Int32 × xM) := b_X11_dueOf_0 M x1
set_option maxRecDepth 20000 in
theorem m_X11_dueOf (l : Launch) (D : va_G) (ad : Nat → Nat) (M : xM) (x1 : Int32)  {r : Int32} {M1 : xM} (h : f_X11_dueOf M x1 = some (r, M1)) : xMetM l yX11_dueOf cX11_dueOf 2 (some .int) ({ frames := 6, cells := 0, slots := 0, locals := 133 } : Room) [.ref (ad 0), .int x1] D ad M (some (.int r)) M1 := by
  refine xMetM_of (own := RX11) (by decide) rfl (Nat.le_of_ble_eq_true rfl) ?_
  intro x C e1 e2 e3 ev eM hr
  subst e1; subst e2; subst e3
  refine r_sub (L := [(0, .ref (x_ad x 0)), (1, .int x1)]) (L' := [(0, .ref (x_ad x 0)), (1, .int x1)]) [0, 1] rfl ?_
  exact w_X11_dueOf_0 C M x1 _ h hr ev eM

def b_X11_ageOf_0 (M : xM) (x1 : Int32) : Option (Int32) :=
  bd (f_X11_its M x1 (0 : Int32)) (fun r_1 => gd (0 : Int32) 7 (some (r_1 + ((360 : Int32) * (M 3 (0 : Int32).toNatClampNeg)))))
set_option maxRecDepth 20000 in
set_option maxHeartbeats 2000000 in
theorem w_X11_ageOf_0 {x : xC} (C : CtM x RX11 cX11_ageOf 2 ({ frames := 1, cells := 0, slots := 0, locals := 22 } : Room)) (M : xM) (x1 : Int32)  (o : Int32) (h : b_X11_ageOf_0 M x1 = some o) (hr : (x_me x).sig.returnType = some .int) (ev : x_rv x = some (.int o)) (eM : x_M x = M) : J x M 0 [(0, .ref (x_ad x 0)), (1, .int x1)] [] := by
  unfold b_X11_ageOf_0 at h
  refine r_aload_n C.1 0 dX11_ageOf_0 rfl rfl ?_
  refine r_iload_n C.1 1 dX11_ageOf_1 rfl rfl ?_
  refine r_iconst (v := 0) C.1 dX11_ageOf_2 rfl ?_
  obtain ⟨r_1, hc_2, h⟩ := bd_E h
  refine cl_X11_176 C ⟨Nat.le_of_ble_eq_true rfl, Nat.le_of_ble_eq_true rfl⟩ (m_X11_its _ _ _ M x1 (0 : Int32) hc_2) (Nat.le_of_ble_eq_true rfl) dX11_ageOf_3 ?_
  refine r_sipush (v := 360) C.1 dX11_ageOf_6 (by decide) ?_
  refine r_aload_n C.1 0 dX11_ageOf_9 rfl rfl ?_
  refine gf_X11_16 C dX11_ageOf_10 ?_
  refine r_iconst (v := 0) C.1 dX11_ageOf_13 rfl ?_
  obtain ⟨q_3, h⟩ := gd_E h
  refine r_iald C.1 (mK C (by decide)) (mS C (shm_3)) 0 (mT0 C) q_3 dX11_ageOf_14 ?_
  refine r_imul C.1 dX11_ageOf_15 ?_
  refine r_iadd C.1 dX11_ageOf_16 ?_
  obtain rfl := Option.some.inj h
  exact r_iret C.1 hr ev eM dX11_ageOf_17
def f_X11_ageOf (M : xM) (x1 : Int32) : Option (Int32) := b_X11_ageOf_0 M x1
set_option maxRecDepth 20000 in
theorem m_X11_ageOf (l : Launch) (D : va_G) (ad : Nat → Nat) (M : xM) (x1 : Int32)  {o : Int32} (h : f_X11_ageOf M x1 = some o) : xMetM l yX11_ageOf cX11_ageOf 2 (some .int) ({ frames := 1, cells := 0, slots := 0, locals := 22 } : Room) [.ref (ad 0), .int x1] D ad M (some (.int o)) M := by
  refine xMetM_of (own := RX11) (by decide) rfl (Nat.le_of_ble_eq_true rfl) ?_
  intro x C e1 e2 e3 ev eM hr
  subst e1; subst e2; subst e3
  refine r_sub (L := [(0, .ref (x_ad x 0)), (1, .int x1)]) (L' := [(0, .ref (x_ad x 0)), (1, .int x1)]) [0, 1] rfl ?_
  exact w_X11_ageOf_0 C M x1 _ h hr ev eM

def b_X11_settle_70 (M : xM)  : Option (Int32 × xM) :=
  bd2 (f_X11_refuses M (3 : Int32)) (fun r_1 M_3 => some (r_1, M_3))
set_option maxRecDepth 20000 in
set_option maxHeartbeats 2000000 in
theorem w_X11_settle_70 {x : xC} (C : CtM x RX11 cX11_settle 2 ({ frames := 7, cells := 0, slots := 0, locals := 154 } : Room)) (M : xM)   (o : Int32 × xM) (h : b_X11_settle_70 M = some o) (hr : (x_me x).sig.returnType = some .int) (ev : x_rv x = some (.int o.1)) (eM : x_M x = o.2) : J x M 70 [(0, .ref (x_ad x 0))] [] := by
  unfold b_X11_settle_70 at h
  refine r_aload_n C.1 0 dX11_settle_70 rfl rfl ?_
  refine r_iconst (v := 3) C.1 dX11_settle_71 rfl ?_
  obtain ⟨r_1, M_3, hc_2, h⟩ := bd2_E h
  refine cl_X11_248 C ⟨Nat.le_of_ble_eq_true rfl, Nat.le_of_ble_eq_true rfl⟩ (m_X11_refuses _ _ _ M (3 : Int32) hc_2) (Nat.le_of_ble_eq_true rfl) dX11_settle_72 ?_
  obtain rfl := Option.some.inj h
  exact r_iret C.1 hr ev eM dX11_settle_75

def b_X11_settle_0 (M : xM) (x1 : Int32) : Option (Int32 × xM) :=
  lt (uM M 0 0 (0 : Int32)) (fun M_1 => bd (f_X11_isWard M_1 x1) (fun r_2 => if r_2 = 0 then bd2 (f_X11_refuses M_1 (0 : Int32)) (fun r_27 M_29 => some (r_27, M_29)) else bd (f_X11_its M_1 x1 (36 : Int32)) (fun r_5 => if r_5 = (1 : Int32) then bd2 (f_X11_refuses M_1 (2 : Int32)) (fun r_24 M_26 => some (r_24, M_26)) else bd (f_X11_ageOf M_1 x1) (fun r_8 => if (3599 : Int32) < r_8 then b_X11_settle_70 M_1 else bd (f_X11_ageOf M_1 x1) (fun r_11 => bd (f_X11_its M_1 x1 (15 : Int32)) (fun r_13 => if ((imax (0 : Int32) r_11) / (360 : Int32)) < r_13 then bd (f_X11_keeps M_1) (fun M_18 => gd (((7 : Int32) + ((37 : Int32) * x1)) + (36 : Int32)) 495 (lt (uM M_18 4 (((7 : Int32) + ((37 : Int32) * x1)) + (36 : Int32)).toNatClampNeg (1 : Int32)) (fun M_20 => bd2 (f_X11_dueOf M_20 x1) (fun r_21 M_23 => some (r_21, M_23))))) else b_X11_settle_70 M_1))))))
set_option maxRecDepth 20000 in
set_option maxHeartbeats 2000000 in
theorem w_X11_settle_0 {x : xC} (C : CtM x RX11 cX11_settle 2 ({ frames := 7, cells := 0, slots := 0, locals := 154 } : Room)) (M : xM) (x1 : Int32)  (o : Int32 × xM) (h : b_X11_settle_0 M x1 = some o) (hr : (x_me x).sig.returnType = some .int) (ev : x_rv x = some (.int o.1)) (eM : x_M x = o.2) : J x M 0 [(0, .ref (x_ad x 0)), (1, .int x1)] [] := by
  unfold b_X11_settle_0 at h
  refine r_aload_n C.1 0 dX11_settle_0 rfl rfl ?_
  refine r_iconst (v := 0) C.1 dX11_settle_1 rfl ?_
  obtain ⟨M_1, eM_1, h⟩ := lt_E h
  refine pf_X11_56 C eM_1 dX11_settle_2 ?_
  refine r_aload_n C.1 0 dX11_settle_5 rfl rfl ?_
  refine r_iload_n C.1 1 dX11_settle_6 rfl rfl ?_
  obtain ⟨r_2, hc_3, h⟩ := bd_E h
  refine cl_X11_262 C ⟨Nat.le_of_ble_eq_true rfl, Nat.le_of_ble_eq_true rfl⟩ (m_X11_isWard _ _ _ M_1 x1 hc_3) (Nat.le_of_ble_eq_true rfl) dX11_settle_7 ?_
  refine r_if_ne C.1 19 dX11_settle_10 (by decide) (fun c_4 => ?_) (fun c_4 => ?_)
  · replace h := ite_F c_4 h
    refine r_aload_n C.1 0 dX11_settle_19 rfl rfl ?_
    refine r_iload_n C.1 1 dX11_settle_20 rfl rfl ?_
    refine r_bipush (v := 36) C.1 dX11_settle_21 (by decide) ?_
    obtain ⟨r_5, hc_6, h⟩ := bd_E h
    refine cl_X11_176 C ⟨Nat.le_of_ble_eq_true rfl, Nat.le_of_ble_eq_true rfl⟩ (m_X11_its _ _ _ M_1 x1 (36 : Int32) hc_6) (Nat.le_of_ble_eq_true rfl) dX11_settle_23 ?_
    refine r_iconst (v := 1) C.1 dX11_settle_26 rfl ?_
    refine r_icmp_ne C.1 36 dX11_settle_27 (by decide) (fun c_7 => ?_) (fun c_7 => ?_)
    · replace h := ite_F c_7 h
      refine r_aload_n C.1 0 dX11_settle_36 rfl rfl ?_
      refine r_iload_n C.1 1 dX11_settle_37 rfl rfl ?_
      obtain ⟨r_8, hc_9, h⟩ := bd_E h
      refine cl_X11_305 C ⟨Nat.le_of_ble_eq_true rfl, Nat.le_of_ble_eq_true rfl⟩ (m_X11_ageOf _ _ _ M_1 x1 hc_9) (Nat.le_of_ble_eq_true rfl) dX11_settle_38 ?_
      refine r_sipush (v := 3599) C.1 dX11_settle_41 (by decide) ?_
      refine r_icmp_gt C.1 70 dX11_settle_44 (by decide) (fun c_10 => ?_) (fun c_10 => ?_)
      · replace h := ite_T c_10 h
        exact r_sub [0] rfl (w_X11_settle_70 C M_1 _ h hr ev eM)
      · replace h := ite_F c_10 h
        refine r_iconst (v := 0) C.1 dX11_settle_47 rfl ?_
        refine r_aload_n C.1 0 dX11_settle_48 rfl rfl ?_
        refine r_iload_n C.1 1 dX11_settle_49 rfl rfl ?_
        obtain ⟨r_11, hc_12, h⟩ := bd_E h
        refine cl_X11_305 C ⟨Nat.le_of_ble_eq_true rfl, Nat.le_of_ble_eq_true rfl⟩ (m_X11_ageOf _ _ _ M_1 x1 hc_12) (Nat.le_of_ble_eq_true rfl) dX11_settle_50 ?_
        refine cm_X11_185 C.1 (by decide) (by decide) (Nat.le_of_ble_eq_true rfl) dX11_settle_53 ?_
        refine r_sipush (v := 360) C.1 dX11_settle_56 (by decide) ?_
        refine r_idiv C.1 (by decide) dX11_settle_59 ?_
        refine r_aload_n C.1 0 dX11_settle_60 rfl rfl ?_
        refine r_iload_n C.1 1 dX11_settle_61 rfl rfl ?_
        refine r_bipush (v := 15) C.1 dX11_settle_62 (by decide) ?_
        obtain ⟨r_13, hc_14, h⟩ := bd_E h
        refine cl_X11_176 C ⟨Nat.le_of_ble_eq_true rfl, Nat.le_of_ble_eq_true rfl⟩ (m_X11_its _ _ _ M_1 x1 (15 : Int32) hc_14) (Nat.le_of_ble_eq_true rfl) dX11_settle_64 ?_
        refine r_icmp_lt C.1 76 dX11_settle_67 (by decide) (fun c_15 => ?_) (fun c_15 => ?_)
        · replace h := ite_T c_15 h
          refine r_aload_n C.1 0 dX11_settle_76 rfl rfl ?_
          obtain ⟨M_18, hc_17, h⟩ := bd_E h
          refine cl_X11_251 C ⟨Nat.le_of_ble_eq_true rfl, Nat.le_of_ble_eq_true rfl⟩ (m_X11_keeps _ _ _ M_1 hc_17) (Nat.le_of_ble_eq_true rfl) dX11_settle_77 ?_
          refine r_aload_n C.1 0 dX11_settle_80 rfl rfl ?_
          refine gf_X11_19 C dX11_settle_81 ?_
          refine r_bipush (v := 7) C.1 dX11_settle_84 (by decide) ?_
          refine r_bipush (v := 37) C.1 dX11_settle_86 (by decide) ?_
          refine r_iload_n C.1 1 dX11_settle_88 rfl rfl ?_
          refine r_imul C.1 dX11_settle_89 ?_
          refine r_iadd C.1 dX11_settle_90 ?_
          refine r_bipush (v := 36) C.1 dX11_settle_91 (by decide) ?_
          refine r_iadd C.1 dX11_settle_93 ?_
          refine r_iconst (v := 1) C.1 dX11_settle_94 rfl ?_
          obtain ⟨q_19, h⟩ := gd_E h
          obtain ⟨M_20, eM_20, h⟩ := lt_E h
          refine r_iast C.1 (mK C (by decide)) (mS C (shm_4)) 0 (mT0 C) q_19 eM_20 dX11_settle_95 ?_
          refine r_aload_n C.1 0 dX11_settle_96 rfl rfl ?_
          refine r_iload_n C.1 1 dX11_settle_97 rfl rfl ?_
          obtain ⟨r_21, M_23, hc_22, h⟩ := bd2_E h
          refine cl_X11_308 C ⟨Nat.le_of_ble_eq_true rfl, Nat.le_of_ble_eq_true rfl⟩ (m_X11_dueOf _ _ _ M_20 x1 hc_22) (Nat.le_of_ble_eq_true rfl) dX11_settle_98 ?_
          obtain rfl := Option.some.inj h
          exact r_iret C.1 hr ev eM dX11_settle_101
        · replace h := ite_F c_15 h
          exact r_sub [0] rfl (w_X11_settle_70 C M_1 _ h hr ev eM)
    · replace h := ite_T c_7 h
      refine r_aload_n C.1 0 dX11_settle_30 rfl rfl ?_
      refine r_iconst (v := 2) C.1 dX11_settle_31 rfl ?_
      obtain ⟨r_24, M_26, hc_25, h⟩ := bd2_E h
      refine cl_X11_248 C ⟨Nat.le_of_ble_eq_true rfl, Nat.le_of_ble_eq_true rfl⟩ (m_X11_refuses _ _ _ M_1 (2 : Int32) hc_25) (Nat.le_of_ble_eq_true rfl) dX11_settle_32 ?_
      obtain rfl := Option.some.inj h
      exact r_iret C.1 hr ev eM dX11_settle_35
  · replace h := ite_T c_4 h
    refine r_aload_n C.1 0 dX11_settle_13 rfl rfl ?_
    refine r_iconst (v := 0) C.1 dX11_settle_14 rfl ?_
    obtain ⟨r_27, M_29, hc_28, h⟩ := bd2_E h
    refine cl_X11_248 C ⟨Nat.le_of_ble_eq_true rfl, Nat.le_of_ble_eq_true rfl⟩ (m_X11_refuses _ _ _ M_1 (0 : Int32) hc_28) (Nat.le_of_ble_eq_true rfl) dX11_settle_15 ?_
    obtain rfl := Option.some.inj h
    exact r_iret C.1 hr ev eM dX11_settle_18
def f_X11_settle (M : xM) (x1 : Int32) : Option (Int32 × xM) := b_X11_settle_0 M x1
set_option maxRecDepth 20000 in
theorem m_X11_settle (l : Launch) (D : va_G) (ad : Nat → Nat) (M : xM) (x1 : Int32)  {r : Int32} {M1 : xM} (h : f_X11_settle M x1 = some (r, M1)) : xMetM l yX11_settle cX11_settle 2 (some .int) ({ frames := 7, cells := 0, slots := 0, locals := 154 } : Room) [.ref (ad 0), .int x1] D ad M (some (.int r)) M1 := by
  refine xMetM_of (own := RX11) (by decide) rfl (Nat.le_of_ble_eq_true rfl) ?_
  intro x C e1 e2 e3 ev eM hr
  subst e1; subst e2; subst e3
  refine r_sub (L := [(0, .ref (x_ad x 0)), (1, .int x1)]) (L' := [(0, .ref (x_ad x 0)), (1, .int x1)]) [0, 1] rfl ?_
  exact w_X11_settle_0 C M x1 _ h hr ev eM

def b_X11_money_20 (M : xM)  : Option (Int32 × xM) :=
  some ((-1000000000 : Int32), M)
set_option maxRecDepth 20000 in
set_option maxHeartbeats 2000000 in
theorem w_X11_money_20 {x : xC} (C : CtM x RX11 cX11_money 3 ({ frames := 6, cells := 0, slots := 0, locals := 133 } : Room)) (M : xM)   (o : Int32 × xM) (h : b_X11_money_20 M = some o) (hr : (x_me x).sig.returnType = some .int) (ev : x_rv x = some (.int o.1)) (eM : x_M x = o.2) : J x M 20 [] [] := by
  unfold b_X11_money_20 at h
  refine r_ldcw (v := -1000000000) C.1 kw_1631 dX11_money_20 ?_
  obtain rfl := Option.some.inj h
  exact r_iret C.1 hr ev eM dX11_money_23

def b_X11_money_0 (M : xM) (x1 : Int32) (x2 : Int32) : Option (Int32 × xM) :=
  lt (uM M 0 0 (0 : Int32)) (fun M_1 => bd (f_X11_isWard M_1 x1) (fun r_2 => if r_2 = 0 then b_X11_money_20 M_1 else bd (f_X11_isDay M_1 x2) (fun r_5 => if r_5 = 0 then b_X11_money_20 M_1 else bd (f_X11_lays M_1) (fun M_10 => bd (f_X11_moneyOn M_10 x1 x2) (fun r_11 => some (r_11, M_10))))))
set_option maxRecDepth 20000 in
set_option maxHeartbeats 2000000 in
theorem w_X11_money_0 {x : xC} (C : CtM x RX11 cX11_money 3 ({ frames := 6, cells := 0, slots := 0, locals := 133 } : Room)) (M : xM) (x1 : Int32) (x2 : Int32)  (o : Int32 × xM) (h : b_X11_money_0 M x1 x2 = some o) (hr : (x_me x).sig.returnType = some .int) (ev : x_rv x = some (.int o.1)) (eM : x_M x = o.2) : J x M 0 [(0, .ref (x_ad x 0)), (1, .int x1), (2, .int x2)] [] := by
  unfold b_X11_money_0 at h
  refine r_aload_n C.1 0 dX11_money_0 rfl rfl ?_
  refine r_iconst (v := 0) C.1 dX11_money_1 rfl ?_
  obtain ⟨M_1, eM_1, h⟩ := lt_E h
  refine pf_X11_56 C eM_1 dX11_money_2 ?_
  refine r_aload_n C.1 0 dX11_money_5 rfl rfl ?_
  refine r_iload_n C.1 1 dX11_money_6 rfl rfl ?_
  obtain ⟨r_2, hc_3, h⟩ := bd_E h
  refine cl_X11_262 C ⟨Nat.le_of_ble_eq_true rfl, Nat.le_of_ble_eq_true rfl⟩ (m_X11_isWard _ _ _ M_1 x1 hc_3) (Nat.le_of_ble_eq_true rfl) dX11_money_7 ?_
  refine r_if_eq C.1 20 dX11_money_10 (by decide) (fun c_4 => ?_) (fun c_4 => ?_)
  · replace h := ite_T c_4 h
    exact r_sub [] rfl (w_X11_money_20 C M_1 _ h hr ev eM)
  · replace h := ite_F c_4 h
    refine r_iload_n C.1 2 dX11_money_13 rfl rfl ?_
    obtain ⟨r_5, hc_6, h⟩ := bd_E h
    refine cl_X11_265 C ⟨Nat.le_of_ble_eq_true rfl, Nat.le_of_ble_eq_true rfl⟩ (m_X11_isDay _ _ _ M_1 x2 hc_6) (Nat.le_of_ble_eq_true rfl) dX11_money_14 ?_
    refine r_if_ne C.1 24 dX11_money_17 (by decide) (fun c_7 => ?_) (fun c_7 => ?_)
    · replace h := ite_F c_7 h
      refine r_aload_n C.1 0 dX11_money_24 rfl rfl ?_
      obtain ⟨M_10, hc_9, h⟩ := bd_E h
      refine cl_X11_221 C ⟨Nat.le_of_ble_eq_true rfl, Nat.le_of_ble_eq_true rfl⟩ (m_X11_lays _ _ _ M_1 hc_9) (Nat.le_of_ble_eq_true rfl) dX11_money_25 ?_
      refine r_aload_n C.1 0 dX11_money_28 rfl rfl ?_
      refine r_iload_n C.1 1 dX11_money_29 rfl rfl ?_
      refine r_iload_n C.1 2 dX11_money_30 rfl rfl ?_
      obtain ⟨r_11, hc_12, h⟩ := bd_E h
      refine cl_X11_290 C ⟨Nat.le_of_ble_eq_true rfl, Nat.le_of_ble_eq_true rfl⟩ (m_X11_moneyOn _ _ _ M_10 x1 x2 hc_12) (Nat.le_of_ble_eq_true rfl) dX11_money_31 ?_
      obtain rfl := Option.some.inj h
      exact r_iret C.1 hr ev eM dX11_money_34
    · replace h := ite_T c_7 h
      exact r_sub [] rfl (w_X11_money_20 C M_1 _ h hr ev eM)
def f_X11_money (M : xM) (x1 : Int32) (x2 : Int32) : Option (Int32 × xM) := b_X11_money_0 M x1 x2
set_option maxRecDepth 20000 in
theorem m_X11_money (l : Launch) (D : va_G) (ad : Nat → Nat) (M : xM) (x1 : Int32) (x2 : Int32)  {r : Int32} {M1 : xM} (h : f_X11_money M x1 x2 = some (r, M1)) : xMetM l yX11_money cX11_money 3 (some .int) ({ frames := 6, cells := 0, slots := 0, locals := 133 } : Room) [.ref (ad 0), .int x1, .int x2] D ad M (some (.int r)) M1 := by
  refine xMetM_of (own := RX11) (by decide) rfl (Nat.le_of_ble_eq_true rfl) ?_
  intro x C e1 e2 e3 ev eM hr
  subst e1; subst e2; subst e3
  refine r_sub (L := [(0, .ref (x_ad x 0)), (1, .int x1), (2, .int x2)]) (L' := [(0, .ref (x_ad x 0)), (1, .int x1), (2, .int x2)]) [0, 1, 2] rfl ?_
  exact w_X11_money_0 C M x1 x2 _ h hr ev eM

def b_X11_out_32 (M : xM) (s0 : Int32) : Option (Int32 × xM) :=
  some (s0, M)
set_option maxRecDepth 20000 in
set_option maxHeartbeats 2000000 in
theorem w_X11_out_32 {x : xC} (C : CtM x RX11 cX11_out 3 ({ frames := 2, cells := 0, slots := 0, locals := 47 } : Room)) (M : xM) (s0 : Int32)  (o : Int32 × xM) (h : b_X11_out_32 M s0 = some o) (hr : (x_me x).sig.returnType = some .int) (ev : x_rv x = some (.int o.1)) (eM : x_M x = o.2) : J x M 32 [] [.int s0] := by
  unfold b_X11_out_32 at h
  obtain rfl := Option.some.inj h
  exact r_iret C.1 hr ev eM dX11_out_32

def b_X11_out_29 (M : xM)  : Option (Int32 × xM) :=
  b_X11_out_32 M (-1000000000 : Int32)
set_option maxRecDepth 20000 in
set_option maxHeartbeats 2000000 in
theorem w_X11_out_29 {x : xC} (C : CtM x RX11 cX11_out 3 ({ frames := 2, cells := 0, slots := 0, locals := 47 } : Room)) (M : xM)   (o : Int32 × xM) (h : b_X11_out_29 M = some o) (hr : (x_me x).sig.returnType = some .int) (ev : x_rv x = some (.int o.1)) (eM : x_M x = o.2) : J x M 29 [] [] := by
  unfold b_X11_out_29 at h
  refine r_ldcw (v := -1000000000) C.1 kw_1631 dX11_out_29 ?_
  exact r_sub [] rfl (w_X11_out_32 C M (-1000000000 : Int32) _ h hr ev eM)

def b_X11_out_0 (M : xM) (x1 : Int32) (x2 : Int32) : Option (Int32 × xM) :=
  lt (uM M 0 0 (0 : Int32)) (fun M_1 => bd (f_X11_isWard M_1 x1) (fun r_2 => if r_2 = 0 then b_X11_out_29 M_1 else bd (f_X11_isDay M_1 x2) (fun r_5 => if r_5 = 0 then b_X11_out_29 M_1 else bd (f_X11_outOn M_1 x1 x2) (fun r_8 => b_X11_out_32 M_1 r_8))))
set_option maxRecDepth 20000 in
set_option maxHeartbeats 2000000 in
theorem w_X11_out_0 {x : xC} (C : CtM x RX11 cX11_out 3 ({ frames := 2, cells := 0, slots := 0, locals := 47 } : Room)) (M : xM) (x1 : Int32) (x2 : Int32)  (o : Int32 × xM) (h : b_X11_out_0 M x1 x2 = some o) (hr : (x_me x).sig.returnType = some .int) (ev : x_rv x = some (.int o.1)) (eM : x_M x = o.2) : J x M 0 [(0, .ref (x_ad x 0)), (1, .int x1), (2, .int x2)] [] := by
  unfold b_X11_out_0 at h
  refine r_aload_n C.1 0 dX11_out_0 rfl rfl ?_
  refine r_iconst (v := 0) C.1 dX11_out_1 rfl ?_
  obtain ⟨M_1, eM_1, h⟩ := lt_E h
  refine pf_X11_56 C eM_1 dX11_out_2 ?_
  refine r_aload_n C.1 0 dX11_out_5 rfl rfl ?_
  refine r_iload_n C.1 1 dX11_out_6 rfl rfl ?_
  obtain ⟨r_2, hc_3, h⟩ := bd_E h
  refine cl_X11_262 C ⟨Nat.le_of_ble_eq_true rfl, Nat.le_of_ble_eq_true rfl⟩ (m_X11_isWard _ _ _ M_1 x1 hc_3) (Nat.le_of_ble_eq_true rfl) dX11_out_7 ?_
  refine r_if_eq C.1 29 dX11_out_10 (by decide) (fun c_4 => ?_) (fun c_4 => ?_)
  · replace h := ite_T c_4 h
    exact r_sub [] rfl (w_X11_out_29 C M_1 _ h hr ev eM)
  · replace h := ite_F c_4 h
    refine r_iload_n C.1 2 dX11_out_13 rfl rfl ?_
    obtain ⟨r_5, hc_6, h⟩ := bd_E h
    refine cl_X11_265 C ⟨Nat.le_of_ble_eq_true rfl, Nat.le_of_ble_eq_true rfl⟩ (m_X11_isDay _ _ _ M_1 x2 hc_6) (Nat.le_of_ble_eq_true rfl) dX11_out_14 ?_
    refine r_if_eq C.1 29 dX11_out_17 (by decide) (fun c_7 => ?_) (fun c_7 => ?_)
    · replace h := ite_T c_7 h
      exact r_sub [] rfl (w_X11_out_29 C M_1 _ h hr ev eM)
    · replace h := ite_F c_7 h
      refine r_aload_n C.1 0 dX11_out_20 rfl rfl ?_
      refine r_iload_n C.1 1 dX11_out_21 rfl rfl ?_
      refine r_iload_n C.1 2 dX11_out_22 rfl rfl ?_
      obtain ⟨r_8, hc_9, h⟩ := bd_E h
      refine cl_X11_293 C ⟨Nat.le_of_ble_eq_true rfl, Nat.le_of_ble_eq_true rfl⟩ (m_X11_outOn _ _ _ M_1 x1 x2 hc_9) (Nat.le_of_ble_eq_true rfl) dX11_out_23 ?_
      refine r_goto C.1 32 dX11_out_26 (by decide) ?_
      exact r_sub [] rfl (w_X11_out_32 C M_1 r_8 _ h hr ev eM)
def f_X11_out (M : xM) (x1 : Int32) (x2 : Int32) : Option (Int32 × xM) := b_X11_out_0 M x1 x2
set_option maxRecDepth 20000 in
theorem m_X11_out (l : Launch) (D : va_G) (ad : Nat → Nat) (M : xM) (x1 : Int32) (x2 : Int32)  {r : Int32} {M1 : xM} (h : f_X11_out M x1 x2 = some (r, M1)) : xMetM l yX11_out cX11_out 3 (some .int) ({ frames := 2, cells := 0, slots := 0, locals := 47 } : Room) [.ref (ad 0), .int x1, .int x2] D ad M (some (.int r)) M1 := by
  refine xMetM_of (own := RX11) (by decide) rfl (Nat.le_of_ble_eq_true rfl) ?_
  intro x C e1 e2 e3 ev eM hr
  subst e1; subst e2; subst e3
  refine r_sub (L := [(0, .ref (x_ad x 0)), (1, .int x1), (2, .int x2)]) (L' := [(0, .ref (x_ad x 0)), (1, .int x1), (2, .int x2)]) [0, 1, 2] rfl ?_
  exact w_X11_out_0 C M x1 x2 _ h hr ev eM

def b_X11_idleOn_0 (M : xM) (x1 : Int32) (x2 : Int32) : Option (Int32 × xM) :=
  bd (f_X11_laysMoney M x1) (fun M_3 => bd (f_X11_laysIdle M_3 x2 x2) (fun M_6 => gd x2 3600 (some (M_6 10 x2.toNatClampNeg, M_6))))
set_option maxRecDepth 20000 in
set_option maxHeartbeats 2000000 in
theorem w_X11_idleOn_0 {x : xC} (C : CtM x RX11 cX11_idleOn 3 ({ frames := 7, cells := 0, slots := 0, locals := 155 } : Room)) (M : xM) (x1 : Int32) (x2 : Int32)  (o : Int32 × xM) (h : b_X11_idleOn_0 M x1 x2 = some o) (hr : (x_me x).sig.returnType = some .int) (ev : x_rv x = some (.int o.1)) (eM : x_M x = o.2) : J x M 0 [(0, .ref (x_ad x 0)), (1, .int x1), (2, .int x2)] [] := by
  unfold b_X11_idleOn_0 at h
  refine r_aload_n C.1 0 dX11_idleOn_0 rfl rfl ?_
  refine r_iload_n C.1 1 dX11_idleOn_1 rfl rfl ?_
  obtain ⟨M_3, hc_2, h⟩ := bd_E h
  refine cl_X11_230 C ⟨Nat.le_of_ble_eq_true rfl, Nat.le_of_ble_eq_true rfl⟩ (m_X11_laysMoney _ _ _ M x1 hc_2) (Nat.le_of_ble_eq_true rfl) dX11_idleOn_2 ?_
  refine r_aload_n C.1 0 dX11_idleOn_5 rfl rfl ?_
  refine r_iload_n C.1 2 dX11_idleOn_6 rfl rfl ?_
  refine r_iload_n C.1 2 dX11_idleOn_7 rfl rfl ?_
  obtain ⟨M_6, hc_5, h⟩ := bd_E h
  refine cl_X11_224 C ⟨Nat.le_of_ble_eq_true rfl, Nat.le_of_ble_eq_true rfl⟩ (m_X11_laysIdle _ _ _ M_3 x2 x2 hc_5) (Nat.le_of_ble_eq_true rfl) dX11_idleOn_8 ?_
  refine r_aload_n C.1 0 dX11_idleOn_11 rfl rfl ?_
  refine gf_X11_37 C dX11_idleOn_12 ?_
  refine r_iload_n C.1 2 dX11_idleOn_15 rfl rfl ?_
  obtain ⟨q_7, h⟩ := gd_E h
  refine r_iald C.1 (mK C (by decide)) (mS C (shm_10)) 0 (mT0 C) q_7 dX11_idleOn_16 ?_
  obtain rfl := Option.some.inj h
  exact r_iret C.1 hr ev eM dX11_idleOn_17
def f_X11_idleOn (M : xM) (x1 : Int32) (x2 : Int32) : Option (Int32 × xM) := b_X11_idleOn_0 M x1 x2
set_option maxRecDepth 20000 in
theorem m_X11_idleOn (l : Launch) (D : va_G) (ad : Nat → Nat) (M : xM) (x1 : Int32) (x2 : Int32)  {r : Int32} {M1 : xM} (h : f_X11_idleOn M x1 x2 = some (r, M1)) : xMetM l yX11_idleOn cX11_idleOn 3 (some .int) ({ frames := 7, cells := 0, slots := 0, locals := 155 } : Room) [.ref (ad 0), .int x1, .int x2] D ad M (some (.int r)) M1 := by
  refine xMetM_of (own := RX11) (by decide) rfl (Nat.le_of_ble_eq_true rfl) ?_
  intro x C e1 e2 e3 ev eM hr
  subst e1; subst e2; subst e3
  refine r_sub (L := [(0, .ref (x_ad x 0)), (1, .int x1), (2, .int x2)]) (L' := [(0, .ref (x_ad x 0)), (1, .int x1), (2, .int x2)]) [0, 1, 2] rfl ?_
  exact w_X11_idleOn_0 C M x1 x2 _ h hr ev eM

def b_X11_idle_32 (M : xM) (s0 : Int32) : Option (Int32 × xM) :=
  some (s0, M)
set_option maxRecDepth 20000 in
set_option maxHeartbeats 2000000 in
theorem w_X11_idle_32 {x : xC} (C : CtM x RX11 cX11_idle 3 ({ frames := 8, cells := 0, slots := 0, locals := 177 } : Room)) (M : xM) (s0 : Int32)  (o : Int32 × xM) (h : b_X11_idle_32 M s0 = some o) (hr : (x_me x).sig.returnType = some .int) (ev : x_rv x = some (.int o.1)) (eM : x_M x = o.2) : J x M 32 [] [.int s0] := by
  unfold b_X11_idle_32 at h
  obtain rfl := Option.some.inj h
  exact r_iret C.1 hr ev eM dX11_idle_32

def b_X11_idle_29 (M : xM)  : Option (Int32 × xM) :=
  b_X11_idle_32 M (-1000000000 : Int32)
set_option maxRecDepth 20000 in
set_option maxHeartbeats 2000000 in
theorem w_X11_idle_29 {x : xC} (C : CtM x RX11 cX11_idle 3 ({ frames := 8, cells := 0, slots := 0, locals := 177 } : Room)) (M : xM)   (o : Int32 × xM) (h : b_X11_idle_29 M = some o) (hr : (x_me x).sig.returnType = some .int) (ev : x_rv x = some (.int o.1)) (eM : x_M x = o.2) : J x M 29 [] [] := by
  unfold b_X11_idle_29 at h
  refine r_ldcw (v := -1000000000) C.1 kw_1631 dX11_idle_29 ?_
  exact r_sub [] rfl (w_X11_idle_32 C M (-1000000000 : Int32) _ h hr ev eM)

def b_X11_idle_0 (M : xM) (x1 : Int32) (x2 : Int32) : Option (Int32 × xM) :=
  lt (uM M 0 0 (0 : Int32)) (fun M_1 => bd (f_X11_isWard M_1 x1) (fun r_2 => if r_2 = 0 then b_X11_idle_29 M_1 else bd (f_X11_isDay M_1 x2) (fun r_5 => if r_5 = 0 then b_X11_idle_29 M_1 else bd2 (f_X11_idleOn M_1 x1 x2) (fun r_8 M_10 => b_X11_idle_32 M_10 r_8))))
set_option maxRecDepth 20000 in
set_option maxHeartbeats 2000000 in
theorem w_X11_idle_0 {x : xC} (C : CtM x RX11 cX11_idle 3 ({ frames := 8, cells := 0, slots := 0, locals := 177 } : Room)) (M : xM) (x1 : Int32) (x2 : Int32)  (o : Int32 × xM) (h : b_X11_idle_0 M x1 x2 = some o) (hr : (x_me x).sig.returnType = some .int) (ev : x_rv x = some (.int o.1)) (eM : x_M x = o.2) : J x M 0 [(0, .ref (x_ad x 0)), (1, .int x1), (2, .int x2)] [] := by
  unfold b_X11_idle_0 at h
  refine r_aload_n C.1 0 dX11_idle_0 rfl rfl ?_
  refine r_iconst (v := 0) C.1 dX11_idle_1 rfl ?_
  obtain ⟨M_1, eM_1, h⟩ := lt_E h
  refine pf_X11_56 C eM_1 dX11_idle_2 ?_
  refine r_aload_n C.1 0 dX11_idle_5 rfl rfl ?_
  refine r_iload_n C.1 1 dX11_idle_6 rfl rfl ?_
  obtain ⟨r_2, hc_3, h⟩ := bd_E h
  refine cl_X11_262 C ⟨Nat.le_of_ble_eq_true rfl, Nat.le_of_ble_eq_true rfl⟩ (m_X11_isWard _ _ _ M_1 x1 hc_3) (Nat.le_of_ble_eq_true rfl) dX11_idle_7 ?_
  refine r_if_eq C.1 29 dX11_idle_10 (by decide) (fun c_4 => ?_) (fun c_4 => ?_)
  · replace h := ite_T c_4 h
    exact r_sub [] rfl (w_X11_idle_29 C M_1 _ h hr ev eM)
  · replace h := ite_F c_4 h
    refine r_iload_n C.1 2 dX11_idle_13 rfl rfl ?_
    obtain ⟨r_5, hc_6, h⟩ := bd_E h
    refine cl_X11_265 C ⟨Nat.le_of_ble_eq_true rfl, Nat.le_of_ble_eq_true rfl⟩ (m_X11_isDay _ _ _ M_1 x2 hc_6) (Nat.le_of_ble_eq_true rfl) dX11_idle_14 ?_
    refine r_if_eq C.1 29 dX11_idle_17 (by decide) (fun c_7 => ?_) (fun c_7 => ?_)
    · replace h := ite_T c_7 h
      exact r_sub [] rfl (w_X11_idle_29 C M_1 _ h hr ev eM)
    · replace h := ite_F c_7 h
      refine r_aload_n C.1 0 dX11_idle_20 rfl rfl ?_
      refine r_iload_n C.1 1 dX11_idle_21 rfl rfl ?_
      refine r_iload_n C.1 2 dX11_idle_22 rfl rfl ?_
      obtain ⟨r_8, M_10, hc_9, h⟩ := bd2_E h
      refine cl_X11_312 C ⟨Nat.le_of_ble_eq_true rfl, Nat.le_of_ble_eq_true rfl⟩ (m_X11_idleOn _ _ _ M_1 x1 x2 hc_9) (Nat.le_of_ble_eq_true rfl) dX11_idle_23 ?_
      refine r_goto C.1 32 dX11_idle_26 (by decide) ?_
      exact r_sub [] rfl (w_X11_idle_32 C M_10 r_8 _ h hr ev eM)
def f_X11_idle (M : xM) (x1 : Int32) (x2 : Int32) : Option (Int32 × xM) := b_X11_idle_0 M x1 x2
set_option maxRecDepth 20000 in
theorem m_X11_idle (l : Launch) (D : va_G) (ad : Nat → Nat) (M : xM) (x1 : Int32) (x2 : Int32)  {r : Int32} {M1 : xM} (h : f_X11_idle M x1 x2 = some (r, M1)) : xMetM l yX11_idle cX11_idle 3 (some .int) ({ frames := 8, cells := 0, slots := 0, locals := 177 } : Room) [.ref (ad 0), .int x1, .int x2] D ad M (some (.int r)) M1 := by
  refine xMetM_of (own := RX11) (by decide) rfl (Nat.le_of_ble_eq_true rfl) ?_
  intro x C e1 e2 e3 ev eM hr
  subst e1; subst e2; subst e3
  refine r_sub (L := [(0, .ref (x_ad x 0)), (1, .int x1), (2, .int x2)]) (L' := [(0, .ref (x_ad x 0)), (1, .int x1), (2, .int x2)]) [0, 1, 2] rfl ?_
  exact w_X11_idle_0 C M x1 x2 _ h hr ev eM

def b_X11_charge_32 (M : xM) (s0 : Int32) : Option (Int32 × xM) :=
  some (s0, M)
set_option maxRecDepth 20000 in
set_option maxHeartbeats 2000000 in
theorem w_X11_charge_32 {x : xC} (C : CtM x RX11 cX11_charge 3 ({ frames := 8, cells := 0, slots := 0, locals := 177 } : Room)) (M : xM) (s0 : Int32)  (o : Int32 × xM) (h : b_X11_charge_32 M s0 = some o) (hr : (x_me x).sig.returnType = some .int) (ev : x_rv x = some (.int o.1)) (eM : x_M x = o.2) : J x M 32 [] [.int s0] := by
  unfold b_X11_charge_32 at h
  obtain rfl := Option.some.inj h
  exact r_iret C.1 hr ev eM dX11_charge_32

def b_X11_charge_29 (M : xM)  : Option (Int32 × xM) :=
  b_X11_charge_32 M (-1000000000 : Int32)
set_option maxRecDepth 20000 in
set_option maxHeartbeats 2000000 in
theorem w_X11_charge_29 {x : xC} (C : CtM x RX11 cX11_charge 3 ({ frames := 8, cells := 0, slots := 0, locals := 177 } : Room)) (M : xM)   (o : Int32 × xM) (h : b_X11_charge_29 M = some o) (hr : (x_me x).sig.returnType = some .int) (ev : x_rv x = some (.int o.1)) (eM : x_M x = o.2) : J x M 29 [] [] := by
  unfold b_X11_charge_29 at h
  refine r_ldcw (v := -1000000000) C.1 kw_1631 dX11_charge_29 ?_
  exact r_sub [] rfl (w_X11_charge_32 C M (-1000000000 : Int32) _ h hr ev eM)

def b_X11_charge_0 (M : xM) (x1 : Int32) (x2 : Int32) : Option (Int32 × xM) :=
  lt (uM M 0 0 (0 : Int32)) (fun M_1 => bd (f_X11_isWard M_1 x1) (fun r_2 => if r_2 = 0 then b_X11_charge_29 M_1 else bd (f_X11_isYear M_1 x2) (fun r_5 => if r_5 = 0 then b_X11_charge_29 M_1 else bd2 (f_X11_chargeOf M_1 x1 x2) (fun r_8 M_10 => b_X11_charge_32 M_10 r_8))))
set_option maxRecDepth 20000 in
set_option maxHeartbeats 2000000 in
theorem w_X11_charge_0 {x : xC} (C : CtM x RX11 cX11_charge 3 ({ frames := 8, cells := 0, slots := 0, locals := 177 } : Room)) (M : xM) (x1 : Int32) (x2 : Int32)  (o : Int32 × xM) (h : b_X11_charge_0 M x1 x2 = some o) (hr : (x_me x).sig.returnType = some .int) (ev : x_rv x = some (.int o.1)) (eM : x_M x = o.2) : J x M 0 [(0, .ref (x_ad x 0)), (1, .int x1), (2, .int x2)] [] := by
  unfold b_X11_charge_0 at h
  refine r_aload_n C.1 0 dX11_charge_0 rfl rfl ?_
  refine r_iconst (v := 0) C.1 dX11_charge_1 rfl ?_
  obtain ⟨M_1, eM_1, h⟩ := lt_E h
  refine pf_X11_56 C eM_1 dX11_charge_2 ?_
  refine r_aload_n C.1 0 dX11_charge_5 rfl rfl ?_
  refine r_iload_n C.1 1 dX11_charge_6 rfl rfl ?_
  obtain ⟨r_2, hc_3, h⟩ := bd_E h
  refine cl_X11_262 C ⟨Nat.le_of_ble_eq_true rfl, Nat.le_of_ble_eq_true rfl⟩ (m_X11_isWard _ _ _ M_1 x1 hc_3) (Nat.le_of_ble_eq_true rfl) dX11_charge_7 ?_
  refine r_if_eq C.1 29 dX11_charge_10 (by decide) (fun c_4 => ?_) (fun c_4 => ?_)
  · replace h := ite_T c_4 h
    exact r_sub [] rfl (w_X11_charge_29 C M_1 _ h hr ev eM)
  · replace h := ite_F c_4 h
    refine r_iload_n C.1 2 dX11_charge_13 rfl rfl ?_
    obtain ⟨r_5, hc_6, h⟩ := bd_E h
    refine cl_X11_315 C ⟨Nat.le_of_ble_eq_true rfl, Nat.le_of_ble_eq_true rfl⟩ (m_X11_isYear _ _ _ M_1 x2 hc_6) (Nat.le_of_ble_eq_true rfl) dX11_charge_14 ?_
    refine r_if_eq C.1 29 dX11_charge_17 (by decide) (fun c_7 => ?_) (fun c_7 => ?_)
    · replace h := ite_T c_7 h
      exact r_sub [] rfl (w_X11_charge_29 C M_1 _ h hr ev eM)
    · replace h := ite_F c_7 h
      refine r_aload_n C.1 0 dX11_charge_20 rfl rfl ?_
      refine r_iload_n C.1 1 dX11_charge_21 rfl rfl ?_
      refine r_iload_n C.1 2 dX11_charge_22 rfl rfl ?_
      obtain ⟨r_8, M_10, hc_9, h⟩ := bd2_E h
      refine cl_X11_299 C ⟨Nat.le_of_ble_eq_true rfl, Nat.le_of_ble_eq_true rfl⟩ (m_X11_chargeOf _ _ _ M_1 x1 x2 hc_9) (Nat.le_of_ble_eq_true rfl) dX11_charge_23 ?_
      refine r_goto C.1 32 dX11_charge_26 (by decide) ?_
      exact r_sub [] rfl (w_X11_charge_32 C M_10 r_8 _ h hr ev eM)
def f_X11_charge (M : xM) (x1 : Int32) (x2 : Int32) : Option (Int32 × xM) := b_X11_charge_0 M x1 x2
set_option maxRecDepth 20000 in
theorem m_X11_charge (l : Launch) (D : va_G) (ad : Nat → Nat) (M : xM) (x1 : Int32) (x2 : Int32)  {r : Int32} {M1 : xM} (h : f_X11_charge M x1 x2 = some (r, M1)) : xMetM l yX11_charge cX11_charge 3 (some .int) ({ frames := 8, cells := 0, slots := 0, locals := 177 } : Room) [.ref (ad 0), .int x1, .int x2] D ad M (some (.int r)) M1 := by
  refine xMetM_of (own := RX11) (by decide) rfl (Nat.le_of_ble_eq_true rfl) ?_
  intro x C e1 e2 e3 ev eM hr
  subst e1; subst e2; subst e3
  refine r_sub (L := [(0, .ref (x_ad x 0)), (1, .int x1), (2, .int x2)]) (L' := [(0, .ref (x_ad x 0)), (1, .int x1), (2, .int x2)]) [0, 1, 2] rfl ?_
  exact w_X11_charge_0 C M x1 x2 _ h hr ev eM

def b_X11_commission_32 (M : xM) (s0 : Int32) : Option (Int32 × xM) :=
  some (s0, M)
set_option maxRecDepth 20000 in
set_option maxHeartbeats 2000000 in
theorem w_X11_commission_32 {x : xC} (C : CtM x RX11 cX11_commission 3 ({ frames := 4, cells := 0, slots := 0, locals := 93 } : Room)) (M : xM) (s0 : Int32)  (o : Int32 × xM) (h : b_X11_commission_32 M s0 = some o) (hr : (x_me x).sig.returnType = some .int) (ev : x_rv x = some (.int o.1)) (eM : x_M x = o.2) : J x M 32 [] [.int s0] := by
  unfold b_X11_commission_32 at h
  obtain rfl := Option.some.inj h
  exact r_iret C.1 hr ev eM dX11_commission_32

def b_X11_commission_29 (M : xM)  : Option (Int32 × xM) :=
  b_X11_commission_32 M (-1000000000 : Int32)
set_option maxRecDepth 20000 in
set_option maxHeartbeats 2000000 in
theorem w_X11_commission_29 {x : xC} (C : CtM x RX11 cX11_commission 3 ({ frames := 4, cells := 0, slots := 0, locals := 93 } : Room)) (M : xM)   (o : Int32 × xM) (h : b_X11_commission_29 M = some o) (hr : (x_me x).sig.returnType = some .int) (ev : x_rv x = some (.int o.1)) (eM : x_M x = o.2) : J x M 29 [] [] := by
  unfold b_X11_commission_29 at h
  refine r_ldcw (v := -1000000000) C.1 kw_1631 dX11_commission_29 ?_
  exact r_sub [] rfl (w_X11_commission_32 C M (-1000000000 : Int32) _ h hr ev eM)

def b_X11_commission_0 (M : xM) (x1 : Int32) (x2 : Int32) : Option (Int32 × xM) :=
  lt (uM M 0 0 (0 : Int32)) (fun M_1 => bd (f_X11_isWard M_1 x1) (fun r_2 => if r_2 = 0 then b_X11_commission_29 M_1 else bd (f_X11_isYear M_1 x2) (fun r_5 => if r_5 = 0 then b_X11_commission_29 M_1 else bd (f_X11_commissionOf M_1 x1 x2) (fun r_8 => b_X11_commission_32 M_1 r_8))))
set_option maxRecDepth 20000 in
set_option maxHeartbeats 2000000 in
theorem w_X11_commission_0 {x : xC} (C : CtM x RX11 cX11_commission 3 ({ frames := 4, cells := 0, slots := 0, locals := 93 } : Room)) (M : xM) (x1 : Int32) (x2 : Int32)  (o : Int32 × xM) (h : b_X11_commission_0 M x1 x2 = some o) (hr : (x_me x).sig.returnType = some .int) (ev : x_rv x = some (.int o.1)) (eM : x_M x = o.2) : J x M 0 [(0, .ref (x_ad x 0)), (1, .int x1), (2, .int x2)] [] := by
  unfold b_X11_commission_0 at h
  refine r_aload_n C.1 0 dX11_commission_0 rfl rfl ?_
  refine r_iconst (v := 0) C.1 dX11_commission_1 rfl ?_
  obtain ⟨M_1, eM_1, h⟩ := lt_E h
  refine pf_X11_56 C eM_1 dX11_commission_2 ?_
  refine r_aload_n C.1 0 dX11_commission_5 rfl rfl ?_
  refine r_iload_n C.1 1 dX11_commission_6 rfl rfl ?_
  obtain ⟨r_2, hc_3, h⟩ := bd_E h
  refine cl_X11_262 C ⟨Nat.le_of_ble_eq_true rfl, Nat.le_of_ble_eq_true rfl⟩ (m_X11_isWard _ _ _ M_1 x1 hc_3) (Nat.le_of_ble_eq_true rfl) dX11_commission_7 ?_
  refine r_if_eq C.1 29 dX11_commission_10 (by decide) (fun c_4 => ?_) (fun c_4 => ?_)
  · replace h := ite_T c_4 h
    exact r_sub [] rfl (w_X11_commission_29 C M_1 _ h hr ev eM)
  · replace h := ite_F c_4 h
    refine r_iload_n C.1 2 dX11_commission_13 rfl rfl ?_
    obtain ⟨r_5, hc_6, h⟩ := bd_E h
    refine cl_X11_315 C ⟨Nat.le_of_ble_eq_true rfl, Nat.le_of_ble_eq_true rfl⟩ (m_X11_isYear _ _ _ M_1 x2 hc_6) (Nat.le_of_ble_eq_true rfl) dX11_commission_14 ?_
    refine r_if_eq C.1 29 dX11_commission_17 (by decide) (fun c_7 => ?_) (fun c_7 => ?_)
    · replace h := ite_T c_7 h
      exact r_sub [] rfl (w_X11_commission_29 C M_1 _ h hr ev eM)
    · replace h := ite_F c_7 h
      refine r_aload_n C.1 0 dX11_commission_20 rfl rfl ?_
      refine r_iload_n C.1 1 dX11_commission_21 rfl rfl ?_
      refine r_iload_n C.1 2 dX11_commission_22 rfl rfl ?_
      obtain ⟨r_8, hc_9, h⟩ := bd_E h
      refine cl_X11_302 C ⟨Nat.le_of_ble_eq_true rfl, Nat.le_of_ble_eq_true rfl⟩ (m_X11_commissionOf _ _ _ M_1 x1 x2 hc_9) (Nat.le_of_ble_eq_true rfl) dX11_commission_23 ?_
      refine r_goto C.1 32 dX11_commission_26 (by decide) ?_
      exact r_sub [] rfl (w_X11_commission_32 C M_1 r_8 _ h hr ev eM)
def f_X11_commission (M : xM) (x1 : Int32) (x2 : Int32) : Option (Int32 × xM) := b_X11_commission_0 M x1 x2
set_option maxRecDepth 20000 in
theorem m_X11_commission (l : Launch) (D : va_G) (ad : Nat → Nat) (M : xM) (x1 : Int32) (x2 : Int32)  {r : Int32} {M1 : xM} (h : f_X11_commission M x1 x2 = some (r, M1)) : xMetM l yX11_commission cX11_commission 3 (some .int) ({ frames := 4, cells := 0, slots := 0, locals := 93 } : Room) [.ref (ad 0), .int x1, .int x2] D ad M (some (.int r)) M1 := by
  refine xMetM_of (own := RX11) (by decide) rfl (Nat.le_of_ble_eq_true rfl) ?_
  intro x C e1 e2 e3 ev eM hr
  subst e1; subst e2; subst e3
  refine r_sub (L := [(0, .ref (x_ad x 0)), (1, .int x1), (2, .int x2)]) (L' := [(0, .ref (x_ad x 0)), (1, .int x1), (2, .int x2)]) [0, 1, 2] rfl ?_
  exact w_X11_commission_0 C M x1 x2 _ h hr ev eM

def b_X11_allowance_43 (M : xM) (s0 : Int32) : Option (Int32 × xM) :=
  some (s0, M)
set_option maxRecDepth 20000 in
set_option maxHeartbeats 2000000 in
theorem w_X11_allowance_43 {x : xC} (C : CtM x RX11 cX11_allowance 4 ({ frames := 2, cells := 0, slots := 0, locals := 51 } : Room)) (M : xM) (s0 : Int32)  (o : Int32 × xM) (h : b_X11_allowance_43 M s0 = some o) (hr : (x_me x).sig.returnType = some .int) (ev : x_rv x = some (.int o.1)) (eM : x_M x = o.2) : J x M 43 [] [.int s0] := by
  unfold b_X11_allowance_43 at h
  obtain rfl := Option.some.inj h
  exact r_iret C.1 hr ev eM dX11_allowance_43

def b_X11_allowance_40 (M : xM)  : Option (Int32 × xM) :=
  b_X11_allowance_43 M (-1000000000 : Int32)
set_option maxRecDepth 20000 in
set_option maxHeartbeats 2000000 in
theorem w_X11_allowance_40 {x : xC} (C : CtM x RX11 cX11_allowance 4 ({ frames := 2, cells := 0, slots := 0, locals := 51 } : Room)) (M : xM)   (o : Int32 × xM) (h : b_X11_allowance_40 M = some o) (hr : (x_me x).sig.returnType = some .int) (ev : x_rv x = some (.int o.1)) (eM : x_M x = o.2) : J x M 40 [] [] := by
  unfold b_X11_allowance_40 at h
  refine r_ldcw (v := -1000000000) C.1 kw_1631 dX11_allowance_40 ?_
  exact r_sub [] rfl (w_X11_allowance_43 C M (-1000000000 : Int32) _ h hr ev eM)

def b_X11_allowance_0 (M : xM) (x1 : Int32) (x2 : Int32) (x3 : Int32) : Option (Int32 × xM) :=
  lt (uM M 0 0 (0 : Int32)) (fun M_1 => bd (f_X11_isWard M_1 x1) (fun r_2 => if r_2 = 0 then b_X11_allowance_40 M_1 else bd (f_X11_in M_1 x2.toInt64 (0 : Int64) (1 : Int64)) (fun r_5 => if r_5 = 0 then b_X11_allowance_40 M_1 else bd (f_X11_isYear M_1 x3) (fun r_8 => if r_8 = 0 then b_X11_allowance_40 M_1 else bd (f_X11_allowanceOf M_1 x1 x2 x3) (fun r_11 => b_X11_allowance_43 M_1 r_11)))))
set_option maxRecDepth 20000 in
set_option maxHeartbeats 2000000 in
theorem w_X11_allowance_0 {x : xC} (C : CtM x RX11 cX11_allowance 4 ({ frames := 2, cells := 0, slots := 0, locals := 51 } : Room)) (M : xM) (x1 : Int32) (x2 : Int32) (x3 : Int32)  (o : Int32 × xM) (h : b_X11_allowance_0 M x1 x2 x3 = some o) (hr : (x_me x).sig.returnType = some .int) (ev : x_rv x = some (.int o.1)) (eM : x_M x = o.2) : J x M 0 [(0, .ref (x_ad x 0)), (1, .int x1), (2, .int x2), (3, .int x3)] [] := by
  unfold b_X11_allowance_0 at h
  refine r_aload_n C.1 0 dX11_allowance_0 rfl rfl ?_
  refine r_iconst (v := 0) C.1 dX11_allowance_1 rfl ?_
  obtain ⟨M_1, eM_1, h⟩ := lt_E h
  refine pf_X11_56 C eM_1 dX11_allowance_2 ?_
  refine r_aload_n C.1 0 dX11_allowance_5 rfl rfl ?_
  refine r_iload_n C.1 1 dX11_allowance_6 rfl rfl ?_
  obtain ⟨r_2, hc_3, h⟩ := bd_E h
  refine cl_X11_262 C ⟨Nat.le_of_ble_eq_true rfl, Nat.le_of_ble_eq_true rfl⟩ (m_X11_isWard _ _ _ M_1 x1 hc_3) (Nat.le_of_ble_eq_true rfl) dX11_allowance_7 ?_
  refine r_if_eq C.1 40 dX11_allowance_10 (by decide) (fun c_4 => ?_) (fun c_4 => ?_)
  · replace h := ite_T c_4 h
    exact r_sub [] rfl (w_X11_allowance_40 C M_1 _ h hr ev eM)
  · replace h := ite_F c_4 h
    refine r_iload_n C.1 2 dX11_allowance_13 rfl rfl ?_
    refine r_i2l C.1 dX11_allowance_14 ?_
    refine r_lconst (v := 0) C.1 dX11_allowance_15 rfl ?_
    refine r_lconst (v := 1) C.1 dX11_allowance_16 rfl ?_
    obtain ⟨r_5, hc_6, h⟩ := bd_E h
    refine cl_X11_67 C ⟨Nat.le_of_ble_eq_true rfl, Nat.le_of_ble_eq_true rfl⟩ (m_X11_in _ _ _ M_1 x2.toInt64 (0 : Int64) (1 : Int64) hc_6) (Nat.le_of_ble_eq_true rfl) dX11_allowance_17 ?_
    refine r_if_eq C.1 40 dX11_allowance_20 (by decide) (fun c_7 => ?_) (fun c_7 => ?_)
    · replace h := ite_T c_7 h
      exact r_sub [] rfl (w_X11_allowance_40 C M_1 _ h hr ev eM)
    · replace h := ite_F c_7 h
      refine r_iload_n C.1 3 dX11_allowance_23 rfl rfl ?_
      obtain ⟨r_8, hc_9, h⟩ := bd_E h
      refine cl_X11_315 C ⟨Nat.le_of_ble_eq_true rfl, Nat.le_of_ble_eq_true rfl⟩ (m_X11_isYear _ _ _ M_1 x3 hc_9) (Nat.le_of_ble_eq_true rfl) dX11_allowance_24 ?_
      refine r_if_eq C.1 40 dX11_allowance_27 (by decide) (fun c_10 => ?_) (fun c_10 => ?_)
      · replace h := ite_T c_10 h
        exact r_sub [] rfl (w_X11_allowance_40 C M_1 _ h hr ev eM)
      · replace h := ite_F c_10 h
        refine r_aload_n C.1 0 dX11_allowance_30 rfl rfl ?_
        refine r_iload_n C.1 1 dX11_allowance_31 rfl rfl ?_
        refine r_iload_n C.1 2 dX11_allowance_32 rfl rfl ?_
        refine r_iload_n C.1 3 dX11_allowance_33 rfl rfl ?_
        obtain ⟨r_11, hc_12, h⟩ := bd_E h
        refine cl_X11_203 C ⟨Nat.le_of_ble_eq_true rfl, Nat.le_of_ble_eq_true rfl⟩ (m_X11_allowanceOf _ _ _ M_1 x1 x2 x3 hc_12) (Nat.le_of_ble_eq_true rfl) dX11_allowance_34 ?_
        refine r_goto C.1 43 dX11_allowance_37 (by decide) ?_
        exact r_sub [] rfl (w_X11_allowance_43 C M_1 r_11 _ h hr ev eM)
def f_X11_allowance (M : xM) (x1 : Int32) (x2 : Int32) (x3 : Int32) : Option (Int32 × xM) := b_X11_allowance_0 M x1 x2 x3
set_option maxRecDepth 20000 in
theorem m_X11_allowance (l : Launch) (D : va_G) (ad : Nat → Nat) (M : xM) (x1 : Int32) (x2 : Int32) (x3 : Int32)  {r : Int32} {M1 : xM} (h : f_X11_allowance M x1 x2 x3 = some (r, M1)) : xMetM l yX11_allowance cX11_allowance 4 (some .int) ({ frames := 2, cells := 0, slots := 0, locals := 51 } : Room) [.ref (ad 0), .int x1, .int x2, .int x3] D ad M (some (.int r)) M1 := by
  refine xMetM_of (own := RX11) (by decide) rfl (Nat.le_of_ble_eq_true rfl) ?_
  intro x C e1 e2 e3 ev eM hr
  subst e1; subst e2; subst e3
  refine r_sub (L := [(0, .ref (x_ad x 0)), (1, .int x1), (2, .int x2), (3, .int x3)]) (L' := [(0, .ref (x_ad x 0)), (1, .int x1), (2, .int x2), (3, .int x3)]) [0, 1, 2, 3] rfl ?_
  exact w_X11_allowance_0 C M x1 x2 x3 _ h hr ev eM

def b_X11_entry_57 (M : xM) (s0 : Int32) : Option (Int32 × xM) :=
  some (s0, M)
set_option maxRecDepth 20000 in
set_option maxHeartbeats 2000000 in
theorem w_X11_entry_57 {x : xC} (C : CtM x RX11 cX11_entry 3 ({ frames := 1, cells := 0, slots := 0, locals := 25 } : Room)) (M : xM) (s0 : Int32)  (o : Int32 × xM) (h : b_X11_entry_57 M s0 = some o) (hr : (x_me x).sig.returnType = some .int) (ev : x_rv x = some (.int o.1)) (eM : x_M x = o.2) : J x M 57 [] [.int s0] := by
  unfold b_X11_entry_57 at h
  obtain rfl := Option.some.inj h
  exact r_iret C.1 hr ev eM dX11_entry_57

def b_X11_entry_36 (M : xM) (x1 : Int32) (x2 : Int32) (s0 : Int32) : Option (Int32 × xM) :=
  lt (uM M 0 0 s0) (fun M_1 => if (M_1 0 0) = (1 : Int32) then b_X11_entry_57 M_1 (0 : Int32) else bd (f_X11_entryOf M_1 x1 x2) (fun r_3 => b_X11_entry_57 M_1 r_3))
set_option maxRecDepth 20000 in
set_option maxHeartbeats 2000000 in
theorem w_X11_entry_36 {x : xC} (C : CtM x RX11 cX11_entry 3 ({ frames := 1, cells := 0, slots := 0, locals := 25 } : Room)) (M : xM) (x1 : Int32) (x2 : Int32) (s0 : Int32)  (o : Int32 × xM) (h : b_X11_entry_36 M x1 x2 s0 = some o) (hr : (x_me x).sig.returnType = some .int) (ev : x_rv x = some (.int o.1)) (eM : x_M x = o.2) : J x M 36 [(0, .ref (x_ad x 0)), (1, .int x1), (2, .int x2)] [.int s0, .ref (x_ad x 0)] := by
  unfold b_X11_entry_36 at h
  obtain ⟨M_1, eM_1, h⟩ := lt_E h
  refine pf_X11_56 C eM_1 dX11_entry_36 ?_
  refine r_aload_n C.1 0 dX11_entry_39 rfl rfl ?_
  refine gf_X11_56 C dX11_entry_40 ?_
  refine r_iconst (v := 1) C.1 dX11_entry_43 rfl ?_
  refine r_icmp_ne C.1 51 dX11_entry_44 (by decide) (fun c_2 => ?_) (fun c_2 => ?_)
  · replace h := ite_F c_2 h
    refine r_aload_n C.1 0 dX11_entry_51 rfl rfl ?_
    refine r_iload_n C.1 1 dX11_entry_52 rfl rfl ?_
    refine r_iload_n C.1 2 dX11_entry_53 rfl rfl ?_
    obtain ⟨r_3, hc_4, h⟩ := bd_E h
    refine cl_X11_173 C ⟨Nat.le_of_ble_eq_true rfl, Nat.le_of_ble_eq_true rfl⟩ (m_X11_entryOf _ _ _ M_1 x1 x2 hc_4) (Nat.le_of_ble_eq_true rfl) dX11_entry_54 ?_
    exact r_sub [] rfl (w_X11_entry_57 C M_1 r_3 _ h hr ev eM)
  · replace h := ite_T c_2 h
    refine r_iconst (v := 0) C.1 dX11_entry_47 rfl ?_
    refine r_goto C.1 57 dX11_entry_48 (by decide) ?_
    exact r_sub [] rfl (w_X11_entry_57 C M_1 (0 : Int32) _ h hr ev eM)

def b_X11_entry_35 (M : xM) (x1 : Int32) (x2 : Int32) : Option (Int32 × xM) :=
  b_X11_entry_36 M x1 x2 (1 : Int32)
set_option maxRecDepth 20000 in
set_option maxHeartbeats 2000000 in
theorem w_X11_entry_35 {x : xC} (C : CtM x RX11 cX11_entry 3 ({ frames := 1, cells := 0, slots := 0, locals := 25 } : Room)) (M : xM) (x1 : Int32) (x2 : Int32)  (o : Int32 × xM) (h : b_X11_entry_35 M x1 x2 = some o) (hr : (x_me x).sig.returnType = some .int) (ev : x_rv x = some (.int o.1)) (eM : x_M x = o.2) : J x M 35 [(0, .ref (x_ad x 0)), (1, .int x1), (2, .int x2)] [.ref (x_ad x 0)] := by
  unfold b_X11_entry_35 at h
  refine r_iconst (v := 1) C.1 dX11_entry_35 rfl ?_
  exact r_sub [0, 1, 2] rfl (w_X11_entry_36 C M x1 x2 (1 : Int32) _ h hr ev eM)

def b_X11_entry_0 (M : xM) (x1 : Int32) (x2 : Int32) : Option (Int32 × xM) :=
  gd (2 : Int32) 495 (bd (f_X11_in M x1.toInt64 (0 : Int64) (((M 4 (2 : Int32).toNatClampNeg) - (1 : Int32)).toInt64)) (fun r_2 => if r_2 = 0 then b_X11_entry_35 M x1 x2 else bd (f_X11_in M x2.toInt64 (0 : Int64) (5 : Int64)) (fun r_5 => if r_5 = 0 then b_X11_entry_35 M x1 x2 else b_X11_entry_36 M x1 x2 (0 : Int32))))
set_option maxRecDepth 20000 in
set_option maxHeartbeats 2000000 in
theorem w_X11_entry_0 {x : xC} (C : CtM x RX11 cX11_entry 3 ({ frames := 1, cells := 0, slots := 0, locals := 25 } : Room)) (M : xM) (x1 : Int32) (x2 : Int32)  (o : Int32 × xM) (h : b_X11_entry_0 M x1 x2 = some o) (hr : (x_me x).sig.returnType = some .int) (ev : x_rv x = some (.int o.1)) (eM : x_M x = o.2) : J x M 0 [(0, .ref (x_ad x 0)), (1, .int x1), (2, .int x2)] [] := by
  unfold b_X11_entry_0 at h
  refine r_aload_n C.1 0 dX11_entry_0 rfl rfl ?_
  refine r_iload_n C.1 1 dX11_entry_1 rfl rfl ?_
  refine r_i2l C.1 dX11_entry_2 ?_
  refine r_lconst (v := 0) C.1 dX11_entry_3 rfl ?_
  refine r_aload_n C.1 0 dX11_entry_4 rfl rfl ?_
  refine gf_X11_19 C dX11_entry_5 ?_
  refine r_iconst (v := 2) C.1 dX11_entry_8 rfl ?_
  obtain ⟨q_1, h⟩ := gd_E h
  refine r_iald C.1 (mK C (by decide)) (mS C (shm_4)) 0 (mT0 C) q_1 dX11_entry_9 ?_
  refine r_iconst (v := 1) C.1 dX11_entry_10 rfl ?_
  refine r_isub C.1 dX11_entry_11 ?_
  refine r_i2l C.1 dX11_entry_12 ?_
  obtain ⟨r_2, hc_3, h⟩ := bd_E h
  refine cl_X11_67 C ⟨Nat.le_of_ble_eq_true rfl, Nat.le_of_ble_eq_true rfl⟩ (m_X11_in _ _ _ M x1.toInt64 (0 : Int64) (((M 4 (2 : Int32).toNatClampNeg) - (1 : Int32)).toInt64) hc_3) (Nat.le_of_ble_eq_true rfl) dX11_entry_13 ?_
  refine r_if_eq C.1 35 dX11_entry_16 (by decide) (fun c_4 => ?_) (fun c_4 => ?_)
  · replace h := ite_T c_4 h
    exact r_sub [0, 1, 2] rfl (w_X11_entry_35 C M x1 x2 _ h hr ev eM)
  · replace h := ite_F c_4 h
    refine r_iload_n C.1 2 dX11_entry_19 rfl rfl ?_
    refine r_i2l C.1 dX11_entry_20 ?_
    refine r_lconst (v := 0) C.1 dX11_entry_21 rfl ?_
    refine r_ldc2 (v := 5) C.1 kw_1664 dX11_entry_22 ?_
    obtain ⟨r_5, hc_6, h⟩ := bd_E h
    refine cl_X11_67 C ⟨Nat.le_of_ble_eq_true rfl, Nat.le_of_ble_eq_true rfl⟩ (m_X11_in _ _ _ M x2.toInt64 (0 : Int64) (5 : Int64) hc_6) (Nat.le_of_ble_eq_true rfl) dX11_entry_25 ?_
    refine r_if_eq C.1 35 dX11_entry_28 (by decide) (fun c_7 => ?_) (fun c_7 => ?_)
    · replace h := ite_T c_7 h
      exact r_sub [0, 1, 2] rfl (w_X11_entry_35 C M x1 x2 _ h hr ev eM)
    · replace h := ite_F c_7 h
      refine r_iconst (v := 0) C.1 dX11_entry_31 rfl ?_
      refine r_goto C.1 36 dX11_entry_32 (by decide) ?_
      exact r_sub [0, 1, 2] rfl (w_X11_entry_36 C M x1 x2 (0 : Int32) _ h hr ev eM)
def f_X11_entry (M : xM) (x1 : Int32) (x2 : Int32) : Option (Int32 × xM) := b_X11_entry_0 M x1 x2
set_option maxRecDepth 20000 in
theorem m_X11_entry (l : Launch) (D : va_G) (ad : Nat → Nat) (M : xM) (x1 : Int32) (x2 : Int32)  {r : Int32} {M1 : xM} (h : f_X11_entry M x1 x2 = some (r, M1)) : xMetM l yX11_entry cX11_entry 3 (some .int) ({ frames := 1, cells := 0, slots := 0, locals := 25 } : Room) [.ref (ad 0), .int x1, .int x2] D ad M (some (.int r)) M1 := by
  refine xMetM_of (own := RX11) (by decide) rfl (Nat.le_of_ble_eq_true rfl) ?_
  intro x C e1 e2 e3 ev eM hr
  subst e1; subst e2; subst e3
  refine r_sub (L := [(0, .ref (x_ad x 0)), (1, .int x1), (2, .int x2)]) (L' := [(0, .ref (x_ad x 0)), (1, .int x1), (2, .int x2)]) [0, 1, 2] rfl ?_
  exact w_X11_entry_0 C M x1 x2 _ h hr ev eM

def b_X11_payment_82 (M : xM) (s0 : Int32) : Option (Int32 × xM) :=
  some (s0, M)
set_option maxRecDepth 20000 in
set_option maxHeartbeats 2000000 in
theorem w_X11_payment_82 {x : xC} (C : CtM x RX11 cX11_payment 3 ({ frames := 6, cells := 0, slots := 0, locals := 133 } : Room)) (M : xM) (s0 : Int32)  (o : Int32 × xM) (h : b_X11_payment_82 M s0 = some o) (hr : (x_me x).sig.returnType = some .int) (ev : x_rv x = some (.int o.1)) (eM : x_M x = o.2) : J x M 82 [] [.int s0] := by
  unfold b_X11_payment_82 at h
  obtain rfl := Option.some.inj h
  exact r_iret C.1 hr ev eM dX11_payment_82

def b_X11_payment_96 (M : xM) (s0 : Int32) : Option (Int32 × xM) :=
  some (s0, M)
set_option maxRecDepth 20000 in
set_option maxHeartbeats 2000000 in
theorem w_X11_payment_96 {x : xC} (C : CtM x RX11 cX11_payment 3 ({ frames := 6, cells := 0, slots := 0, locals := 133 } : Room)) (M : xM) (s0 : Int32)  (o : Int32 × xM) (h : b_X11_payment_96 M s0 = some o) (hr : (x_me x).sig.returnType = some .int) (ev : x_rv x = some (.int o.1)) (eM : x_M x = o.2) : J x M 96 [] [.int s0] := by
  unfold b_X11_payment_96 at h
  obtain rfl := Option.some.inj h
  exact r_iret C.1 hr ev eM dX11_payment_96

def b_X11_payment_0 (M : xM) (x1 : Int32) (x2 : Int32) : Option (Int32 × xM) :=
  lt (uM M 0 0 (0 : Int32)) (fun M_1 => bd (f_X11_isPayment M_1 x1) (fun r_2 => if r_2 = 0 then some ((-1 : Int32), M_1) else bd (f_X11_lays M_1) (fun M_7 => if x2 = (0 : Int32) then gd x1 40 (some (M_7 8 x1.toNatClampNeg, M_7)) else (if x2 = (1 : Int32) then bd (f_X11_disallowed M_7 x1) (fun r_10 => some (r_10, M_7)) else (if x2 = (2 : Int32) then bd (f_X11_isGood M_7 x1) (fun r_12 => if r_12 = 0 then b_X11_payment_82 M_7 (0 : Int32) else b_X11_payment_82 M_7 (1 : Int32)) else (if x2 = (3 : Int32) then bd (f_X11_isBacked M_7 x1) (fun r_15 => if r_15 = 0 then b_X11_payment_96 M_7 (0 : Int32) else b_X11_payment_96 M_7 (1 : Int32)) else (if x2 = (4 : Int32) then bd (f_X11_entryOf M_7 x1 (6 : Int32)) (fun r_18 => some (r_18, M_7)) else (some ((-1 : Int32), M_7)))))))))
set_option maxRecDepth 20000 in
set_option maxHeartbeats 2000000 in
theorem w_X11_payment_0 {x : xC} (C : CtM x RX11 cX11_payment 3 ({ frames := 6, cells := 0, slots := 0, locals := 133 } : Room)) (M : xM) (x1 : Int32) (x2 : Int32)  (o : Int32 × xM) (h : b_X11_payment_0 M x1 x2 = some o) (hr : (x_me x).sig.returnType = some .int) (ev : x_rv x = some (.int o.1)) (eM : x_M x = o.2) : J x M 0 [(0, .ref (x_ad x 0)), (1, .int x1), (2, .int x2)] [] := by
  unfold b_X11_payment_0 at h
  refine r_aload_n C.1 0 dX11_payment_0 rfl rfl ?_
  refine r_iconst (v := 0) C.1 dX11_payment_1 rfl ?_
  obtain ⟨M_1, eM_1, h⟩ := lt_E h
  refine pf_X11_56 C eM_1 dX11_payment_2 ?_
  refine r_aload_n C.1 0 dX11_payment_5 rfl rfl ?_
  refine r_iload_n C.1 1 dX11_payment_6 rfl rfl ?_
  obtain ⟨r_2, hc_3, h⟩ := bd_E h
  refine cl_X11_296 C ⟨Nat.le_of_ble_eq_true rfl, Nat.le_of_ble_eq_true rfl⟩ (m_X11_isPayment _ _ _ M_1 x1 hc_3) (Nat.le_of_ble_eq_true rfl) dX11_payment_7 ?_
  refine r_if_ne C.1 15 dX11_payment_10 (by decide) (fun c_4 => ?_) (fun c_4 => ?_)
  · replace h := ite_F c_4 h
    refine r_aload_n C.1 0 dX11_payment_15 rfl rfl ?_
    obtain ⟨M_7, hc_6, h⟩ := bd_E h
    refine cl_X11_221 C ⟨Nat.le_of_ble_eq_true rfl, Nat.le_of_ble_eq_true rfl⟩ (m_X11_lays _ _ _ M_1 hc_6) (Nat.le_of_ble_eq_true rfl) dX11_payment_16 ?_
    refine r_iload_n C.1 2 dX11_payment_19 rfl rfl ?_
    by_cases c_80 : x2 = (0 : Int32)
    · replace h := ite_T c_80 h
      refine r_tin C.1 c_80 56 dX11_payment_20 (by decide) (by decide) rfl (by decide) ?_
      refine r_aload_n C.1 0 dX11_payment_56 rfl rfl ?_
      refine gf_X11_31 C dX11_payment_57 ?_
      refine r_iload_n C.1 1 dX11_payment_60 rfl rfl ?_
      obtain ⟨q_9, h⟩ := gd_E h
      refine r_iald C.1 (mK C (by decide)) (mS C (shm_8)) 0 (mT0 C) q_9 dX11_payment_61 ?_
      obtain rfl := Option.some.inj h
      exact r_iret C.1 hr ev eM dX11_payment_62
    · replace h := ite_F c_80 h
      by_cases c_81 : x2 = (1 : Int32)
      · replace h := ite_T c_81 h
        refine r_tin C.1 c_81 63 dX11_payment_20 (by decide) (by decide) rfl (by decide) ?_
        refine r_aload_n C.1 0 dX11_payment_63 rfl rfl ?_
        refine r_iload_n C.1 1 dX11_payment_64 rfl rfl ?_
        obtain ⟨r_10, hc_11, h⟩ := bd_E h
        refine cl_X11_237 C ⟨Nat.le_of_ble_eq_true rfl, Nat.le_of_ble_eq_true rfl⟩ (m_X11_disallowed _ _ _ M_7 x1 hc_11) (Nat.le_of_ble_eq_true rfl) dX11_payment_65 ?_
        obtain rfl := Option.some.inj h
        exact r_iret C.1 hr ev eM dX11_payment_68
      · replace h := ite_F c_81 h
        by_cases c_82 : x2 = (2 : Int32)
        · replace h := ite_T c_82 h
          refine r_tin C.1 c_82 69 dX11_payment_20 (by decide) (by decide) rfl (by decide) ?_
          refine r_aload_n C.1 0 dX11_payment_69 rfl rfl ?_
          refine r_iload_n C.1 1 dX11_payment_70 rfl rfl ?_
          obtain ⟨r_12, hc_13, h⟩ := bd_E h
          refine cl_X11_179 C ⟨Nat.le_of_ble_eq_true rfl, Nat.le_of_ble_eq_true rfl⟩ (m_X11_isGood _ _ _ M_7 x1 hc_13) (Nat.le_of_ble_eq_true rfl) dX11_payment_71 ?_
          refine r_if_eq C.1 81 dX11_payment_74 (by decide) (fun c_14 => ?_) (fun c_14 => ?_)
          · replace h := ite_T c_14 h
            refine r_iconst (v := 0) C.1 dX11_payment_81 rfl ?_
            exact r_sub [] rfl (w_X11_payment_82 C M_7 (0 : Int32) _ h hr ev eM)
          · replace h := ite_F c_14 h
            refine r_iconst (v := 1) C.1 dX11_payment_77 rfl ?_
            refine r_goto C.1 82 dX11_payment_78 (by decide) ?_
            exact r_sub [] rfl (w_X11_payment_82 C M_7 (1 : Int32) _ h hr ev eM)
        · replace h := ite_F c_82 h
          by_cases c_83 : x2 = (3 : Int32)
          · replace h := ite_T c_83 h
            refine r_tin C.1 c_83 83 dX11_payment_20 (by decide) (by decide) rfl (by decide) ?_
            refine r_aload_n C.1 0 dX11_payment_83 rfl rfl ?_
            refine r_iload_n C.1 1 dX11_payment_84 rfl rfl ?_
            obtain ⟨r_15, hc_16, h⟩ := bd_E h
            refine cl_X11_190 C ⟨Nat.le_of_ble_eq_true rfl, Nat.le_of_ble_eq_true rfl⟩ (m_X11_isBacked _ _ _ M_7 x1 hc_16) (Nat.le_of_ble_eq_true rfl) dX11_payment_85 ?_
            refine r_if_eq C.1 95 dX11_payment_88 (by decide) (fun c_17 => ?_) (fun c_17 => ?_)
            · replace h := ite_T c_17 h
              refine r_iconst (v := 0) C.1 dX11_payment_95 rfl ?_
              exact r_sub [] rfl (w_X11_payment_96 C M_7 (0 : Int32) _ h hr ev eM)
            · replace h := ite_F c_17 h
              refine r_iconst (v := 1) C.1 dX11_payment_91 rfl ?_
              refine r_goto C.1 96 dX11_payment_92 (by decide) ?_
              exact r_sub [] rfl (w_X11_payment_96 C M_7 (1 : Int32) _ h hr ev eM)
          · replace h := ite_F c_83 h
            by_cases c_84 : x2 = (4 : Int32)
            · replace h := ite_T c_84 h
              refine r_tin C.1 c_84 97 dX11_payment_20 (by decide) (by decide) rfl (by decide) ?_
              refine r_aload_n C.1 0 dX11_payment_97 rfl rfl ?_
              refine r_iload_n C.1 1 dX11_payment_98 rfl rfl ?_
              refine r_bipush (v := 6) C.1 dX11_payment_99 (by decide) ?_
              obtain ⟨r_18, hc_19, h⟩ := bd_E h
              refine cl_X11_173 C ⟨Nat.le_of_ble_eq_true rfl, Nat.le_of_ble_eq_true rfl⟩ (m_X11_entryOf _ _ _ M_7 x1 (6 : Int32) hc_19) (Nat.le_of_ble_eq_true rfl) dX11_payment_101 ?_
              obtain rfl := Option.some.inj h
              exact r_iret C.1 hr ev eM dX11_payment_104
            · replace h := ite_F c_84 h
              have qc_80 := ne_toInt c_80
              have qc_81 := ne_toInt c_81
              have qc_82 := ne_toInt c_82
              have qc_83 := ne_toInt c_83
              have qc_84 := ne_toInt c_84
              refine r_tout C.1 105 dX11_payment_20 (tout_0_4 qc_80 qc_81 qc_82 qc_83 qc_84) (by decide) ?_
              refine r_iconst (v := -1) C.1 dX11_payment_105 rfl ?_
              obtain rfl := Option.some.inj h
              exact r_iret C.1 hr ev eM dX11_payment_106
  · replace h := ite_T c_4 h
    refine r_iconst (v := -1) C.1 dX11_payment_13 rfl ?_
    obtain rfl := Option.some.inj h
    exact r_iret C.1 hr ev eM dX11_payment_14
def f_X11_payment (M : xM) (x1 : Int32) (x2 : Int32) : Option (Int32 × xM) := b_X11_payment_0 M x1 x2
set_option maxRecDepth 20000 in
theorem m_X11_payment (l : Launch) (D : va_G) (ad : Nat → Nat) (M : xM) (x1 : Int32) (x2 : Int32)  {r : Int32} {M1 : xM} (h : f_X11_payment M x1 x2 = some (r, M1)) : xMetM l yX11_payment cX11_payment 3 (some .int) ({ frames := 6, cells := 0, slots := 0, locals := 133 } : Room) [.ref (ad 0), .int x1, .int x2] D ad M (some (.int r)) M1 := by
  refine xMetM_of (own := RX11) (by decide) rfl (Nat.le_of_ble_eq_true rfl) ?_
  intro x C e1 e2 e3 ev eM hr
  subst e1; subst e2; subst e3
  refine r_sub (L := [(0, .ref (x_ad x 0)), (1, .int x1), (2, .int x2)]) (L' := [(0, .ref (x_ad x 0)), (1, .int x1), (2, .int x2)]) [0, 1, 2] rfl ?_
  exact w_X11_payment_0 C M x1 x2 _ h hr ev eM

def b_X11_account_154 (M : xM) (s0 : Int32) : Option (Int32 × xM) :=
  some (s0, M)
set_option maxRecDepth 20000 in
set_option maxHeartbeats 2000000 in
theorem w_X11_account_154 {x : xC} (C : CtM x RX11 cX11_account 8 ({ frames := 8, cells := 0, slots := 0, locals := 177 } : Room)) (M : xM) (s0 : Int32)  (o : Int32 × xM) (h : b_X11_account_154 M s0 = some o) (hr : (x_me x).sig.returnType = some .int) (ev : x_rv x = some (.int o.1)) (eM : x_M x = o.2) : J x M 154 [] [.int s0] := by
  unfold b_X11_account_154 at h
  obtain rfl := Option.some.inj h
  exact r_iret C.1 hr ev eM dX11_account_154

def b_X11_account_32 (M : xM)  : Option (Int32 × xM) :=
  some ((-1000000000 : Int32), M)
set_option maxRecDepth 20000 in
set_option maxHeartbeats 2000000 in
theorem w_X11_account_32 {x : xC} (C : CtM x RX11 cX11_account 8 ({ frames := 8, cells := 0, slots := 0, locals := 177 } : Room)) (M : xM)   (o : Int32 × xM) (h : b_X11_account_32 M = some o) (hr : (x_me x).sig.returnType = some .int) (ev : x_rv x = some (.int o.1)) (eM : x_M x = o.2) : J x M 32 [] [] := by
  unfold b_X11_account_32 at h
  refine r_ldcw (v := -1000000000) C.1 kw_1631 dX11_account_32 ?_
  obtain rfl := Option.some.inj h
  exact r_iret C.1 hr ev eM dX11_account_35

def b_X11_account_87 (M : xM) (s0 : Int32) : Option (Int32 × xM) :=
  some (s0, M)
set_option maxRecDepth 20000 in
set_option maxHeartbeats 2000000 in
theorem w_X11_account_87 {x : xC} (C : CtM x RX11 cX11_account 8 ({ frames := 8, cells := 0, slots := 0, locals := 177 } : Room)) (M : xM) (s0 : Int32)  (o : Int32 × xM) (h : b_X11_account_87 M s0 = some o) (hr : (x_me x).sig.returnType = some .int) (ev : x_rv x = some (.int o.1)) (eM : x_M x = o.2) : J x M 87 [] [.int s0] := by
  unfold b_X11_account_87 at h
  obtain rfl := Option.some.inj h
  exact r_iret C.1 hr ev eM dX11_account_87

def b_X11_account_0 (M : xM) (x1 : Int32) (x2 : Int32) (x3 : Int32) : Option (Int32 × xM) :=
  lt (uM M 0 0 (0 : Int32)) (fun M_1 => bd (f_X11_isWard M_1 x1) (fun r_2 => if r_2 = 0 then b_X11_account_32 M_1 else bd (f_X11_isYear M_1 x2) (fun r_5 => if r_5 = 0 then b_X11_account_32 M_1 else bd (f_X11_in M_1 x3.toInt64 (0 : Int64) (7 : Int64)) (fun r_8 => if r_8 = 0 then b_X11_account_32 M_1 else bd (f_X11_lays M_1) (fun M_13 => lt ((360 : Int32) * x2) (fun y_14 => lt ((y_14 + (360 : Int32)) - (1 : Int32)) (fun y_15 => if x3 = 0 then if x2 = 0 then b_X11_account_87 M_13 (0 : Int32) else bd (f_X11_moneyOn M_13 x1 (y_14 - (1 : Int32))) (fun r_30 => bd (f_X11_brought M_13 x1 (x2 - (1 : Int32))) (fun r_32 => b_X11_account_87 M_13 (r_30 + r_32))) else if (5 : Int32) ≤ x3 then bd2 (f_X11_chargeOf M_13 x1 x2) (fun r_18 M_20 => bd (f_X11_commissionOf M_20 x1 x2) (fun r_21 => if x3 = (5 : Int32) then b_X11_account_154 M_20 r_18 else if x3 = (6 : Int32) then b_X11_account_154 M_20 r_21 else bd (f_X11_moneyOn M_20 x1 y_15) (fun r_25 => b_X11_account_154 M_20 ((r_25 + r_18) - r_21)))) else bd (f_X11_sumOf M_13 x1 y_14 y_15 x3) (fun r_27 => some (r_27, M_13)))))))))
set_option maxRecDepth 20000 in
set_option maxHeartbeats 2000000 in
theorem w_X11_account_0 {x : xC} (C : CtM x RX11 cX11_account 8 ({ frames := 8, cells := 0, slots := 0, locals := 177 } : Room)) (M : xM) (x1 : Int32) (x2 : Int32) (x3 : Int32)  (o : Int32 × xM) (h : b_X11_account_0 M x1 x2 x3 = some o) (hr : (x_me x).sig.returnType = some .int) (ev : x_rv x = some (.int o.1)) (eM : x_M x = o.2) : J x M 0 [(0, .ref (x_ad x 0)), (1, .int x1), (2, .int x2), (3, .int x3)] [] := by
  unfold b_X11_account_0 at h
  refine r_aload_n C.1 0 dX11_account_0 rfl rfl ?_
  refine r_iconst (v := 0) C.1 dX11_account_1 rfl ?_
  obtain ⟨M_1, eM_1, h⟩ := lt_E h
  refine pf_X11_56 C eM_1 dX11_account_2 ?_
  refine r_aload_n C.1 0 dX11_account_5 rfl rfl ?_
  refine r_iload_n C.1 1 dX11_account_6 rfl rfl ?_
  obtain ⟨r_2, hc_3, h⟩ := bd_E h
  refine cl_X11_262 C ⟨Nat.le_of_ble_eq_true rfl, Nat.le_of_ble_eq_true rfl⟩ (m_X11_isWard _ _ _ M_1 x1 hc_3) (Nat.le_of_ble_eq_true rfl) dX11_account_7 ?_
  refine r_if_eq C.1 32 dX11_account_10 (by decide) (fun c_4 => ?_) (fun c_4 => ?_)
  · replace h := ite_T c_4 h
    exact r_sub [] rfl (w_X11_account_32 C M_1 _ h hr ev eM)
  · replace h := ite_F c_4 h
    refine r_iload_n C.1 2 dX11_account_13 rfl rfl ?_
    obtain ⟨r_5, hc_6, h⟩ := bd_E h
    refine cl_X11_315 C ⟨Nat.le_of_ble_eq_true rfl, Nat.le_of_ble_eq_true rfl⟩ (m_X11_isYear _ _ _ M_1 x2 hc_6) (Nat.le_of_ble_eq_true rfl) dX11_account_14 ?_
    refine r_if_eq C.1 32 dX11_account_17 (by decide) (fun c_7 => ?_) (fun c_7 => ?_)
    · replace h := ite_T c_7 h
      exact r_sub [] rfl (w_X11_account_32 C M_1 _ h hr ev eM)
    · replace h := ite_F c_7 h
      refine r_iload_n C.1 3 dX11_account_20 rfl rfl ?_
      refine r_i2l C.1 dX11_account_21 ?_
      refine r_lconst (v := 0) C.1 dX11_account_22 rfl ?_
      refine r_ldc2 (v := 7) C.1 kw_1673 dX11_account_23 ?_
      obtain ⟨r_8, hc_9, h⟩ := bd_E h
      refine cl_X11_67 C ⟨Nat.le_of_ble_eq_true rfl, Nat.le_of_ble_eq_true rfl⟩ (m_X11_in _ _ _ M_1 x3.toInt64 (0 : Int64) (7 : Int64) hc_9) (Nat.le_of_ble_eq_true rfl) dX11_account_26 ?_
      refine r_if_ne C.1 36 dX11_account_29 (by decide) (fun c_10 => ?_) (fun c_10 => ?_)
      · replace h := ite_F c_10 h
        refine r_aload_n C.1 0 dX11_account_36 rfl rfl ?_
        obtain ⟨M_13, hc_12, h⟩ := bd_E h
        refine cl_X11_221 C ⟨Nat.le_of_ble_eq_true rfl, Nat.le_of_ble_eq_true rfl⟩ (m_X11_lays _ _ _ M_1 hc_12) (Nat.le_of_ble_eq_true rfl) dX11_account_37 ?_
        refine r_sipush (v := 360) C.1 dX11_account_40 (by decide) ?_
        refine r_iload_n C.1 2 dX11_account_43 rfl rfl ?_
        refine r_imul C.1 dX11_account_44 ?_
        obtain ⟨y_14, ey_14, h⟩ := lt_E h
        refine r_istore C.1 [(4, .int y_14), (0, .ref (x_ad x 0)), (1, .int x1), (2, .int x2), (3, .int x3)] dX11_account_45 (by decide) ey_14 rfl ?_
        refine r_iload C.1 0 dX11_account_47 rfl ?_
        refine r_sipush (v := 360) C.1 dX11_account_49 (by decide) ?_
        refine r_iadd C.1 dX11_account_52 ?_
        refine r_iconst (v := 1) C.1 dX11_account_53 rfl ?_
        refine r_isub C.1 dX11_account_54 ?_
        obtain ⟨y_15, ey_15, h⟩ := lt_E h
        refine r_istore C.1 [(5, .int y_15), (4, .int y_14), (0, .ref (x_ad x 0)), (1, .int x1), (2, .int x2), (3, .int x3)] dX11_account_55 (by decide) ey_15 rfl ?_
        refine r_iload_n C.1 5 dX11_account_57 rfl rfl ?_
        refine r_if_ne C.1 88 dX11_account_58 (by decide) (fun c_16 => ?_) (fun c_16 => ?_)
        · replace h := ite_F c_16 h
          refine r_iload_n C.1 5 dX11_account_88 rfl rfl ?_
          refine r_iconst (v := 5) C.1 dX11_account_89 rfl ?_
          refine r_icmp_ge C.1 104 dX11_account_90 (by decide) (fun c_17 => ?_) (fun c_17 => ?_)
          · replace h := ite_T c_17 h
            refine r_aload_n C.1 2 dX11_account_104 rfl rfl ?_
            refine r_iload_n C.1 3 dX11_account_105 rfl rfl ?_
            refine r_iload_n C.1 4 dX11_account_106 rfl rfl ?_
            obtain ⟨r_18, M_20, hc_19, h⟩ := bd2_E h
            refine cl_X11_299 C ⟨Nat.le_of_ble_eq_true rfl, Nat.le_of_ble_eq_true rfl⟩ (m_X11_chargeOf _ _ _ M_13 x1 x2 hc_19) (Nat.le_of_ble_eq_true rfl) dX11_account_107 ?_
            refine r_istore C.1 [(6, .int r_18), (5, .int y_15), (4, .int y_14), (0, .ref (x_ad x 0)), (1, .int x1), (2, .int x2), (3, .int x3)] dX11_account_110 (by decide) rfl rfl ?_
            refine r_aload_n C.1 3 dX11_account_112 rfl rfl ?_
            refine r_iload_n C.1 4 dX11_account_113 rfl rfl ?_
            refine r_iload_n C.1 5 dX11_account_114 rfl rfl ?_
            obtain ⟨r_21, hc_22, h⟩ := bd_E h
            refine cl_X11_302 C ⟨Nat.le_of_ble_eq_true rfl, Nat.le_of_ble_eq_true rfl⟩ (m_X11_commissionOf _ _ _ M_20 x1 x2 hc_22) (Nat.le_of_ble_eq_true rfl) dX11_account_115 ?_
            refine r_istore C.1 [(7, .int r_21), (6, .int r_18), (5, .int y_15), (4, .int y_14), (0, .ref (x_ad x 0)), (1, .int x1), (2, .int x2), (3, .int x3)] dX11_account_118 (by decide) rfl rfl ?_
            refine r_iload_n C.1 7 dX11_account_120 rfl rfl ?_
            refine r_iconst (v := 5) C.1 dX11_account_121 rfl ?_
            refine r_icmp_ne C.1 130 dX11_account_122 (by decide) (fun c_23 => ?_) (fun c_23 => ?_)
            · replace h := ite_F c_23 h
              refine r_iload_n C.1 7 dX11_account_130 rfl rfl ?_
              refine r_bipush (v := 6) C.1 dX11_account_131 (by decide) ?_
              refine r_icmp_ne C.1 141 dX11_account_133 (by decide) (fun c_24 => ?_) (fun c_24 => ?_)
              · replace h := ite_F c_24 h
                refine r_aload_n C.1 4 dX11_account_141 rfl rfl ?_
                refine r_iload_n C.1 5 dX11_account_142 rfl rfl ?_
                refine r_iload C.1 2 dX11_account_143 rfl ?_
                obtain ⟨r_25, hc_26, h⟩ := bd_E h
                refine cl_X11_290 C ⟨Nat.le_of_ble_eq_true rfl, Nat.le_of_ble_eq_true rfl⟩ (m_X11_moneyOn _ _ _ M_20 x1 y_15 hc_26) (Nat.le_of_ble_eq_true rfl) dX11_account_145 ?_
                refine r_iload C.1 1 dX11_account_148 rfl ?_
                refine r_iadd C.1 dX11_account_150 ?_
                refine r_iload C.1 0 dX11_account_151 rfl ?_
                refine r_isub C.1 dX11_account_153 ?_
                exact r_sub [] rfl (w_X11_account_154 C M_20 ((r_25 + r_18) - r_21) _ h hr ev eM)
              · replace h := ite_T c_24 h
                refine r_iload C.1 0 dX11_account_136 rfl ?_
                refine r_goto C.1 154 dX11_account_138 (by decide) ?_
                exact r_sub [] rfl (w_X11_account_154 C M_20 r_21 _ h hr ev eM)
            · replace h := ite_T c_23 h
              refine r_iload C.1 1 dX11_account_125 rfl ?_
              refine r_goto C.1 154 dX11_account_127 (by decide) ?_
              exact r_sub [] rfl (w_X11_account_154 C M_20 r_18 _ h hr ev eM)
          · replace h := ite_F c_17 h
            refine r_aload_n C.1 2 dX11_account_93 rfl rfl ?_
            refine r_iload_n C.1 3 dX11_account_94 rfl rfl ?_
            refine r_iload C.1 1 dX11_account_95 rfl ?_
            refine r_iload C.1 0 dX11_account_97 rfl ?_
            refine r_iload_n C.1 5 dX11_account_99 rfl rfl ?_
            obtain ⟨r_27, hc_28, h⟩ := bd_E h
            refine cl_X11_240 C ⟨Nat.le_of_ble_eq_true rfl, Nat.le_of_ble_eq_true rfl⟩ (m_X11_sumOf _ _ _ M_13 x1 y_14 y_15 x3 hc_28) (Nat.le_of_ble_eq_true rfl) dX11_account_100 ?_
            obtain rfl := Option.some.inj h
            exact r_iret C.1 hr ev eM dX11_account_103
        · replace h := ite_T c_16 h
          refine r_iload_n C.1 4 dX11_account_61 rfl rfl ?_
          refine r_if_ne C.1 69 dX11_account_62 (by decide) (fun c_29 => ?_) (fun c_29 => ?_)
          · replace h := ite_F c_29 h
            refine r_aload_n C.1 2 dX11_account_69 rfl rfl ?_
            refine r_iload_n C.1 3 dX11_account_70 rfl rfl ?_
            refine r_iload C.1 1 dX11_account_71 rfl ?_
            refine r_iconst (v := 1) C.1 dX11_account_73 rfl ?_
            refine r_isub C.1 dX11_account_74 ?_
            obtain ⟨r_30, hc_31, h⟩ := bd_E h
            refine cl_X11_290 C ⟨Nat.le_of_ble_eq_true rfl, Nat.le_of_ble_eq_true rfl⟩ (m_X11_moneyOn _ _ _ M_13 x1 (y_14 - (1 : Int32)) hc_31) (Nat.le_of_ble_eq_true rfl) dX11_account_75 ?_
            refine r_aload_n C.1 2 dX11_account_78 rfl rfl ?_
            refine r_iload_n C.1 3 dX11_account_79 rfl rfl ?_
            refine r_iload_n C.1 4 dX11_account_80 rfl rfl ?_
            refine r_iconst (v := 1) C.1 dX11_account_81 rfl ?_
            refine r_isub C.1 dX11_account_82 ?_
            obtain ⟨r_32, hc_33, h⟩ := bd_E h
            refine cl_X11_218 C ⟨Nat.le_of_ble_eq_true rfl, Nat.le_of_ble_eq_true rfl⟩ (m_X11_brought _ _ _ M_13 x1 (x2 - (1 : Int32)) hc_33) (Nat.le_of_ble_eq_true rfl) dX11_account_83 ?_
            refine r_iadd C.1 dX11_account_86 ?_
            exact r_sub [] rfl (w_X11_account_87 C M_13 (r_30 + r_32) _ h hr ev eM)
          · replace h := ite_T c_29 h
            refine r_iconst (v := 0) C.1 dX11_account_65 rfl ?_
            refine r_goto C.1 87 dX11_account_66 (by decide) ?_
            exact r_sub [] rfl (w_X11_account_87 C M_13 (0 : Int32) _ h hr ev eM)
      · replace h := ite_T c_10 h
        exact r_sub [] rfl (w_X11_account_32 C M_1 _ h hr ev eM)
def f_X11_account (M : xM) (x1 : Int32) (x2 : Int32) (x3 : Int32) : Option (Int32 × xM) := b_X11_account_0 M x1 x2 x3
set_option maxRecDepth 20000 in
theorem m_X11_account (l : Launch) (D : va_G) (ad : Nat → Nat) (M : xM) (x1 : Int32) (x2 : Int32) (x3 : Int32)  {r : Int32} {M1 : xM} (h : f_X11_account M x1 x2 x3 = some (r, M1)) : xMetM l yX11_account cX11_account 8 (some .int) ({ frames := 8, cells := 0, slots := 0, locals := 177 } : Room) [.ref (ad 0), .int x1, .int x2, .int x3] D ad M (some (.int r)) M1 := by
  refine xMetM_of (own := RX11) (by decide) rfl (Nat.le_of_ble_eq_true rfl) ?_
  intro x C e1 e2 e3 ev eM hr
  subst e1; subst e2; subst e3
  refine r_sub (L := [(0, .ref (x_ad x 0)), (1, .int x1), (2, .int x2), (3, .int x3)]) (L' := [(0, .ref (x_ad x 0)), (1, .int x1), (2, .int x2), (3, .int x3)]) [0, 1, 2, 3] rfl ?_
  exact w_X11_account_0 C M x1 x2 x3 _ h hr ev eM

def b_X11_dayOf_78 (M : xM) (x2 : Int32) (x3 : Int32) (x5 : Int32) (s0 : Int32) : Option ((Int32 × Int32) ⊕ (Int32)) :=
  lt (x5 + (1 : Int32)) (fun y_1 => some (.inl (s0, y_1)))
set_option maxRecDepth 20000 in
set_option maxHeartbeats 2000000 in
theorem w_X11_dayOf_78 {x : xC} (C : CtM x RX11 cX11_dayOf 7 ({ frames := 0, cells := 0, slots := 0, locals := 0 } : Room)) (M : xM) (x2 : Int32) (x3 : Int32) (x5 : Int32) (s0 : Int32)  (o : (Int32 × Int32) ⊕ (Int32)) (h : b_X11_dayOf_78 M x2 x3 x5 s0 = some o) (kh : ∀ s : Int32 × Int32, o = .inl s → J x M 6 [(0, .ref (x_ad x 0)), (2, .int x2), (3, .int x3), (4, .int s.1), (5, .int s.2)] []) (ke_0 : ∀ v : Int32, o = .inr v → J x M 86 [(4, .int v)] []) : J x M 78 [(0, .ref (x_ad x 0)), (2, .int x2), (3, .int x3), (5, .int x5)] [.int s0] := by
  unfold b_X11_dayOf_78 at h
  refine r_istore C.1 [(4, .int s0), (0, .ref (x_ad x 0)), (2, .int x2), (3, .int x3), (5, .int x5)] dX11_dayOf_78 (by decide) rfl rfl ?_
  obtain ⟨y_1, ey_1, h⟩ := lt_E h
  refine r_iinc C.1 4 [(5, .int y_1), (4, .int s0), (0, .ref (x_ad x 0)), (2, .int x2), (3, .int x3)] dX11_dayOf_80 rfl ey_1 (by decide) rfl ?_
  refine r_goto C.1 6 dX11_dayOf_83 (by decide) ?_
  exact r_sub [2, 3, 4, 1, 0] rfl (kh _ (Option.some.inj h).symm)

def bl_X11_dayOf_6 (M : xM) (x2 : Int32) (x3 : Int32) (x4 : Int32) (x5 : Int32) : Option ((Int32 × Int32) ⊕ (Int32)) :=
  if x2 < x5 then some (.inr x4) else gd ((360 : Int32) + x5) 3960 (lt (M 9 ((360 : Int32) + x5).toNatClampNeg) (fun y_3 => if x3 = 0 then gd ((360 : Int32) + x4) 3960 (if (M 9 ((360 : Int32) + x4).toNatClampNeg) ≤ y_3 then b_X11_dayOf_78 M x2 x3 x5 x4 else b_X11_dayOf_78 M x2 x3 x5 x5) else gd ((360 : Int32) + x4) 3960 (if y_3 ≤ (M 9 ((360 : Int32) + x4).toNatClampNeg) then b_X11_dayOf_78 M x2 x3 x5 x4 else b_X11_dayOf_78 M x2 x3 x5 x5)))
set_option maxRecDepth 20000 in
set_option maxHeartbeats 2000000 in
theorem wl_X11_dayOf_6 {x : xC} (C : CtM x RX11 cX11_dayOf 7 ({ frames := 0, cells := 0, slots := 0, locals := 0 } : Room)) (M : xM) (x2 : Int32) (x3 : Int32) (x4 : Int32) (x5 : Int32)  (o : (Int32 × Int32) ⊕ (Int32)) (h : bl_X11_dayOf_6 M x2 x3 x4 x5 = some o) (kh : ∀ s : Int32 × Int32, o = .inl s → J x M 6 [(0, .ref (x_ad x 0)), (2, .int x2), (3, .int x3), (4, .int s.1), (5, .int s.2)] []) (ke_0 : ∀ v : Int32, o = .inr v → J x M 86 [(4, .int v)] []) : J x M 6 [(0, .ref (x_ad x 0)), (2, .int x2), (3, .int x3), (4, .int x4), (5, .int x5)] [] := by
  unfold bl_X11_dayOf_6 at h
  refine r_iload C.1 4 dX11_dayOf_6 rfl ?_
  refine r_iload_n C.1 1 dX11_dayOf_8 rfl rfl ?_
  refine r_icmp_gt C.1 86 dX11_dayOf_9 (by decide) (fun c_1 => ?_) (fun c_1 => ?_)
  · replace h := ite_T c_1 h
    exact r_sub [3] rfl (ke_0 _ (Option.some.inj h).symm)
  · replace h := ite_F c_1 h
    refine r_aload_n C.1 0 dX11_dayOf_12 rfl rfl ?_
    refine gf_X11_34 C dX11_dayOf_13 ?_
    refine r_sipush (v := 360) C.1 dX11_dayOf_16 (by decide) ?_
    refine r_iload C.1 4 dX11_dayOf_19 rfl ?_
    refine r_iadd C.1 dX11_dayOf_21 ?_
    obtain ⟨q_2, h⟩ := gd_E h
    refine r_iald C.1 (mK C (by decide)) (mS C (shm_9)) 0 (mT0 C) q_2 dX11_dayOf_22 ?_
    obtain ⟨y_3, ey_3, h⟩ := lt_E h
    refine r_istore C.1 [(6, .int y_3), (0, .ref (x_ad x 0)), (2, .int x2), (3, .int x3), (4, .int x4), (5, .int x5)] dX11_dayOf_23 (by decide) ey_3 rfl ?_
    refine r_iload_n C.1 3 dX11_dayOf_25 rfl rfl ?_
    refine r_if_eq C.1 55 dX11_dayOf_26 (by decide) (fun c_4 => ?_) (fun c_4 => ?_)
    · replace h := ite_T c_4 h
      refine r_iload C.1 0 dX11_dayOf_55 rfl ?_
      refine r_aload_n C.1 1 dX11_dayOf_57 rfl rfl ?_
      refine gf_X11_34 C dX11_dayOf_58 ?_
      refine r_sipush (v := 360) C.1 dX11_dayOf_61 (by decide) ?_
      refine r_iload C.1 4 dX11_dayOf_64 rfl ?_
      refine r_iadd C.1 dX11_dayOf_66 ?_
      obtain ⟨q_5, h⟩ := gd_E h
      refine r_iald C.1 (mK C (by decide)) (mS C (shm_9)) 0 (mT0 C) q_5 dX11_dayOf_67 ?_
      refine r_icmp_ge C.1 76 dX11_dayOf_68 (by decide) (fun c_6 => ?_) (fun c_6 => ?_)
      · replace h := ite_T c_6 h
        refine r_iload C.1 4 dX11_dayOf_76 rfl ?_
        exact r_sub [1, 2, 3, 5] rfl (w_X11_dayOf_78 C M x2 x3 x5 x4 _ h kh ke_0)
      · replace h := ite_F c_6 h
        refine r_iload C.1 5 dX11_dayOf_71 rfl ?_
        refine r_goto C.1 78 dX11_dayOf_73 (by decide) ?_
        exact r_sub [1, 2, 3, 5] rfl (w_X11_dayOf_78 C M x2 x3 x5 x5 _ h kh ke_0)
    · replace h := ite_F c_4 h
      refine r_iload C.1 0 dX11_dayOf_29 rfl ?_
      refine r_aload_n C.1 1 dX11_dayOf_31 rfl rfl ?_
      refine gf_X11_34 C dX11_dayOf_32 ?_
      refine r_sipush (v := 360) C.1 dX11_dayOf_35 (by decide) ?_
      refine r_iload C.1 4 dX11_dayOf_38 rfl ?_
      refine r_iadd C.1 dX11_dayOf_40 ?_
      obtain ⟨q_7, h⟩ := gd_E h
      refine r_iald C.1 (mK C (by decide)) (mS C (shm_9)) 0 (mT0 C) q_7 dX11_dayOf_41 ?_
      refine r_icmp_le C.1 50 dX11_dayOf_42 (by decide) (fun c_8 => ?_) (fun c_8 => ?_)
      · replace h := ite_T c_8 h
        refine r_iload C.1 4 dX11_dayOf_50 rfl ?_
        refine r_goto C.1 78 dX11_dayOf_52 (by decide) ?_
        exact r_sub [1, 2, 3, 5] rfl (w_X11_dayOf_78 C M x2 x3 x5 x4 _ h kh ke_0)
      · replace h := ite_F c_8 h
        refine r_iload C.1 5 dX11_dayOf_45 rfl ?_
        refine r_goto C.1 78 dX11_dayOf_47 (by decide) ?_
        exact r_sub [1, 2, 3, 5] rfl (w_X11_dayOf_78 C M x2 x3 x5 x5 _ h kh ke_0)

def b_X11_dayOf_6 (M : xM) (x2 : Int32) (x3 : Int32) (x4 : Int32) (x5 : Int32) : Option (Int32) :=
  bd (loopN (fun s : Int32 × Int32 => bl_X11_dayOf_6 M x2 x3 s.1 s.2) BG (x4, x5)) (fun v => some v)
set_option maxRecDepth 20000 in
set_option maxHeartbeats 2000000 in
theorem w_X11_dayOf_6 {x : xC} (C : CtM x RX11 cX11_dayOf 7 ({ frames := 0, cells := 0, slots := 0, locals := 0 } : Room)) (M : xM) (x2 : Int32) (x3 : Int32) (x4 : Int32) (x5 : Int32)  (o : Int32) (h : b_X11_dayOf_6 M x2 x3 x4 x5 = some o) (hr : (x_me x).sig.returnType = some .int) (ev : x_rv x = some (.int o)) (eM : x_M x = M) : J x M 6 [(0, .ref (x_ad x 0)), (2, .int x2), (3, .int x3), (4, .int x4), (5, .int x5)] [] := by
  unfold b_X11_dayOf_6 at h
  obtain ⟨r_0, hr_0, h⟩ := bd_E h
  refine loopN_ind (JJ := fun s => J x M 6 [(0, .ref (x_ad x 0)), (2, .int x2), (3, .int x3), (4, .int s.1), (5, .int s.2)] []) (KX := fun q => q = r_0) ?_ BG (x4, x5) r_0 hr_0 rfl
  intro s o1 hb kk1 kk2
  refine wl_X11_dayOf_6 C M x2 x3 s.1 s.2 _ hb kk1 ?_
  · intro v e0
    have e1 := kk2 _ e0
    subst e1
    refine r_iload C.1 0 dX11_dayOf_86 rfl ?_
    obtain rfl := Option.some.inj h
    exact r_iret C.1 hr ev eM dX11_dayOf_88

def b_X11_dayOf_0 (M : xM) (x1 : Int32) (x2 : Int32) (x3 : Int32) : Option (Int32) :=
  b_X11_dayOf_6 M x2 x3 x1 x1
set_option maxRecDepth 20000 in
set_option maxHeartbeats 2000000 in
theorem w_X11_dayOf_0 {x : xC} (C : CtM x RX11 cX11_dayOf 7 ({ frames := 0, cells := 0, slots := 0, locals := 0 } : Room)) (M : xM) (x1 : Int32) (x2 : Int32) (x3 : Int32)  (o : Int32) (h : b_X11_dayOf_0 M x1 x2 x3 = some o) (hr : (x_me x).sig.returnType = some .int) (ev : x_rv x = some (.int o)) (eM : x_M x = M) : J x M 0 [(0, .ref (x_ad x 0)), (1, .int x1), (2, .int x2), (3, .int x3)] [] := by
  unfold b_X11_dayOf_0 at h
  refine r_iload_n C.1 1 dX11_dayOf_0 rfl rfl ?_
  refine r_istore C.1 [(4, .int x1), (0, .ref (x_ad x 0)), (1, .int x1), (2, .int x2), (3, .int x3)] dX11_dayOf_1 (by decide) rfl rfl ?_
  refine r_iload_n C.1 2 dX11_dayOf_3 rfl rfl ?_
  refine r_istore C.1 [(5, .int x1), (4, .int x1), (0, .ref (x_ad x 0)), (1, .int x1), (2, .int x2), (3, .int x3)] dX11_dayOf_4 (by decide) rfl rfl ?_
  exact r_sub [2, 4, 5, 1, 0] rfl (w_X11_dayOf_6 C M x2 x3 x1 x1 _ h hr ev eM)
def f_X11_dayOf (M : xM) (x1 : Int32) (x2 : Int32) (x3 : Int32) : Option (Int32) := b_X11_dayOf_0 M x1 x2 x3
set_option maxRecDepth 20000 in
theorem m_X11_dayOf (l : Launch) (D : va_G) (ad : Nat → Nat) (M : xM) (x1 : Int32) (x2 : Int32) (x3 : Int32)  {o : Int32} (h : f_X11_dayOf M x1 x2 x3 = some o) : xMetM l yX11_dayOf cX11_dayOf 7 (some .int) ({ frames := 0, cells := 0, slots := 0, locals := 0 } : Room) [.ref (ad 0), .int x1, .int x2, .int x3] D ad M (some (.int o)) M := by
  refine xMetM_of (own := RX11) (by decide) rfl (Nat.le_of_ble_eq_true rfl) ?_
  intro x C e1 e2 e3 ev eM hr
  subst e1; subst e2; subst e3
  refine r_sub (L := [(0, .ref (x_ad x 0)), (1, .int x1), (2, .int x2), (3, .int x3)]) (L' := [(0, .ref (x_ad x 0)), (1, .int x1), (2, .int x2), (3, .int x3)]) [0, 1, 2, 3] rfl ?_
  exact w_X11_dayOf_0 C M x1 x2 x3 _ h hr ev eM

def b_X11_month_106 (M : xM) (s0 : Int32) : Option (Int32 × xM) :=
  some (s0, M)
set_option maxRecDepth 20000 in
set_option maxHeartbeats 2000000 in
theorem w_X11_month_106 {x : xC} (C : CtM x RX11 cX11_month 6 ({ frames := 7, cells := 0, slots := 0, locals := 155 } : Room)) (M : xM) (s0 : Int32)  (o : Int32 × xM) (h : b_X11_month_106 M s0 = some o) (hr : (x_me x).sig.returnType = some .int) (ev : x_rv x = some (.int o.1)) (eM : x_M x = o.2) : J x M 106 [] [.int s0] := by
  unfold b_X11_month_106 at h
  obtain rfl := Option.some.inj h
  exact r_iret C.1 hr ev eM dX11_month_106

def b_X11_month_101 (M : xM) (s0 : Int32) (s1 : Int32) (s2 : Int32) (s4 : Int32) : Option (Int32 × xM) :=
  bd (f_X11_dayOf M s2 s1 s0) (fun r_1 => gd (s4 + r_1) 3960 (b_X11_month_106 M (M 9 (s4 + r_1).toNatClampNeg)))
set_option maxRecDepth 20000 in
set_option maxHeartbeats 2000000 in
theorem w_X11_month_101 {x : xC} (C : CtM x RX11 cX11_month 6 ({ frames := 7, cells := 0, slots := 0, locals := 155 } : Room)) (M : xM) (s0 : Int32) (s1 : Int32) (s2 : Int32) (s4 : Int32)  (o : Int32 × xM) (h : b_X11_month_101 M s0 s1 s2 s4 = some o) (hr : (x_me x).sig.returnType = some .int) (ev : x_rv x = some (.int o.1)) (eM : x_M x = o.2) : J x M 101 [] [.int s0, .int s1, .int s2, .ref (x_ad x 0), .int s4, .ref (x_ad x 9)] := by
  unfold b_X11_month_101 at h
  obtain ⟨r_1, hc_2, h⟩ := bd_E h
  refine cl_X11_324 C ⟨Nat.le_of_ble_eq_true rfl, Nat.le_of_ble_eq_true rfl⟩ (m_X11_dayOf _ _ _ M s2 s1 s0 hc_2) (Nat.le_of_ble_eq_true rfl) dX11_month_101 ?_
  refine r_iadd C.1 dX11_month_104 ?_
  obtain ⟨q_3, h⟩ := gd_E h
  refine r_iald C.1 (mK C (by decide)) (mS C (shm_9)) 0 (mT0 C) q_3 dX11_month_105 ?_
  exact r_sub [] rfl (w_X11_month_106 C M (M 9 (s4 + r_1).toNatClampNeg) _ h hr ev eM)

def b_X11_month_37 (M : xM)  : Option (Int32 × xM) :=
  some ((-1000000000 : Int32), M)
set_option maxRecDepth 20000 in
set_option maxHeartbeats 2000000 in
theorem w_X11_month_37 {x : xC} (C : CtM x RX11 cX11_month 6 ({ frames := 7, cells := 0, slots := 0, locals := 155 } : Room)) (M : xM)   (o : Int32 × xM) (h : b_X11_month_37 M = some o) (hr : (x_me x).sig.returnType = some .int) (ev : x_rv x = some (.int o.1)) (eM : x_M x = o.2) : J x M 37 [] [] := by
  unfold b_X11_month_37 at h
  refine r_ldcw (v := -1000000000) C.1 kw_1631 dX11_month_37 ?_
  obtain rfl := Option.some.inj h
  exact r_iret C.1 hr ev eM dX11_month_40

def b_X11_month_0 (M : xM) (x1 : Int32) (x2 : Int32) (x3 : Int32) : Option (Int32 × xM) :=
  lt (uM M 0 0 (0 : Int32)) (fun M_1 => bd (f_X11_isWard M_1 x1) (fun r_2 => if r_2 = 0 then b_X11_month_37 M_1 else bd (f_X11_in M_1 x2.toInt64 (0 : Int64) (119 : Int64)) (fun r_5 => if r_5 = 0 then b_X11_month_37 M_1 else bd (f_X11_in M_1 x3.toInt64 (0 : Int64) (3 : Int64)) (fun r_8 => if r_8 = 0 then b_X11_month_37 M_1 else bd (f_X11_laysMoney M_1 x1) (fun M_13 => lt ((30 : Int32) * x2) (fun y_14 => lt (y_14 + (29 : Int32)) (fun y_15 => if (2 : Int32) ≤ x3 then if x3 = (3 : Int32) then b_X11_month_101 M_13 (1 : Int32) y_15 y_14 (360 : Int32) else b_X11_month_101 M_13 (0 : Int32) y_15 y_14 (360 : Int32) else bd (f_X11_sumOf M_13 x1 y_14 y_15 (x3 + (1 : Int32))) (fun r_18 => b_X11_month_106 M_13 r_18))))))))
set_option maxRecDepth 20000 in
set_option maxHeartbeats 2000000 in
theorem w_X11_month_0 {x : xC} (C : CtM x RX11 cX11_month 6 ({ frames := 7, cells := 0, slots := 0, locals := 155 } : Room)) (M : xM) (x1 : Int32) (x2 : Int32) (x3 : Int32)  (o : Int32 × xM) (h : b_X11_month_0 M x1 x2 x3 = some o) (hr : (x_me x).sig.returnType = some .int) (ev : x_rv x = some (.int o.1)) (eM : x_M x = o.2) : J x M 0 [(0, .ref (x_ad x 0)), (1, .int x1), (2, .int x2), (3, .int x3)] [] := by
  unfold b_X11_month_0 at h
  refine r_aload_n C.1 0 dX11_month_0 rfl rfl ?_
  refine r_iconst (v := 0) C.1 dX11_month_1 rfl ?_
  obtain ⟨M_1, eM_1, h⟩ := lt_E h
  refine pf_X11_56 C eM_1 dX11_month_2 ?_
  refine r_aload_n C.1 0 dX11_month_5 rfl rfl ?_
  refine r_iload_n C.1 1 dX11_month_6 rfl rfl ?_
  obtain ⟨r_2, hc_3, h⟩ := bd_E h
  refine cl_X11_262 C ⟨Nat.le_of_ble_eq_true rfl, Nat.le_of_ble_eq_true rfl⟩ (m_X11_isWard _ _ _ M_1 x1 hc_3) (Nat.le_of_ble_eq_true rfl) dX11_month_7 ?_
  refine r_if_eq C.1 37 dX11_month_10 (by decide) (fun c_4 => ?_) (fun c_4 => ?_)
  · replace h := ite_T c_4 h
    exact r_sub [] rfl (w_X11_month_37 C M_1 _ h hr ev eM)
  · replace h := ite_F c_4 h
    refine r_iload_n C.1 2 dX11_month_13 rfl rfl ?_
    refine r_i2l C.1 dX11_month_14 ?_
    refine r_lconst (v := 0) C.1 dX11_month_15 rfl ?_
    refine r_ldc2 (v := 119) C.1 kw_1678 dX11_month_16 ?_
    obtain ⟨r_5, hc_6, h⟩ := bd_E h
    refine cl_X11_67 C ⟨Nat.le_of_ble_eq_true rfl, Nat.le_of_ble_eq_true rfl⟩ (m_X11_in _ _ _ M_1 x2.toInt64 (0 : Int64) (119 : Int64) hc_6) (Nat.le_of_ble_eq_true rfl) dX11_month_19 ?_
    refine r_if_eq C.1 37 dX11_month_22 (by decide) (fun c_7 => ?_) (fun c_7 => ?_)
    · replace h := ite_T c_7 h
      exact r_sub [] rfl (w_X11_month_37 C M_1 _ h hr ev eM)
    · replace h := ite_F c_7 h
      refine r_iload_n C.1 3 dX11_month_25 rfl rfl ?_
      refine r_i2l C.1 dX11_month_26 ?_
      refine r_lconst (v := 0) C.1 dX11_month_27 rfl ?_
      refine r_ldc2 (v := 3) C.1 kw_1483 dX11_month_28 ?_
      obtain ⟨r_8, hc_9, h⟩ := bd_E h
      refine cl_X11_67 C ⟨Nat.le_of_ble_eq_true rfl, Nat.le_of_ble_eq_true rfl⟩ (m_X11_in _ _ _ M_1 x3.toInt64 (0 : Int64) (3 : Int64) hc_9) (Nat.le_of_ble_eq_true rfl) dX11_month_31 ?_
      refine r_if_ne C.1 41 dX11_month_34 (by decide) (fun c_10 => ?_) (fun c_10 => ?_)
      · replace h := ite_F c_10 h
        refine r_aload_n C.1 0 dX11_month_41 rfl rfl ?_
        refine r_iload_n C.1 1 dX11_month_42 rfl rfl ?_
        obtain ⟨M_13, hc_12, h⟩ := bd_E h
        refine cl_X11_230 C ⟨Nat.le_of_ble_eq_true rfl, Nat.le_of_ble_eq_true rfl⟩ (m_X11_laysMoney _ _ _ M_1 x1 hc_12) (Nat.le_of_ble_eq_true rfl) dX11_month_43 ?_
        refine r_bipush (v := 30) C.1 dX11_month_46 (by decide) ?_
        refine r_iload_n C.1 2 dX11_month_48 rfl rfl ?_
        refine r_imul C.1 dX11_month_49 ?_
        obtain ⟨y_14, ey_14, h⟩ := lt_E h
        refine r_istore C.1 [(4, .int y_14), (0, .ref (x_ad x 0)), (1, .int x1), (2, .int x2), (3, .int x3)] dX11_month_50 (by decide) ey_14 rfl ?_
        refine r_iload C.1 0 dX11_month_52 rfl ?_
        refine r_bipush (v := 29) C.1 dX11_month_54 (by decide) ?_
        refine r_iadd C.1 dX11_month_56 ?_
        obtain ⟨y_15, ey_15, h⟩ := lt_E h
        refine r_istore C.1 [(5, .int y_15), (4, .int y_14), (0, .ref (x_ad x 0)), (1, .int x1), (2, .int x2), (3, .int x3)] dX11_month_57 (by decide) ey_15 rfl ?_
        refine r_iload_n C.1 5 dX11_month_59 rfl rfl ?_
        refine r_iconst (v := 2) C.1 dX11_month_60 rfl ?_
        refine r_icmp_ge C.1 79 dX11_month_61 (by decide) (fun c_16 => ?_) (fun c_16 => ?_)
        · replace h := ite_T c_16 h
          refine r_aload_n C.1 2 dX11_month_79 rfl rfl ?_
          refine gf_X11_34 C dX11_month_80 ?_
          refine r_sipush (v := 360) C.1 dX11_month_83 (by decide) ?_
          refine r_aload_n C.1 2 dX11_month_86 rfl rfl ?_
          refine r_iload C.1 1 dX11_month_87 rfl ?_
          refine r_iload C.1 0 dX11_month_89 rfl ?_
          refine r_iload_n C.1 5 dX11_month_91 rfl rfl ?_
          refine r_iconst (v := 3) C.1 dX11_month_92 rfl ?_
          refine r_icmp_ne C.1 100 dX11_month_93 (by decide) (fun c_17 => ?_) (fun c_17 => ?_)
          · replace h := ite_F c_17 h
            refine r_iconst (v := 0) C.1 dX11_month_100 rfl ?_
            exact r_sub [] rfl (w_X11_month_101 C M_13 (0 : Int32) y_15 y_14 (360 : Int32) _ h hr ev eM)
          · replace h := ite_T c_17 h
            refine r_iconst (v := 1) C.1 dX11_month_96 rfl ?_
            refine r_goto C.1 101 dX11_month_97 (by decide) ?_
            exact r_sub [] rfl (w_X11_month_101 C M_13 (1 : Int32) y_15 y_14 (360 : Int32) _ h hr ev eM)
        · replace h := ite_F c_16 h
          refine r_aload_n C.1 2 dX11_month_64 rfl rfl ?_
          refine r_iload_n C.1 3 dX11_month_65 rfl rfl ?_
          refine r_iload C.1 1 dX11_month_66 rfl ?_
          refine r_iload C.1 0 dX11_month_68 rfl ?_
          refine r_iload_n C.1 5 dX11_month_70 rfl rfl ?_
          refine r_iconst (v := 1) C.1 dX11_month_71 rfl ?_
          refine r_iadd C.1 dX11_month_72 ?_
          obtain ⟨r_18, hc_19, h⟩ := bd_E h
          refine cl_X11_240 C ⟨Nat.le_of_ble_eq_true rfl, Nat.le_of_ble_eq_true rfl⟩ (m_X11_sumOf _ _ _ M_13 x1 y_14 y_15 (x3 + (1 : Int32)) hc_19) (Nat.le_of_ble_eq_true rfl) dX11_month_73 ?_
          refine r_goto C.1 106 dX11_month_76 (by decide) ?_
          exact r_sub [] rfl (w_X11_month_106 C M_13 r_18 _ h hr ev eM)
      · replace h := ite_T c_10 h
        exact r_sub [] rfl (w_X11_month_37 C M_1 _ h hr ev eM)
def f_X11_month (M : xM) (x1 : Int32) (x2 : Int32) (x3 : Int32) : Option (Int32 × xM) := b_X11_month_0 M x1 x2 x3
set_option maxRecDepth 20000 in
theorem m_X11_month (l : Launch) (D : va_G) (ad : Nat → Nat) (M : xM) (x1 : Int32) (x2 : Int32) (x3 : Int32)  {r : Int32} {M1 : xM} (h : f_X11_month M x1 x2 x3 = some (r, M1)) : xMetM l yX11_month cX11_month 6 (some .int) ({ frames := 7, cells := 0, slots := 0, locals := 155 } : Room) [.ref (ad 0), .int x1, .int x2, .int x3] D ad M (some (.int r)) M1 := by
  refine xMetM_of (own := RX11) (by decide) rfl (Nat.le_of_ble_eq_true rfl) ?_
  intro x C e1 e2 e3 ev eM hr
  subst e1; subst e2; subst e3
  refine r_sub (L := [(0, .ref (x_ad x 0)), (1, .int x1), (2, .int x2), (3, .int x3)]) (L' := [(0, .ref (x_ad x 0)), (1, .int x1), (2, .int x2), (3, .int x3)]) [0, 1, 2, 3] rfl ?_
  exact w_X11_month_0 C M x1 x2 x3 _ h hr ev eM

def b_X11_extreme_32 (M : xM)  : Option (Int32 × xM) :=
  some ((-1000000000 : Int32), M)
set_option maxRecDepth 20000 in
set_option maxHeartbeats 2000000 in
theorem w_X11_extreme_32 {x : xC} (C : CtM x RX11 cX11_extreme 8 ({ frames := 7, cells := 0, slots := 0, locals := 155 } : Room)) (M : xM)   (o : Int32 × xM) (h : b_X11_extreme_32 M = some o) (hr : (x_me x).sig.returnType = some .int) (ev : x_rv x = some (.int o.1)) (eM : x_M x = o.2) : J x M 32 [] [] := by
  unfold b_X11_extreme_32 at h
  refine r_ldcw (v := -1000000000) C.1 kw_1631 dX11_extreme_32 ?_
  obtain rfl := Option.some.inj h
  exact r_iret C.1 hr ev eM dX11_extreme_35

def b_X11_extreme_77 (M : xM) (s0 : Int32) (s1 : Int32) (s2 : Int32) : Option (Int32 × xM) :=
  bd (f_X11_dayOf M s2 s1 s0) (fun r_1 => some (r_1, M))
set_option maxRecDepth 20000 in
set_option maxHeartbeats 2000000 in
theorem w_X11_extreme_77 {x : xC} (C : CtM x RX11 cX11_extreme 8 ({ frames := 7, cells := 0, slots := 0, locals := 155 } : Room)) (M : xM) (s0 : Int32) (s1 : Int32) (s2 : Int32)  (o : Int32 × xM) (h : b_X11_extreme_77 M s0 s1 s2 = some o) (hr : (x_me x).sig.returnType = some .int) (ev : x_rv x = some (.int o.1)) (eM : x_M x = o.2) : J x M 77 [] [.int s0, .int s1, .int s2, .ref (x_ad x 0)] := by
  unfold b_X11_extreme_77 at h
  obtain ⟨r_1, hc_2, h⟩ := bd_E h
  refine cl_X11_324 C ⟨Nat.le_of_ble_eq_true rfl, Nat.le_of_ble_eq_true rfl⟩ (m_X11_dayOf _ _ _ M s2 s1 s0 hc_2) (Nat.le_of_ble_eq_true rfl) dX11_extreme_77 ?_
  obtain rfl := Option.some.inj h
  exact r_iret C.1 hr ev eM dX11_extreme_80

def b_X11_extreme_144 (M : xM) (x3 : Int32) (x5 : Int32) (x7 : Int32) (s0 : Int32) (s1 : Int32) : Option ((Int32 × Int32) ⊕ (Int32)) :=
  lt (s1 + s0) (fun y_1 => lt (x7 + (1 : Int32)) (fun y_2 => some (.inl (y_1, y_2))))
set_option maxRecDepth 20000 in
set_option maxHeartbeats 2000000 in
theorem w_X11_extreme_144 {x : xC} (C : CtM x RX11 cX11_extreme 8 ({ frames := 7, cells := 0, slots := 0, locals := 155 } : Room)) (M : xM) (x3 : Int32) (x5 : Int32) (x7 : Int32) (s0 : Int32) (s1 : Int32)  (o : (Int32 × Int32) ⊕ (Int32)) (h : b_X11_extreme_144 M x3 x5 x7 s0 s1 = some o) (kh : ∀ s : Int32 × Int32, o = .inl s → J x M 96 [(0, .ref (x_ad x 0)), (3, .int x3), (5, .int x5), (6, .int s.1), (7, .int s.2)] []) (ke_0 : ∀ v : Int32, o = .inr v → J x M 153 [(6, .int v)] []) : J x M 144 [(0, .ref (x_ad x 0)), (3, .int x3), (5, .int x5), (7, .int x7)] [.int s0, .int s1] := by
  unfold b_X11_extreme_144 at h
  refine r_iadd C.1 dX11_extreme_144 ?_
  obtain ⟨y_1, ey_1, h⟩ := lt_E h
  refine r_istore C.1 [(6, .int y_1), (0, .ref (x_ad x 0)), (3, .int x3), (5, .int x5), (7, .int x7)] dX11_extreme_145 (by decide) ey_1 rfl ?_
  obtain ⟨y_2, ey_2, h⟩ := lt_E h
  refine r_iinc C.1 4 [(7, .int y_2), (6, .int y_1), (0, .ref (x_ad x 0)), (3, .int x3), (5, .int x5)] dX11_extreme_147 rfl ey_2 (by decide) rfl ?_
  refine r_goto C.1 96 dX11_extreme_150 (by decide) ?_
  exact r_sub [2, 3, 4, 1, 0] rfl (kh _ (Option.some.inj h).symm)

def b_X11_extreme_139 (M : xM) (x3 : Int32) (x5 : Int32) (x7 : Int32) (s0 : Int32) : Option ((Int32 × Int32) ⊕ (Int32)) :=
  b_X11_extreme_144 M x3 x5 x7 (1 : Int32) s0
set_option maxRecDepth 20000 in
set_option maxHeartbeats 2000000 in
theorem w_X11_extreme_139 {x : xC} (C : CtM x RX11 cX11_extreme 8 ({ frames := 7, cells := 0, slots := 0, locals := 155 } : Room)) (M : xM) (x3 : Int32) (x5 : Int32) (x7 : Int32) (s0 : Int32)  (o : (Int32 × Int32) ⊕ (Int32)) (h : b_X11_extreme_139 M x3 x5 x7 s0 = some o) (kh : ∀ s : Int32 × Int32, o = .inl s → J x M 96 [(0, .ref (x_ad x 0)), (3, .int x3), (5, .int x5), (6, .int s.1), (7, .int s.2)] []) (ke_0 : ∀ v : Int32, o = .inr v → J x M 153 [(6, .int v)] []) : J x M 139 [(0, .ref (x_ad x 0)), (3, .int x3), (5, .int x5), (7, .int x7)] [.int s0] := by
  unfold b_X11_extreme_139 at h
  refine r_iconst (v := 1) C.1 dX11_extreme_139 rfl ?_
  refine r_goto C.1 144 dX11_extreme_140 (by decide) ?_
  exact r_sub [0, 1, 2, 3] rfl (w_X11_extreme_144 C M x3 x5 x7 (1 : Int32) s0 _ h kh ke_0)

def b_X11_extreme_143 (M : xM) (x3 : Int32) (x5 : Int32) (x7 : Int32) (s0 : Int32) : Option ((Int32 × Int32) ⊕ (Int32)) :=
  b_X11_extreme_144 M x3 x5 x7 (0 : Int32) s0
set_option maxRecDepth 20000 in
set_option maxHeartbeats 2000000 in
theorem w_X11_extreme_143 {x : xC} (C : CtM x RX11 cX11_extreme 8 ({ frames := 7, cells := 0, slots := 0, locals := 155 } : Room)) (M : xM) (x3 : Int32) (x5 : Int32) (x7 : Int32) (s0 : Int32)  (o : (Int32 × Int32) ⊕ (Int32)) (h : b_X11_extreme_143 M x3 x5 x7 s0 = some o) (kh : ∀ s : Int32 × Int32, o = .inl s → J x M 96 [(0, .ref (x_ad x 0)), (3, .int x3), (5, .int x5), (6, .int s.1), (7, .int s.2)] []) (ke_0 : ∀ v : Int32, o = .inr v → J x M 153 [(6, .int v)] []) : J x M 143 [(0, .ref (x_ad x 0)), (3, .int x3), (5, .int x5), (7, .int x7)] [.int s0] := by
  unfold b_X11_extreme_143 at h
  refine r_iconst (v := 0) C.1 dX11_extreme_143 rfl ?_
  exact r_sub [0, 1, 2, 3] rfl (w_X11_extreme_144 C M x3 x5 x7 (0 : Int32) s0 _ h kh ke_0)

def b_X11_extreme_124 (M : xM) (x3 : Int32) (x5 : Int32) (x7 : Int32) (s0 : Int32) : Option ((Int32 × Int32) ⊕ (Int32)) :=
  if x3 = (3 : Int32) then gd x7 3600 (if (M 10 x7.toNatClampNeg) ≤ 0 then b_X11_extreme_143 M x3 x5 x7 s0 else b_X11_extreme_139 M x3 x5 x7 s0) else b_X11_extreme_143 M x3 x5 x7 s0
set_option maxRecDepth 20000 in
set_option maxHeartbeats 2000000 in
theorem w_X11_extreme_124 {x : xC} (C : CtM x RX11 cX11_extreme 8 ({ frames := 7, cells := 0, slots := 0, locals := 155 } : Room)) (M : xM) (x3 : Int32) (x5 : Int32) (x7 : Int32) (s0 : Int32)  (o : (Int32 × Int32) ⊕ (Int32)) (h : b_X11_extreme_124 M x3 x5 x7 s0 = some o) (kh : ∀ s : Int32 × Int32, o = .inl s → J x M 96 [(0, .ref (x_ad x 0)), (3, .int x3), (5, .int x5), (6, .int s.1), (7, .int s.2)] []) (ke_0 : ∀ v : Int32, o = .inr v → J x M 153 [(6, .int v)] []) : J x M 124 [(0, .ref (x_ad x 0)), (3, .int x3), (5, .int x5), (7, .int x7)] [.int s0] := by
  unfold b_X11_extreme_124 at h
  refine r_iload_n C.1 1 dX11_extreme_124 rfl rfl ?_
  refine r_iconst (v := 3) C.1 dX11_extreme_125 rfl ?_
  refine r_icmp_ne C.1 143 dX11_extreme_126 (by decide) (fun c_1 => ?_) (fun c_1 => ?_)
  · replace h := ite_F c_1 h
    exact r_sub [0, 1, 2, 3] rfl (w_X11_extreme_143 C M x3 x5 x7 s0 _ h kh ke_0)
  · replace h := ite_T c_1 h
    refine r_aload_n C.1 0 dX11_extreme_129 rfl rfl ?_
    refine gf_X11_37 C dX11_extreme_130 ?_
    refine r_iload C.1 3 dX11_extreme_133 rfl ?_
    obtain ⟨q_2, h⟩ := gd_E h
    refine r_iald C.1 (mK C (by decide)) (mS C (shm_10)) 0 (mT0 C) q_2 dX11_extreme_135 ?_
    refine r_if_le C.1 143 dX11_extreme_136 (by decide) (fun c_3 => ?_) (fun c_3 => ?_)
    · replace h := ite_T c_3 h
      exact r_sub [0, 1, 2, 3] rfl (w_X11_extreme_143 C M x3 x5 x7 s0 _ h kh ke_0)
    · replace h := ite_F c_3 h
      exact r_sub [0, 1, 2, 3] rfl (w_X11_extreme_139 C M x3 x5 x7 s0 _ h kh ke_0)

def bl_X11_extreme_96 (M : xM) (x3 : Int32) (x5 : Int32) (x6 : Int32) (x7 : Int32) : Option ((Int32 × Int32) ⊕ (Int32)) :=
  if x5 < x7 then some (.inr x6) else if x3 = (2 : Int32) then gd ((360 : Int32) + x7) 3960 (if (M 9 ((360 : Int32) + x7).toNatClampNeg) < 0 then b_X11_extreme_139 M x3 x5 x7 x6 else b_X11_extreme_124 M x3 x5 x7 x6) else b_X11_extreme_124 M x3 x5 x7 x6
set_option maxRecDepth 20000 in
set_option maxHeartbeats 2000000 in
theorem wl_X11_extreme_96 {x : xC} (C : CtM x RX11 cX11_extreme 8 ({ frames := 7, cells := 0, slots := 0, locals := 155 } : Room)) (M : xM) (x3 : Int32) (x5 : Int32) (x6 : Int32) (x7 : Int32)  (o : (Int32 × Int32) ⊕ (Int32)) (h : bl_X11_extreme_96 M x3 x5 x6 x7 = some o) (kh : ∀ s : Int32 × Int32, o = .inl s → J x M 96 [(0, .ref (x_ad x 0)), (3, .int x3), (5, .int x5), (6, .int s.1), (7, .int s.2)] []) (ke_0 : ∀ v : Int32, o = .inr v → J x M 153 [(6, .int v)] []) : J x M 96 [(0, .ref (x_ad x 0)), (3, .int x3), (5, .int x5), (6, .int x6), (7, .int x7)] [] := by
  unfold bl_X11_extreme_96 at h
  refine r_iload C.1 4 dX11_extreme_96 rfl ?_
  refine r_iload C.1 2 dX11_extreme_98 rfl ?_
  refine r_icmp_gt C.1 153 dX11_extreme_100 (by decide) (fun c_1 => ?_) (fun c_1 => ?_)
  · replace h := ite_T c_1 h
    exact r_sub [3] rfl (ke_0 _ (Option.some.inj h).symm)
  · replace h := ite_F c_1 h
    refine r_iload C.1 3 dX11_extreme_103 rfl ?_
    refine r_iload_n C.1 1 dX11_extreme_105 rfl rfl ?_
    refine r_iconst (v := 2) C.1 dX11_extreme_106 rfl ?_
    refine r_icmp_ne C.1 124 dX11_extreme_107 (by decide) (fun c_2 => ?_) (fun c_2 => ?_)
    · replace h := ite_F c_2 h
      exact r_sub [0, 1, 2, 4] rfl (w_X11_extreme_124 C M x3 x5 x7 x6 _ h kh ke_0)
    · replace h := ite_T c_2 h
      refine r_aload_n C.1 0 dX11_extreme_110 rfl rfl ?_
      refine gf_X11_34 C dX11_extreme_111 ?_
      refine r_sipush (v := 360) C.1 dX11_extreme_114 (by decide) ?_
      refine r_iload C.1 4 dX11_extreme_117 rfl ?_
      refine r_iadd C.1 dX11_extreme_119 ?_
      obtain ⟨q_3, h⟩ := gd_E h
      refine r_iald C.1 (mK C (by decide)) (mS C (shm_9)) 0 (mT0 C) q_3 dX11_extreme_120 ?_
      refine r_if_lt C.1 139 dX11_extreme_121 (by decide) (fun c_4 => ?_) (fun c_4 => ?_)
      · replace h := ite_T c_4 h
        exact r_sub [0, 1, 2, 4] rfl (w_X11_extreme_139 C M x3 x5 x7 x6 _ h kh ke_0)
      · replace h := ite_F c_4 h
        exact r_sub [0, 1, 2, 4] rfl (w_X11_extreme_124 C M x3 x5 x7 x6 _ h kh ke_0)

def b_X11_extreme_96 (M : xM) (x3 : Int32) (x5 : Int32) (x6 : Int32) (x7 : Int32) : Option (Int32 × xM) :=
  bd (loopN (fun s : Int32 × Int32 => bl_X11_extreme_96 M x3 x5 s.1 s.2) BG (x6, x7)) (fun v => some (v, M))
set_option maxRecDepth 20000 in
set_option maxHeartbeats 2000000 in
theorem w_X11_extreme_96 {x : xC} (C : CtM x RX11 cX11_extreme 8 ({ frames := 7, cells := 0, slots := 0, locals := 155 } : Room)) (M : xM) (x3 : Int32) (x5 : Int32) (x6 : Int32) (x7 : Int32)  (o : Int32 × xM) (h : b_X11_extreme_96 M x3 x5 x6 x7 = some o) (hr : (x_me x).sig.returnType = some .int) (ev : x_rv x = some (.int o.1)) (eM : x_M x = o.2) : J x M 96 [(0, .ref (x_ad x 0)), (3, .int x3), (5, .int x5), (6, .int x6), (7, .int x7)] [] := by
  unfold b_X11_extreme_96 at h
  obtain ⟨r_0, hr_0, h⟩ := bd_E h
  refine loopN_ind (JJ := fun s => J x M 96 [(0, .ref (x_ad x 0)), (3, .int x3), (5, .int x5), (6, .int s.1), (7, .int s.2)] []) (KX := fun q => q = r_0) ?_ BG (x6, x7) r_0 hr_0 rfl
  intro s o1 hb kk1 kk2
  refine wl_X11_extreme_96 C M x3 x5 s.1 s.2 _ hb kk1 ?_
  · intro v e0
    have e1 := kk2 _ e0
    subst e1
    refine r_iload C.1 0 dX11_extreme_153 rfl ?_
    obtain rfl := Option.some.inj h
    exact r_iret C.1 hr ev eM dX11_extreme_155

def b_X11_extreme_0 (M : xM) (x1 : Int32) (x2 : Int32) (x3 : Int32) : Option (Int32 × xM) :=
  lt (uM M 0 0 (0 : Int32)) (fun M_1 => bd (f_X11_isWard M_1 x1) (fun r_2 => if r_2 = 0 then b_X11_extreme_32 M_1 else bd (f_X11_isYear M_1 x2) (fun r_5 => if r_5 = 0 then b_X11_extreme_32 M_1 else bd (f_X11_in M_1 x3.toInt64 (0 : Int64) (3 : Int64)) (fun r_8 => if r_8 = 0 then b_X11_extreme_32 M_1 else bd (f_X11_laysMoney M_1 x1) (fun M_13 => lt ((360 : Int32) * x2) (fun y_14 => lt ((y_14 + (360 : Int32)) - (1 : Int32)) (fun y_15 => if (2 : Int32) ≤ x3 then bd (f_X11_laysIdle M_13 y_14 y_15) (fun M_19 => b_X11_extreme_96 M_19 x3 y_15 (0 : Int32) y_14) else if x3 = 0 then b_X11_extreme_77 M_13 (1 : Int32) y_15 y_14 else b_X11_extreme_77 M_13 (0 : Int32) y_15 y_14)))))))
set_option maxRecDepth 20000 in
set_option maxHeartbeats 2000000 in
theorem w_X11_extreme_0 {x : xC} (C : CtM x RX11 cX11_extreme 8 ({ frames := 7, cells := 0, slots := 0, locals := 155 } : Room)) (M : xM) (x1 : Int32) (x2 : Int32) (x3 : Int32)  (o : Int32 × xM) (h : b_X11_extreme_0 M x1 x2 x3 = some o) (hr : (x_me x).sig.returnType = some .int) (ev : x_rv x = some (.int o.1)) (eM : x_M x = o.2) : J x M 0 [(0, .ref (x_ad x 0)), (1, .int x1), (2, .int x2), (3, .int x3)] [] := by
  unfold b_X11_extreme_0 at h
  refine r_aload_n C.1 0 dX11_extreme_0 rfl rfl ?_
  refine r_iconst (v := 0) C.1 dX11_extreme_1 rfl ?_
  obtain ⟨M_1, eM_1, h⟩ := lt_E h
  refine pf_X11_56 C eM_1 dX11_extreme_2 ?_
  refine r_aload_n C.1 0 dX11_extreme_5 rfl rfl ?_
  refine r_iload_n C.1 1 dX11_extreme_6 rfl rfl ?_
  obtain ⟨r_2, hc_3, h⟩ := bd_E h
  refine cl_X11_262 C ⟨Nat.le_of_ble_eq_true rfl, Nat.le_of_ble_eq_true rfl⟩ (m_X11_isWard _ _ _ M_1 x1 hc_3) (Nat.le_of_ble_eq_true rfl) dX11_extreme_7 ?_
  refine r_if_eq C.1 32 dX11_extreme_10 (by decide) (fun c_4 => ?_) (fun c_4 => ?_)
  · replace h := ite_T c_4 h
    exact r_sub [] rfl (w_X11_extreme_32 C M_1 _ h hr ev eM)
  · replace h := ite_F c_4 h
    refine r_iload_n C.1 2 dX11_extreme_13 rfl rfl ?_
    obtain ⟨r_5, hc_6, h⟩ := bd_E h
    refine cl_X11_315 C ⟨Nat.le_of_ble_eq_true rfl, Nat.le_of_ble_eq_true rfl⟩ (m_X11_isYear _ _ _ M_1 x2 hc_6) (Nat.le_of_ble_eq_true rfl) dX11_extreme_14 ?_
    refine r_if_eq C.1 32 dX11_extreme_17 (by decide) (fun c_7 => ?_) (fun c_7 => ?_)
    · replace h := ite_T c_7 h
      exact r_sub [] rfl (w_X11_extreme_32 C M_1 _ h hr ev eM)
    · replace h := ite_F c_7 h
      refine r_iload_n C.1 3 dX11_extreme_20 rfl rfl ?_
      refine r_i2l C.1 dX11_extreme_21 ?_
      refine r_lconst (v := 0) C.1 dX11_extreme_22 rfl ?_
      refine r_ldc2 (v := 3) C.1 kw_1483 dX11_extreme_23 ?_
      obtain ⟨r_8, hc_9, h⟩ := bd_E h
      refine cl_X11_67 C ⟨Nat.le_of_ble_eq_true rfl, Nat.le_of_ble_eq_true rfl⟩ (m_X11_in _ _ _ M_1 x3.toInt64 (0 : Int64) (3 : Int64) hc_9) (Nat.le_of_ble_eq_true rfl) dX11_extreme_26 ?_
      refine r_if_ne C.1 36 dX11_extreme_29 (by decide) (fun c_10 => ?_) (fun c_10 => ?_)
      · replace h := ite_F c_10 h
        refine r_aload_n C.1 0 dX11_extreme_36 rfl rfl ?_
        refine r_iload_n C.1 1 dX11_extreme_37 rfl rfl ?_
        obtain ⟨M_13, hc_12, h⟩ := bd_E h
        refine cl_X11_230 C ⟨Nat.le_of_ble_eq_true rfl, Nat.le_of_ble_eq_true rfl⟩ (m_X11_laysMoney _ _ _ M_1 x1 hc_12) (Nat.le_of_ble_eq_true rfl) dX11_extreme_38 ?_
        refine r_sipush (v := 360) C.1 dX11_extreme_41 (by decide) ?_
        refine r_iload_n C.1 2 dX11_extreme_44 rfl rfl ?_
        refine r_imul C.1 dX11_extreme_45 ?_
        obtain ⟨y_14, ey_14, h⟩ := lt_E h
        refine r_istore C.1 [(4, .int y_14), (0, .ref (x_ad x 0)), (1, .int x1), (2, .int x2), (3, .int x3)] dX11_extreme_46 (by decide) ey_14 rfl ?_
        refine r_iload C.1 0 dX11_extreme_48 rfl ?_
        refine r_sipush (v := 360) C.1 dX11_extreme_50 (by decide) ?_
        refine r_iadd C.1 dX11_extreme_53 ?_
        refine r_iconst (v := 1) C.1 dX11_extreme_54 rfl ?_
        refine r_isub C.1 dX11_extreme_55 ?_
        obtain ⟨y_15, ey_15, h⟩ := lt_E h
        refine r_istore C.1 [(5, .int y_15), (4, .int y_14), (0, .ref (x_ad x 0)), (1, .int x1), (2, .int x2), (3, .int x3)] dX11_extreme_56 (by decide) ey_15 rfl ?_
        refine r_iload_n C.1 5 dX11_extreme_58 rfl rfl ?_
        refine r_iconst (v := 2) C.1 dX11_extreme_59 rfl ?_
        refine r_icmp_ge C.1 81 dX11_extreme_60 (by decide) (fun c_16 => ?_) (fun c_16 => ?_)
        · replace h := ite_T c_16 h
          refine r_aload_n C.1 2 dX11_extreme_81 rfl rfl ?_
          refine r_iload C.1 1 dX11_extreme_82 rfl ?_
          refine r_iload C.1 0 dX11_extreme_84 rfl ?_
          obtain ⟨M_19, hc_18, h⟩ := bd_E h
          refine cl_X11_224 C ⟨Nat.le_of_ble_eq_true rfl, Nat.le_of_ble_eq_true rfl⟩ (m_X11_laysIdle _ _ _ M_13 y_14 y_15 hc_18) (Nat.le_of_ble_eq_true rfl) dX11_extreme_86 ?_
          refine r_iconst (v := 0) C.1 dX11_extreme_89 rfl ?_
          refine r_istore C.1 [(6, .int (0 : Int32)), (5, .int y_15), (4, .int y_14), (0, .ref (x_ad x 0)), (1, .int x1), (2, .int x2), (3, .int x3)] dX11_extreme_90 (by decide) rfl rfl ?_
          refine r_iload C.1 2 dX11_extreme_92 rfl ?_
          refine r_istore C.1 [(7, .int y_14), (6, .int (0 : Int32)), (5, .int y_15), (4, .int y_14), (0, .ref (x_ad x 0)), (1, .int x1), (2, .int x2), (3, .int x3)] dX11_extreme_94 (by decide) rfl rfl ?_
          exact r_sub [4, 7, 2, 1, 0] rfl (w_X11_extreme_96 C M_19 x3 y_15 (0 : Int32) y_14 _ h hr ev eM)
        · replace h := ite_F c_16 h
          refine r_aload_n C.1 2 dX11_extreme_63 rfl rfl ?_
          refine r_iload C.1 1 dX11_extreme_64 rfl ?_
          refine r_iload C.1 0 dX11_extreme_66 rfl ?_
          refine r_iload_n C.1 5 dX11_extreme_68 rfl rfl ?_
          refine r_if_ne C.1 76 dX11_extreme_69 (by decide) (fun c_20 => ?_) (fun c_20 => ?_)
          · replace h := ite_F c_20 h
            refine r_iconst (v := 0) C.1 dX11_extreme_76 rfl ?_
            exact r_sub [] rfl (w_X11_extreme_77 C M_13 (0 : Int32) y_15 y_14 _ h hr ev eM)
          · replace h := ite_T c_20 h
            refine r_iconst (v := 1) C.1 dX11_extreme_72 rfl ?_
            refine r_goto C.1 77 dX11_extreme_73 (by decide) ?_
            exact r_sub [] rfl (w_X11_extreme_77 C M_13 (1 : Int32) y_15 y_14 _ h hr ev eM)
      · replace h := ite_T c_10 h
        exact r_sub [] rfl (w_X11_extreme_32 C M_1 _ h hr ev eM)
def f_X11_extreme (M : xM) (x1 : Int32) (x2 : Int32) (x3 : Int32) : Option (Int32 × xM) := b_X11_extreme_0 M x1 x2 x3
set_option maxRecDepth 20000 in
theorem m_X11_extreme (l : Launch) (D : va_G) (ad : Nat → Nat) (M : xM) (x1 : Int32) (x2 : Int32) (x3 : Int32)  {r : Int32} {M1 : xM} (h : f_X11_extreme M x1 x2 x3 = some (r, M1)) : xMetM l yX11_extreme cX11_extreme 8 (some .int) ({ frames := 7, cells := 0, slots := 0, locals := 155 } : Room) [.ref (ad 0), .int x1, .int x2, .int x3] D ad M (some (.int r)) M1 := by
  refine xMetM_of (own := RX11) (by decide) rfl (Nat.le_of_ble_eq_true rfl) ?_
  intro x C e1 e2 e3 ev eM hr
  subst e1; subst e2; subst e3
  refine r_sub (L := [(0, .ref (x_ad x 0)), (1, .int x1), (2, .int x2), (3, .int x3)]) (L' := [(0, .ref (x_ad x 0)), (1, .int x1), (2, .int x2), (3, .int x3)]) [0, 1, 2, 3] rfl ?_
  exact w_X11_extreme_0 C M x1 x2 x3 _ h hr ev eM

def b_X11_meanOf_0 (M : xM) (x1 : Int32) : Option (Int32 × xM) :=
  bd (f_X11_its M x1 (15 : Int32)) (fun r_1 => bd (f_X11_lays M) (fun M_5 => bd (f_X11_sumOf M_5 x1 (0 : Int32) (((360 : Int32) * r_1) - (1 : Int32)) (1 : Int32)) (fun r_6 => bd (f_X11_sumOf M_5 x1 (0 : Int32) (((360 : Int32) * r_1) - (1 : Int32)) (2 : Int32)) (fun r_8 => g0 r_1 (some ((r_6 - r_8) / r_1, M_5))))))
set_option maxRecDepth 20000 in
set_option maxHeartbeats 2000000 in
theorem w_X11_meanOf_0 {x : xC} (C : CtM x RX11 cX11_meanOf 3 ({ frames := 6, cells := 0, slots := 0, locals := 133 } : Room)) (M : xM) (x1 : Int32)  (o : Int32 × xM) (h : b_X11_meanOf_0 M x1 = some o) (hr : (x_me x).sig.returnType = some .int) (ev : x_rv x = some (.int o.1)) (eM : x_M x = o.2) : J x M 0 [(0, .ref (x_ad x 0)), (1, .int x1)] [] := by
  unfold b_X11_meanOf_0 at h
  refine r_aload_n C.1 0 dX11_meanOf_0 rfl rfl ?_
  refine r_iload_n C.1 1 dX11_meanOf_1 rfl rfl ?_
  refine r_bipush (v := 15) C.1 dX11_meanOf_2 (by decide) ?_
  obtain ⟨r_1, hc_2, h⟩ := bd_E h
  refine cl_X11_176 C ⟨Nat.le_of_ble_eq_true rfl, Nat.le_of_ble_eq_true rfl⟩ (m_X11_its _ _ _ M x1 (15 : Int32) hc_2) (Nat.le_of_ble_eq_true rfl) dX11_meanOf_4 ?_
  refine r_istore_n C.1 [(2, .int r_1), (0, .ref (x_ad x 0)), (1, .int x1)] dX11_meanOf_7 rfl (by decide) rfl rfl ?_
  refine r_aload_n C.1 1 dX11_meanOf_8 rfl rfl ?_
  obtain ⟨M_5, hc_4, h⟩ := bd_E h
  refine cl_X11_221 C ⟨Nat.le_of_ble_eq_true rfl, Nat.le_of_ble_eq_true rfl⟩ (m_X11_lays _ _ _ M hc_4) (Nat.le_of_ble_eq_true rfl) dX11_meanOf_9 ?_
  refine r_aload_n C.1 1 dX11_meanOf_12 rfl rfl ?_
  refine r_iload_n C.1 2 dX11_meanOf_13 rfl rfl ?_
  refine r_iconst (v := 0) C.1 dX11_meanOf_14 rfl ?_
  refine r_sipush (v := 360) C.1 dX11_meanOf_15 (by decide) ?_
  refine r_iload_n C.1 0 dX11_meanOf_18 rfl rfl ?_
  refine r_imul C.1 dX11_meanOf_19 ?_
  refine r_iconst (v := 1) C.1 dX11_meanOf_20 rfl ?_
  refine r_isub C.1 dX11_meanOf_21 ?_
  refine r_iconst (v := 1) C.1 dX11_meanOf_22 rfl ?_
  obtain ⟨r_6, hc_7, h⟩ := bd_E h
  refine cl_X11_240 C ⟨Nat.le_of_ble_eq_true rfl, Nat.le_of_ble_eq_true rfl⟩ (m_X11_sumOf _ _ _ M_5 x1 (0 : Int32) (((360 : Int32) * r_1) - (1 : Int32)) (1 : Int32) hc_7) (Nat.le_of_ble_eq_true rfl) dX11_meanOf_23 ?_
  refine r_aload_n C.1 1 dX11_meanOf_26 rfl rfl ?_
  refine r_iload_n C.1 2 dX11_meanOf_27 rfl rfl ?_
  refine r_iconst (v := 0) C.1 dX11_meanOf_28 rfl ?_
  refine r_sipush (v := 360) C.1 dX11_meanOf_29 (by decide) ?_
  refine r_iload_n C.1 0 dX11_meanOf_32 rfl rfl ?_
  refine r_imul C.1 dX11_meanOf_33 ?_
  refine r_iconst (v := 1) C.1 dX11_meanOf_34 rfl ?_
  refine r_isub C.1 dX11_meanOf_35 ?_
  refine r_iconst (v := 2) C.1 dX11_meanOf_36 rfl ?_
  obtain ⟨r_8, hc_9, h⟩ := bd_E h
  refine cl_X11_240 C ⟨Nat.le_of_ble_eq_true rfl, Nat.le_of_ble_eq_true rfl⟩ (m_X11_sumOf _ _ _ M_5 x1 (0 : Int32) (((360 : Int32) * r_1) - (1 : Int32)) (2 : Int32) hc_9) (Nat.le_of_ble_eq_true rfl) dX11_meanOf_37 ?_
  refine r_isub C.1 dX11_meanOf_40 ?_
  refine r_iload_n C.1 0 dX11_meanOf_41 rfl rfl ?_
  obtain ⟨z_10, h⟩ := g0_E h
  refine r_idiv C.1 z_10 dX11_meanOf_42 ?_
  obtain rfl := Option.some.inj h
  exact r_iret C.1 hr ev eM dX11_meanOf_43
def f_X11_meanOf (M : xM) (x1 : Int32) : Option (Int32 × xM) := b_X11_meanOf_0 M x1
set_option maxRecDepth 20000 in
theorem m_X11_meanOf (l : Launch) (D : va_G) (ad : Nat → Nat) (M : xM) (x1 : Int32)  {r : Int32} {M1 : xM} (h : f_X11_meanOf M x1 = some (r, M1)) : xMetM l yX11_meanOf cX11_meanOf 3 (some .int) ({ frames := 6, cells := 0, slots := 0, locals := 133 } : Room) [.ref (ad 0), .int x1] D ad M (some (.int r)) M1 := by
  refine xMetM_of (own := RX11) (by decide) rfl (Nat.le_of_ble_eq_true rfl) ?_
  intro x C e1 e2 e3 ev eM hr
  subst e1; subst e2; subst e3
  refine r_sub (L := [(0, .ref (x_ad x 0)), (1, .int x1)]) (L' := [(0, .ref (x_ad x 0)), (1, .int x1)]) [0, 1] rfl ?_
  exact w_X11_meanOf_0 C M x1 _ h hr ev eM

def b_X11_mean_34 (M : xM) (s0 : Int32) : Option (Int32 × xM) :=
  some (s0, M)
set_option maxRecDepth 20000 in
set_option maxHeartbeats 2000000 in
theorem w_X11_mean_34 {x : xC} (C : CtM x RX11 cX11_mean 2 ({ frames := 7, cells := 0, slots := 0, locals := 155 } : Room)) (M : xM) (s0 : Int32)  (o : Int32 × xM) (h : b_X11_mean_34 M s0 = some o) (hr : (x_me x).sig.returnType = some .int) (ev : x_rv x = some (.int o.1)) (eM : x_M x = o.2) : J x M 34 [] [.int s0] := by
  unfold b_X11_mean_34 at h
  obtain rfl := Option.some.inj h
  exact r_iret C.1 hr ev eM dX11_mean_34

def b_X11_mean_31 (M : xM)  : Option (Int32 × xM) :=
  b_X11_mean_34 M (-1000000000 : Int32)
set_option maxRecDepth 20000 in
set_option maxHeartbeats 2000000 in
theorem w_X11_mean_31 {x : xC} (C : CtM x RX11 cX11_mean 2 ({ frames := 7, cells := 0, slots := 0, locals := 155 } : Room)) (M : xM)   (o : Int32 × xM) (h : b_X11_mean_31 M = some o) (hr : (x_me x).sig.returnType = some .int) (ev : x_rv x = some (.int o.1)) (eM : x_M x = o.2) : J x M 31 [] [] := by
  unfold b_X11_mean_31 at h
  refine r_ldcw (v := -1000000000) C.1 kw_1631 dX11_mean_31 ?_
  exact r_sub [] rfl (w_X11_mean_34 C M (-1000000000 : Int32) _ h hr ev eM)

def b_X11_mean_0 (M : xM) (x1 : Int32) : Option (Int32 × xM) :=
  lt (uM M 0 0 (0 : Int32)) (fun M_1 => bd (f_X11_isWard M_1 x1) (fun r_2 => if r_2 = 0 then b_X11_mean_31 M_1 else bd (f_X11_its M_1 x1 (15 : Int32)) (fun r_5 => if r_5 ≤ 0 then b_X11_mean_31 M_1 else bd2 (f_X11_meanOf M_1 x1) (fun r_8 M_10 => b_X11_mean_34 M_10 r_8))))
set_option maxRecDepth 20000 in
set_option maxHeartbeats 2000000 in
theorem w_X11_mean_0 {x : xC} (C : CtM x RX11 cX11_mean 2 ({ frames := 7, cells := 0, slots := 0, locals := 155 } : Room)) (M : xM) (x1 : Int32)  (o : Int32 × xM) (h : b_X11_mean_0 M x1 = some o) (hr : (x_me x).sig.returnType = some .int) (ev : x_rv x = some (.int o.1)) (eM : x_M x = o.2) : J x M 0 [(0, .ref (x_ad x 0)), (1, .int x1)] [] := by
  unfold b_X11_mean_0 at h
  refine r_aload_n C.1 0 dX11_mean_0 rfl rfl ?_
  refine r_iconst (v := 0) C.1 dX11_mean_1 rfl ?_
  obtain ⟨M_1, eM_1, h⟩ := lt_E h
  refine pf_X11_56 C eM_1 dX11_mean_2 ?_
  refine r_aload_n C.1 0 dX11_mean_5 rfl rfl ?_
  refine r_iload_n C.1 1 dX11_mean_6 rfl rfl ?_
  obtain ⟨r_2, hc_3, h⟩ := bd_E h
  refine cl_X11_262 C ⟨Nat.le_of_ble_eq_true rfl, Nat.le_of_ble_eq_true rfl⟩ (m_X11_isWard _ _ _ M_1 x1 hc_3) (Nat.le_of_ble_eq_true rfl) dX11_mean_7 ?_
  refine r_if_eq C.1 31 dX11_mean_10 (by decide) (fun c_4 => ?_) (fun c_4 => ?_)
  · replace h := ite_T c_4 h
    exact r_sub [] rfl (w_X11_mean_31 C M_1 _ h hr ev eM)
  · replace h := ite_F c_4 h
    refine r_aload_n C.1 0 dX11_mean_13 rfl rfl ?_
    refine r_iload_n C.1 1 dX11_mean_14 rfl rfl ?_
    refine r_bipush (v := 15) C.1 dX11_mean_15 (by decide) ?_
    obtain ⟨r_5, hc_6, h⟩ := bd_E h
    refine cl_X11_176 C ⟨Nat.le_of_ble_eq_true rfl, Nat.le_of_ble_eq_true rfl⟩ (m_X11_its _ _ _ M_1 x1 (15 : Int32) hc_6) (Nat.le_of_ble_eq_true rfl) dX11_mean_17 ?_
    refine r_if_le C.1 31 dX11_mean_20 (by decide) (fun c_7 => ?_) (fun c_7 => ?_)
    · replace h := ite_T c_7 h
      exact r_sub [] rfl (w_X11_mean_31 C M_1 _ h hr ev eM)
    · replace h := ite_F c_7 h
      refine r_aload_n C.1 0 dX11_mean_23 rfl rfl ?_
      refine r_iload_n C.1 1 dX11_mean_24 rfl rfl ?_
      obtain ⟨r_8, M_10, hc_9, h⟩ := bd2_E h
      refine cl_X11_327 C ⟨Nat.le_of_ble_eq_true rfl, Nat.le_of_ble_eq_true rfl⟩ (m_X11_meanOf _ _ _ M_1 x1 hc_9) (Nat.le_of_ble_eq_true rfl) dX11_mean_25 ?_
      refine r_goto C.1 34 dX11_mean_28 (by decide) ?_
      exact r_sub [] rfl (w_X11_mean_34 C M_10 r_8 _ h hr ev eM)
def f_X11_mean (M : xM) (x1 : Int32) : Option (Int32 × xM) := b_X11_mean_0 M x1
set_option maxRecDepth 20000 in
theorem m_X11_mean (l : Launch) (D : va_G) (ad : Nat → Nat) (M : xM) (x1 : Int32)  {r : Int32} {M1 : xM} (h : f_X11_mean M x1 = some (r, M1)) : xMetM l yX11_mean cX11_mean 2 (some .int) ({ frames := 7, cells := 0, slots := 0, locals := 155 } : Room) [.ref (ad 0), .int x1] D ad M (some (.int r)) M1 := by
  refine xMetM_of (own := RX11) (by decide) rfl (Nat.le_of_ble_eq_true rfl) ?_
  intro x C e1 e2 e3 ev eM hr
  subst e1; subst e2; subst e3
  refine r_sub (L := [(0, .ref (x_ad x 0)), (1, .int x1)]) (L' := [(0, .ref (x_ad x 0)), (1, .int x1)]) [0, 1] rfl ?_
  exact w_X11_mean_0 C M x1 _ h hr ev eM

def b_X11_lasts_30 (M : xM)  : Option (Int32 × xM) :=
  some ((-1000000000 : Int32), M)
set_option maxRecDepth 20000 in
set_option maxHeartbeats 2000000 in
theorem w_X11_lasts_30 {x : xC} (C : CtM x RX11 cX11_lasts 6 ({ frames := 7, cells := 0, slots := 0, locals := 155 } : Room)) (M : xM)   (o : Int32 × xM) (h : b_X11_lasts_30 M = some o) (hr : (x_me x).sig.returnType = some .int) (ev : x_rv x = some (.int o.1)) (eM : x_M x = o.2) : J x M 30 [] [] := by
  unfold b_X11_lasts_30 at h
  refine r_ldcw (v := -1000000000) C.1 kw_1631 dX11_lasts_30 ?_
  obtain rfl := Option.some.inj h
  exact r_iret C.1 hr ev eM dX11_lasts_33

def b_X11_lasts_90 (M : xM) (s0 : Int32) : Option (Int32 × xM) :=
  some (s0, M)
set_option maxRecDepth 20000 in
set_option maxHeartbeats 2000000 in
theorem w_X11_lasts_90 {x : xC} (C : CtM x RX11 cX11_lasts 6 ({ frames := 7, cells := 0, slots := 0, locals := 155 } : Room)) (M : xM) (s0 : Int32)  (o : Int32 × xM) (h : b_X11_lasts_90 M s0 = some o) (hr : (x_me x).sig.returnType = some .int) (ev : x_rv x = some (.int o.1)) (eM : x_M x = o.2) : J x M 90 [] [.int s0] := by
  unfold b_X11_lasts_90 at h
  obtain rfl := Option.some.inj h
  exact r_iret C.1 hr ev eM dX11_lasts_90

def b_X11_lasts_0 (M : xM) (x1 : Int32) (x2 : Int32) : Option (Int32 × xM) :=
  lt (uM M 0 0 (0 : Int32)) (fun M_1 => bd (f_X11_isWard M_1 x1) (fun r_2 => if r_2 = 0 then b_X11_lasts_30 M_1 else bd (f_X11_isDay M_1 x2) (fun r_5 => if r_5 = 0 then b_X11_lasts_30 M_1 else bd (f_X11_its M_1 x1 (15 : Int32)) (fun r_8 => if r_8 = 0 then b_X11_lasts_30 M_1 else bd (f_X11_outOn M_1 x1 x2) (fun r_11 => bd2 (f_X11_meanOf M_1 x1) (fun r_13 M_15 => bd (f_X11_moneyOn M_15 x1 x2) (fun r_16 => lt (r_11.toInt64 + r_16.toInt64) (fun y_18 => if 0 ≤ (lg_cmp y_18 (0 : Int64)) then if r_13 < 0 then g0L (-r_13.toInt64) (b_X11_lasts_90 M_15 ((lmin (100 : Int64) (y_18 / (-r_13.toInt64))).toInt32)) else b_X11_lasts_90 M_15 (100 : Int32) else some ((-1 : Int32), M_15)))))))))
set_option maxRecDepth 20000 in
set_option maxHeartbeats 2000000 in
theorem w_X11_lasts_0 {x : xC} (C : CtM x RX11 cX11_lasts 6 ({ frames := 7, cells := 0, slots := 0, locals := 155 } : Room)) (M : xM) (x1 : Int32) (x2 : Int32)  (o : Int32 × xM) (h : b_X11_lasts_0 M x1 x2 = some o) (hr : (x_me x).sig.returnType = some .int) (ev : x_rv x = some (.int o.1)) (eM : x_M x = o.2) : J x M 0 [(0, .ref (x_ad x 0)), (1, .int x1), (2, .int x2)] [] := by
  unfold b_X11_lasts_0 at h
  refine r_aload_n C.1 0 dX11_lasts_0 rfl rfl ?_
  refine r_iconst (v := 0) C.1 dX11_lasts_1 rfl ?_
  obtain ⟨M_1, eM_1, h⟩ := lt_E h
  refine pf_X11_56 C eM_1 dX11_lasts_2 ?_
  refine r_aload_n C.1 0 dX11_lasts_5 rfl rfl ?_
  refine r_iload_n C.1 1 dX11_lasts_6 rfl rfl ?_
  obtain ⟨r_2, hc_3, h⟩ := bd_E h
  refine cl_X11_262 C ⟨Nat.le_of_ble_eq_true rfl, Nat.le_of_ble_eq_true rfl⟩ (m_X11_isWard _ _ _ M_1 x1 hc_3) (Nat.le_of_ble_eq_true rfl) dX11_lasts_7 ?_
  refine r_if_eq C.1 30 dX11_lasts_10 (by decide) (fun c_4 => ?_) (fun c_4 => ?_)
  · replace h := ite_T c_4 h
    exact r_sub [] rfl (w_X11_lasts_30 C M_1 _ h hr ev eM)
  · replace h := ite_F c_4 h
    refine r_iload_n C.1 2 dX11_lasts_13 rfl rfl ?_
    obtain ⟨r_5, hc_6, h⟩ := bd_E h
    refine cl_X11_265 C ⟨Nat.le_of_ble_eq_true rfl, Nat.le_of_ble_eq_true rfl⟩ (m_X11_isDay _ _ _ M_1 x2 hc_6) (Nat.le_of_ble_eq_true rfl) dX11_lasts_14 ?_
    refine r_if_eq C.1 30 dX11_lasts_17 (by decide) (fun c_7 => ?_) (fun c_7 => ?_)
    · replace h := ite_T c_7 h
      exact r_sub [] rfl (w_X11_lasts_30 C M_1 _ h hr ev eM)
    · replace h := ite_F c_7 h
      refine r_aload_n C.1 0 dX11_lasts_20 rfl rfl ?_
      refine r_iload_n C.1 1 dX11_lasts_21 rfl rfl ?_
      refine r_bipush (v := 15) C.1 dX11_lasts_22 (by decide) ?_
      obtain ⟨r_8, hc_9, h⟩ := bd_E h
      refine cl_X11_176 C ⟨Nat.le_of_ble_eq_true rfl, Nat.le_of_ble_eq_true rfl⟩ (m_X11_its _ _ _ M_1 x1 (15 : Int32) hc_9) (Nat.le_of_ble_eq_true rfl) dX11_lasts_24 ?_
      refine r_if_ne C.1 34 dX11_lasts_27 (by decide) (fun c_10 => ?_) (fun c_10 => ?_)
      · replace h := ite_F c_10 h
        refine r_aload_n C.1 0 dX11_lasts_34 rfl rfl ?_
        refine r_iload_n C.1 1 dX11_lasts_35 rfl rfl ?_
        refine r_iload_n C.1 2 dX11_lasts_36 rfl rfl ?_
        obtain ⟨r_11, hc_12, h⟩ := bd_E h
        refine cl_X11_293 C ⟨Nat.le_of_ble_eq_true rfl, Nat.le_of_ble_eq_true rfl⟩ (m_X11_outOn _ _ _ M_1 x1 x2 hc_12) (Nat.le_of_ble_eq_true rfl) dX11_lasts_37 ?_
        refine r_i2l C.1 dX11_lasts_40 ?_
        refine r_lstore_n C.1 [(3, .long r_11.toInt64), (0, .ref (x_ad x 0)), (1, .int x1), (2, .int x2)] dX11_lasts_41 rfl (by decide) rfl rfl ?_
        refine r_aload_n C.1 1 dX11_lasts_42 rfl rfl ?_
        refine r_iload_n C.1 2 dX11_lasts_43 rfl rfl ?_
        obtain ⟨r_13, M_15, hc_14, h⟩ := bd2_E h
        refine cl_X11_327 C ⟨Nat.le_of_ble_eq_true rfl, Nat.le_of_ble_eq_true rfl⟩ (m_X11_meanOf _ _ _ M_1 x1 hc_14) (Nat.le_of_ble_eq_true rfl) dX11_lasts_44 ?_
        refine r_istore C.1 [(5, .int r_13), (3, .long r_11.toInt64), (0, .ref (x_ad x 0)), (1, .int x1), (2, .int x2)] dX11_lasts_47 (by decide) rfl rfl ?_
        refine r_lload_n C.1 1 dX11_lasts_49 rfl rfl ?_
        refine r_aload_n C.1 2 dX11_lasts_50 rfl rfl ?_
        refine r_iload_n C.1 3 dX11_lasts_51 rfl rfl ?_
        refine r_iload_n C.1 4 dX11_lasts_52 rfl rfl ?_
        obtain ⟨r_16, hc_17, h⟩ := bd_E h
        refine cl_X11_290 C ⟨Nat.le_of_ble_eq_true rfl, Nat.le_of_ble_eq_true rfl⟩ (m_X11_moneyOn _ _ _ M_15 x1 x2 hc_17) (Nat.le_of_ble_eq_true rfl) dX11_lasts_53 ?_
        refine r_i2l C.1 dX11_lasts_56 ?_
        refine r_ladd C.1 dX11_lasts_57 ?_
        obtain ⟨y_18, ey_18, h⟩ := lt_E h
        refine r_lstore_n C.1 [(3, .long y_18), (5, .int r_13), (0, .ref (x_ad x 0)), (1, .int x1), (2, .int x2)] dX11_lasts_58 rfl (by decide) ey_18 rfl ?_
        refine r_lload_n C.1 0 dX11_lasts_59 rfl rfl ?_
        refine r_lconst (v := 0) C.1 dX11_lasts_60 rfl ?_
        refine r_lcmp C.1 dX11_lasts_61 ?_
        refine r_if_ge C.1 67 dX11_lasts_62 (by decide) (fun c_19 => ?_) (fun c_19 => ?_)
        · replace h := ite_T c_19 h
          refine r_iload C.1 1 dX11_lasts_67 rfl ?_
          refine r_if_lt C.1 77 dX11_lasts_69 (by decide) (fun c_20 => ?_) (fun c_20 => ?_)
          · replace h := ite_T c_20 h
            refine r_ldc2 (v := 100) C.1 kw_1699 dX11_lasts_77 ?_
            refine r_lload_n C.1 0 dX11_lasts_80 rfl rfl ?_
            refine r_iload C.1 1 dX11_lasts_81 rfl ?_
            refine r_i2l C.1 dX11_lasts_83 ?_
            refine r_lneg C.1 dX11_lasts_84 ?_
            obtain ⟨z_21, h⟩ := g0L_E h
            refine r_ldiv C.1 z_21 dX11_lasts_85 ?_
            refine cm_X11_210 C.1 (by decide) (by decide) (Nat.le_of_ble_eq_true rfl) dX11_lasts_86 ?_
            refine r_l2i C.1 dX11_lasts_89 ?_
            exact r_sub [] rfl (w_X11_lasts_90 C M_15 ((lmin (100 : Int64) (y_18 / (-r_13.toInt64))).toInt32) _ h hr ev eM)
          · replace h := ite_F c_20 h
            refine r_bipush (v := 100) C.1 dX11_lasts_72 (by decide) ?_
            refine r_goto C.1 90 dX11_lasts_74 (by decide) ?_
            exact r_sub [] rfl (w_X11_lasts_90 C M_15 (100 : Int32) _ h hr ev eM)
        · replace h := ite_F c_19 h
          refine r_iconst (v := -1) C.1 dX11_lasts_65 rfl ?_
          obtain rfl := Option.some.inj h
          exact r_iret C.1 hr ev eM dX11_lasts_66
      · replace h := ite_T c_10 h
        exact r_sub [] rfl (w_X11_lasts_30 C M_1 _ h hr ev eM)
def f_X11_lasts (M : xM) (x1 : Int32) (x2 : Int32) : Option (Int32 × xM) := b_X11_lasts_0 M x1 x2
set_option maxRecDepth 20000 in
theorem m_X11_lasts (l : Launch) (D : va_G) (ad : Nat → Nat) (M : xM) (x1 : Int32) (x2 : Int32)  {r : Int32} {M1 : xM} (h : f_X11_lasts M x1 x2 = some (r, M1)) : xMetM l yX11_lasts cX11_lasts 6 (some .int) ({ frames := 7, cells := 0, slots := 0, locals := 155 } : Room) [.ref (ad 0), .int x1, .int x2] D ad M (some (.int r)) M1 := by
  refine xMetM_of (own := RX11) (by decide) rfl (Nat.le_of_ble_eq_true rfl) ?_
  intro x C e1 e2 e3 ev eM hr
  subst e1; subst e2; subst e3
  refine r_sub (L := [(0, .ref (x_ad x 0)), (1, .int x1), (2, .int x2)]) (L' := [(0, .ref (x_ad x 0)), (1, .int x1), (2, .int x2)]) [0, 1, 2] rfl ?_
  exact w_X11_lasts_0 C M x1 x2 _ h hr ev eM

def b_X11_whose_30 (M : xM) (s0 : Int32) : Option (Int32 × xM) :=
  some (s0, M)
set_option maxRecDepth 20000 in
set_option maxHeartbeats 2000000 in
theorem w_X11_whose_30 {x : xC} (C : CtM x RX11 cX11_whose 3 ({ frames := 2, cells := 0, slots := 0, locals := 46 } : Room)) (M : xM) (s0 : Int32)  (o : Int32 × xM) (h : b_X11_whose_30 M s0 = some o) (hr : (x_me x).sig.returnType = some .int) (ev : x_rv x = some (.int o.1)) (eM : x_M x = o.2) : J x M 30 [] [.int s0] := by
  unfold b_X11_whose_30 at h
  obtain rfl := Option.some.inj h
  exact r_iret C.1 hr ev eM dX11_whose_30

def b_X11_whose_29 (M : xM)  : Option (Int32 × xM) :=
  b_X11_whose_30 M (-1 : Int32)
set_option maxRecDepth 20000 in
set_option maxHeartbeats 2000000 in
theorem w_X11_whose_29 {x : xC} (C : CtM x RX11 cX11_whose 3 ({ frames := 2, cells := 0, slots := 0, locals := 46 } : Room)) (M : xM)   (o : Int32 × xM) (h : b_X11_whose_29 M = some o) (hr : (x_me x).sig.returnType = some .int) (ev : x_rv x = some (.int o.1)) (eM : x_M x = o.2) : J x M 29 [] [] := by
  unfold b_X11_whose_29 at h
  refine r_iconst (v := -1) C.1 dX11_whose_29 rfl ?_
  exact r_sub [] rfl (w_X11_whose_30 C M (-1 : Int32) _ h hr ev eM)

def b_X11_whose_0 (M : xM) (x1 : Int32) (x2 : Int32) : Option (Int32 × xM) :=
  lt (uM M 0 0 (0 : Int32)) (fun M_1 => bd (f_X11_isWard M_1 x1) (fun r_2 => if r_2 = 0 then b_X11_whose_29 M_1 else bd (f_X11_isDay M_1 x2) (fun r_5 => if r_5 = 0 then b_X11_whose_29 M_1 else bd (f_X11_guardianOf M_1 x1 x2) (fun r_8 => b_X11_whose_30 M_1 r_8))))
set_option maxRecDepth 20000 in
set_option maxHeartbeats 2000000 in
theorem w_X11_whose_0 {x : xC} (C : CtM x RX11 cX11_whose 3 ({ frames := 2, cells := 0, slots := 0, locals := 46 } : Room)) (M : xM) (x1 : Int32) (x2 : Int32)  (o : Int32 × xM) (h : b_X11_whose_0 M x1 x2 = some o) (hr : (x_me x).sig.returnType = some .int) (ev : x_rv x = some (.int o.1)) (eM : x_M x = o.2) : J x M 0 [(0, .ref (x_ad x 0)), (1, .int x1), (2, .int x2)] [] := by
  unfold b_X11_whose_0 at h
  refine r_aload_n C.1 0 dX11_whose_0 rfl rfl ?_
  refine r_iconst (v := 0) C.1 dX11_whose_1 rfl ?_
  obtain ⟨M_1, eM_1, h⟩ := lt_E h
  refine pf_X11_56 C eM_1 dX11_whose_2 ?_
  refine r_aload_n C.1 0 dX11_whose_5 rfl rfl ?_
  refine r_iload_n C.1 1 dX11_whose_6 rfl rfl ?_
  obtain ⟨r_2, hc_3, h⟩ := bd_E h
  refine cl_X11_262 C ⟨Nat.le_of_ble_eq_true rfl, Nat.le_of_ble_eq_true rfl⟩ (m_X11_isWard _ _ _ M_1 x1 hc_3) (Nat.le_of_ble_eq_true rfl) dX11_whose_7 ?_
  refine r_if_eq C.1 29 dX11_whose_10 (by decide) (fun c_4 => ?_) (fun c_4 => ?_)
  · replace h := ite_T c_4 h
    exact r_sub [] rfl (w_X11_whose_29 C M_1 _ h hr ev eM)
  · replace h := ite_F c_4 h
    refine r_iload_n C.1 2 dX11_whose_13 rfl rfl ?_
    obtain ⟨r_5, hc_6, h⟩ := bd_E h
    refine cl_X11_265 C ⟨Nat.le_of_ble_eq_true rfl, Nat.le_of_ble_eq_true rfl⟩ (m_X11_isDay _ _ _ M_1 x2 hc_6) (Nat.le_of_ble_eq_true rfl) dX11_whose_14 ?_
    refine r_if_eq C.1 29 dX11_whose_17 (by decide) (fun c_7 => ?_) (fun c_7 => ?_)
    · replace h := ite_T c_7 h
      exact r_sub [] rfl (w_X11_whose_29 C M_1 _ h hr ev eM)
    · replace h := ite_F c_7 h
      refine r_aload_n C.1 0 dX11_whose_20 rfl rfl ?_
      refine r_iload_n C.1 1 dX11_whose_21 rfl rfl ?_
      refine r_iload_n C.1 2 dX11_whose_22 rfl rfl ?_
      obtain ⟨r_8, hc_9, h⟩ := bd_E h
      refine cl_X11_271 C ⟨Nat.le_of_ble_eq_true rfl, Nat.le_of_ble_eq_true rfl⟩ (m_X11_guardianOf _ _ _ M_1 x1 x2 hc_9) (Nat.le_of_ble_eq_true rfl) dX11_whose_23 ?_
      refine r_goto C.1 30 dX11_whose_26 (by decide) ?_
      exact r_sub [] rfl (w_X11_whose_30 C M_1 r_8 _ h hr ev eM)
def f_X11_whose (M : xM) (x1 : Int32) (x2 : Int32) : Option (Int32 × xM) := b_X11_whose_0 M x1 x2
set_option maxRecDepth 20000 in
theorem m_X11_whose (l : Launch) (D : va_G) (ad : Nat → Nat) (M : xM) (x1 : Int32) (x2 : Int32)  {r : Int32} {M1 : xM} (h : f_X11_whose M x1 x2 = some (r, M1)) : xMetM l yX11_whose cX11_whose 3 (some .int) ({ frames := 2, cells := 0, slots := 0, locals := 46 } : Room) [.ref (ad 0), .int x1, .int x2] D ad M (some (.int r)) M1 := by
  refine xMetM_of (own := RX11) (by decide) rfl (Nat.le_of_ble_eq_true rfl) ?_
  intro x C e1 e2 e3 ev eM hr
  subst e1; subst e2; subst e3
  refine r_sub (L := [(0, .ref (x_ad x 0)), (1, .int x1), (2, .int x2)]) (L' := [(0, .ref (x_ad x 0)), (1, .int x1), (2, .int x2)]) [0, 1, 2] rfl ?_
  exact w_X11_whose_0 C M x1 x2 _ h hr ev eM

def b_X11_laysHeld_141 (M : xM) (x2 : Int32) (x3 : Int32) (s0 : Int32) : Option ((xM × Int32) ⊕ (xM)) :=
  lt (uM M 0 22 s0) (fun M_1 => lt (x3 + (1 : Int32)) (fun y_2 => some (.inl (M_1, y_2))))
set_option maxRecDepth 20000 in
set_option maxHeartbeats 2000000 in
theorem w_X11_laysHeld_141 {x : xC} (C : CtM x RX11 cX11_laysHeld 5 ({ frames := 7, cells := 0, slots := 0, locals := 155 } : Room)) (M : xM) (x2 : Int32) (x3 : Int32) (s0 : Int32)  (o : (xM × Int32) ⊕ (xM)) (h : b_X11_laysHeld_141 M x2 x3 s0 = some o) (kh : ∀ s : xM × Int32, o = .inl s → J x s.1 109 [(0, .ref (x_ad x 0)), (2, .int x2), (3, .int s.2)] []) (ke_0 : ∀ v : xM, o = .inr v → J x v 150 [(0, .ref (x_ad x 0))] []) : J x M 141 [(0, .ref (x_ad x 0)), (2, .int x2), (3, .int x3)] [.int s0, .ref (x_ad x 0)] := by
  unfold b_X11_laysHeld_141 at h
  obtain ⟨M_1, eM_1, h⟩ := lt_E h
  refine pf_X11_332 C eM_1 dX11_laysHeld_141 ?_
  obtain ⟨y_2, ey_2, h⟩ := lt_E h
  refine r_iinc C.1 2 [(3, .int y_2), (0, .ref (x_ad x 0)), (2, .int x2)] dX11_laysHeld_144 rfl ey_2 (by decide) rfl ?_
  refine r_goto C.1 109 dX11_laysHeld_147 (by decide) ?_
  exact r_sub [1, 2, 0] rfl (kh _ (Option.some.inj h).symm)

def bl_X11_laysHeld_109 (M : xM) (x2 : Int32) (x3 : Int32) : Option ((xM × Int32) ⊕ (xM)) :=
  if x2 < x3 then some (.inr M) else gd x3 3600 (gd (M 0 22) 3600 (if (M 12 x3.toNatClampNeg) ≤ (M 12 (M 0 22).toNatClampNeg) then b_X11_laysHeld_141 M x2 x3 (M 0 22) else b_X11_laysHeld_141 M x2 x3 x3))
set_option maxRecDepth 20000 in
set_option maxHeartbeats 2000000 in
theorem wl_X11_laysHeld_109 {x : xC} (C : CtM x RX11 cX11_laysHeld 5 ({ frames := 7, cells := 0, slots := 0, locals := 155 } : Room)) (M : xM) (x2 : Int32) (x3 : Int32)  (o : (xM × Int32) ⊕ (xM)) (h : bl_X11_laysHeld_109 M x2 x3 = some o) (kh : ∀ s : xM × Int32, o = .inl s → J x s.1 109 [(0, .ref (x_ad x 0)), (2, .int x2), (3, .int s.2)] []) (ke_0 : ∀ v : xM, o = .inr v → J x v 150 [(0, .ref (x_ad x 0))] []) : J x M 109 [(0, .ref (x_ad x 0)), (2, .int x2), (3, .int x3)] [] := by
  unfold bl_X11_laysHeld_109 at h
  refine r_iload_n C.1 2 dX11_laysHeld_109 rfl rfl ?_
  refine r_iload_n C.1 1 dX11_laysHeld_110 rfl rfl ?_
  refine r_icmp_gt C.1 150 dX11_laysHeld_111 (by decide) (fun c_1 => ?_) (fun c_1 => ?_)
  · replace h := ite_T c_1 h
    exact r_sub [0] rfl (ke_0 _ (Option.some.inj h).symm)
  · replace h := ite_F c_1 h
    refine r_aload_n C.1 0 dX11_laysHeld_114 rfl rfl ?_
    refine r_aload_n C.1 0 dX11_laysHeld_115 rfl rfl ?_
    refine gf_X11_43 C dX11_laysHeld_116 ?_
    refine r_iload_n C.1 2 dX11_laysHeld_119 rfl rfl ?_
    obtain ⟨q_2, h⟩ := gd_E h
    refine r_iald C.1 (mK C (by decide)) (mS C (shm_12)) 0 (mT0 C) q_2 dX11_laysHeld_120 ?_
    refine r_aload_n C.1 0 dX11_laysHeld_121 rfl rfl ?_
    refine gf_X11_43 C dX11_laysHeld_122 ?_
    refine r_aload_n C.1 0 dX11_laysHeld_125 rfl rfl ?_
    refine gf_X11_332 C dX11_laysHeld_126 ?_
    obtain ⟨q_3, h⟩ := gd_E h
    refine r_iald C.1 (mK C (by decide)) (mS C (shm_12)) 0 (mT0 C) q_3 dX11_laysHeld_129 ?_
    refine r_icmp_le C.1 137 dX11_laysHeld_130 (by decide) (fun c_4 => ?_) (fun c_4 => ?_)
    · replace h := ite_T c_4 h
      refine r_aload_n C.1 0 dX11_laysHeld_137 rfl rfl ?_
      refine gf_X11_332 C dX11_laysHeld_138 ?_
      exact r_sub [0, 1, 2] rfl (w_X11_laysHeld_141 C M x2 x3 (M 0 22) _ h kh ke_0)
    · replace h := ite_F c_4 h
      refine r_iload_n C.1 2 dX11_laysHeld_133 rfl rfl ?_
      refine r_goto C.1 141 dX11_laysHeld_134 (by decide) ?_
      exact r_sub [0, 1, 2] rfl (w_X11_laysHeld_141 C M x2 x3 x3 _ h kh ke_0)

def b_X11_laysHeld_109 (M : xM) (x2 : Int32) (x3 : Int32) : Option (xM) :=
  bd (loopN (fun s : xM × Int32 => bl_X11_laysHeld_109 s.1 x2 s.2) BG (M, x3)) (fun v => gd (v 0 22) 3600 (lt (uM v 0 23 (v 12 (v 0 22).toNatClampNeg)) (fun M_2 => some M_2)))
set_option maxRecDepth 20000 in
set_option maxHeartbeats 2000000 in
theorem w_X11_laysHeld_109 {x : xC} (C : CtM x RX11 cX11_laysHeld 5 ({ frames := 7, cells := 0, slots := 0, locals := 155 } : Room)) (M : xM) (x2 : Int32) (x3 : Int32)  (o : xM) (h : b_X11_laysHeld_109 M x2 x3 = some o) (hr : (x_me x).sig.returnType = none) (ev : x_rv x = none) (eM : x_M x = o) : J x M 109 [(0, .ref (x_ad x 0)), (2, .int x2), (3, .int x3)] [] := by
  unfold b_X11_laysHeld_109 at h
  obtain ⟨r_0, hr_0, h⟩ := bd_E h
  refine loopN_ind (JJ := fun s => J x s.1 109 [(0, .ref (x_ad x 0)), (2, .int x2), (3, .int s.2)] []) (KX := fun q => q = r_0) ?_ BG (M, x3) r_0 hr_0 rfl
  intro s o1 hb kk1 kk2
  refine wl_X11_laysHeld_109 C s.1 x2 s.2 _ hb kk1 ?_
  · intro v e0
    have e1 := kk2 _ e0
    subst e1
    refine r_aload_n C.1 0 dX11_laysHeld_150 rfl rfl ?_
    refine r_aload_n C.1 0 dX11_laysHeld_151 rfl rfl ?_
    refine gf_X11_43 C dX11_laysHeld_152 ?_
    refine r_aload_n C.1 0 dX11_laysHeld_155 rfl rfl ?_
    refine gf_X11_332 C dX11_laysHeld_156 ?_
    obtain ⟨q_1, h⟩ := gd_E h
    refine r_iald C.1 (mK C (by decide)) (mS C (shm_12)) 0 (mT0 C) q_1 dX11_laysHeld_159 ?_
    obtain ⟨M_2, eM_2, h⟩ := lt_E h
    refine pf_X11_335 C eM_2 dX11_laysHeld_160 ?_
    obtain rfl := Option.some.inj h
    exact r_vret C.1 hr ev eM dX11_laysHeld_163

def b_X11_laysHeld_88 (M : xM) (x1 : Int32) (x2 : Int32) (x3 : Int32) (x4 : Int32) (s0 : Int32) (s1 : Int32) (s2 : Int32) : Option ((xM × Int32) ⊕ (xM)) :=
  gd s2 3600 (lt (uM M 12 s2.toNatClampNeg (s1 + s0)) (fun M_2 => lt (x4 + (1 : Int32)) (fun y_3 => some (.inl (M_2, y_3)))))
set_option maxRecDepth 20000 in
set_option maxHeartbeats 2000000 in
theorem w_X11_laysHeld_88 {x : xC} (C : CtM x RX11 cX11_laysHeld 5 ({ frames := 7, cells := 0, slots := 0, locals := 155 } : Room)) (M : xM) (x1 : Int32) (x2 : Int32) (x3 : Int32) (x4 : Int32) (s0 : Int32) (s1 : Int32) (s2 : Int32)  (o : (xM × Int32) ⊕ (xM)) (h : b_X11_laysHeld_88 M x1 x2 x3 x4 s0 s1 s2 = some o) (kh : ∀ s : xM × Int32, o = .inl s → J x s.1 40 [(0, .ref (x_ad x 0)), (1, .int x1), (2, .int x2), (3, .int x3), (4, .int s.2)] []) (ke_0 : ∀ v : xM, o = .inr v → J x v 96 [(0, .ref (x_ad x 0)), (1, .int x1), (2, .int x2), (3, .int x3)] []) : J x M 88 [(0, .ref (x_ad x 0)), (1, .int x1), (2, .int x2), (3, .int x3), (4, .int x4)] [.int s0, .int s1, .int s2, .ref (x_ad x 12)] := by
  unfold b_X11_laysHeld_88 at h
  refine r_iadd C.1 dX11_laysHeld_88 ?_
  obtain ⟨q_1, h⟩ := gd_E h
  obtain ⟨M_2, eM_2, h⟩ := lt_E h
  refine r_iast C.1 (mK C (by decide)) (mS C (shm_12)) 0 (mT0 C) q_1 eM_2 dX11_laysHeld_89 ?_
  obtain ⟨y_3, ey_3, h⟩ := lt_E h
  refine r_iinc C.1 4 [(4, .int y_3), (0, .ref (x_ad x 0)), (1, .int x1), (2, .int x2), (3, .int x3)] dX11_laysHeld_90 rfl ey_3 (by decide) rfl ?_
  refine r_goto C.1 40 dX11_laysHeld_93 (by decide) ?_
  exact r_sub [1, 2, 3, 4, 0] rfl (kh _ (Option.some.inj h).symm)

def bl_X11_laysHeld_40 (M : xM) (x1 : Int32) (x2 : Int32) (x3 : Int32) (x4 : Int32) : Option ((xM × Int32) ⊕ (xM)) :=
  if x2 < x4 then some (.inr M) else gd x4 3600 (bd (f_X11_guardianOf M x3 x4) (fun r_3 => if r_3 = x1 then gd ((360 : Int32) + x4) 3960 (bd (f_X11_outOn M x3 x4) (fun r_7 => b_X11_laysHeld_88 M x1 x2 x3 x4 ((M 9 ((360 : Int32) + x4).toNatClampNeg) + r_7) (M 12 x4.toNatClampNeg) x4)) else b_X11_laysHeld_88 M x1 x2 x3 x4 (0 : Int32) (M 12 x4.toNatClampNeg) x4))
set_option maxRecDepth 20000 in
set_option maxHeartbeats 2000000 in
theorem wl_X11_laysHeld_40 {x : xC} (C : CtM x RX11 cX11_laysHeld 5 ({ frames := 7, cells := 0, slots := 0, locals := 155 } : Room)) (M : xM) (x1 : Int32) (x2 : Int32) (x3 : Int32) (x4 : Int32)  (o : (xM × Int32) ⊕ (xM)) (h : bl_X11_laysHeld_40 M x1 x2 x3 x4 = some o) (kh : ∀ s : xM × Int32, o = .inl s → J x s.1 40 [(0, .ref (x_ad x 0)), (1, .int x1), (2, .int x2), (3, .int x3), (4, .int s.2)] []) (ke_0 : ∀ v : xM, o = .inr v → J x v 96 [(0, .ref (x_ad x 0)), (1, .int x1), (2, .int x2), (3, .int x3)] []) : J x M 40 [(0, .ref (x_ad x 0)), (1, .int x1), (2, .int x2), (3, .int x3), (4, .int x4)] [] := by
  unfold bl_X11_laysHeld_40 at h
  refine r_iload C.1 4 dX11_laysHeld_40 rfl ?_
  refine r_iload_n C.1 2 dX11_laysHeld_42 rfl rfl ?_
  refine r_icmp_gt C.1 96 dX11_laysHeld_43 (by decide) (fun c_1 => ?_) (fun c_1 => ?_)
  · replace h := ite_T c_1 h
    exact r_sub [0, 1, 2, 3] rfl (ke_0 _ (Option.some.inj h).symm)
  · replace h := ite_F c_1 h
    refine r_aload_n C.1 0 dX11_laysHeld_46 rfl rfl ?_
    refine gf_X11_43 C dX11_laysHeld_47 ?_
    refine r_iload C.1 4 dX11_laysHeld_50 rfl ?_
    refine r_dup2 C.1 rfl rfl dX11_laysHeld_52 ?_
    obtain ⟨q_2, h⟩ := gd_E h
    refine r_iald C.1 (mK C (by decide)) (mS C (shm_12)) 0 (mT0 C) q_2 dX11_laysHeld_53 ?_
    refine r_aload_n C.1 0 dX11_laysHeld_54 rfl rfl ?_
    refine r_iload_n C.1 3 dX11_laysHeld_55 rfl rfl ?_
    refine r_iload C.1 4 dX11_laysHeld_56 rfl ?_
    obtain ⟨r_3, hc_4, h⟩ := bd_E h
    refine cl_X11_271 C ⟨Nat.le_of_ble_eq_true rfl, Nat.le_of_ble_eq_true rfl⟩ (m_X11_guardianOf _ _ _ M x3 x4 hc_4) (Nat.le_of_ble_eq_true rfl) dX11_laysHeld_58 ?_
    refine r_iload_n C.1 1 dX11_laysHeld_61 rfl rfl ?_
    refine r_icmp_ne C.1 87 dX11_laysHeld_62 (by decide) (fun c_5 => ?_) (fun c_5 => ?_)
    · replace h := ite_F c_5 h
      refine r_iconst (v := 0) C.1 dX11_laysHeld_87 rfl ?_
      exact r_sub [0, 1, 2, 3, 4] rfl (w_X11_laysHeld_88 C M x1 x2 x3 x4 (0 : Int32) (M 12 x4.toNatClampNeg) x4 _ h kh ke_0)
    · replace h := ite_T c_5 h
      refine r_aload_n C.1 0 dX11_laysHeld_65 rfl rfl ?_
      refine gf_X11_34 C dX11_laysHeld_66 ?_
      refine r_sipush (v := 360) C.1 dX11_laysHeld_69 (by decide) ?_
      refine r_iload C.1 4 dX11_laysHeld_72 rfl ?_
      refine r_iadd C.1 dX11_laysHeld_74 ?_
      obtain ⟨q_6, h⟩ := gd_E h
      refine r_iald C.1 (mK C (by decide)) (mS C (shm_9)) 0 (mT0 C) q_6 dX11_laysHeld_75 ?_
      refine r_aload_n C.1 0 dX11_laysHeld_76 rfl rfl ?_
      refine r_iload_n C.1 3 dX11_laysHeld_77 rfl rfl ?_
      refine r_iload C.1 4 dX11_laysHeld_78 rfl ?_
      obtain ⟨r_7, hc_8, h⟩ := bd_E h
      refine cl_X11_293 C ⟨Nat.le_of_ble_eq_true rfl, Nat.le_of_ble_eq_true rfl⟩ (m_X11_outOn _ _ _ M x3 x4 hc_8) (Nat.le_of_ble_eq_true rfl) dX11_laysHeld_80 ?_
      refine r_iadd C.1 dX11_laysHeld_83 ?_
      refine r_goto C.1 88 dX11_laysHeld_84 (by decide) ?_
      exact r_sub [0, 1, 2, 3, 4] rfl (w_X11_laysHeld_88 C M x1 x2 x3 x4 ((M 9 ((360 : Int32) + x4).toNatClampNeg) + r_7) (M 12 x4.toNatClampNeg) x4 _ h kh ke_0)

def b_X11_laysHeld_40 (M : xM) (x1 : Int32) (x2 : Int32) (x3 : Int32) (x4 : Int32) : Option ((xM × Int32) ⊕ (xM)) :=
  bd (loopN (fun s : xM × Int32 => bl_X11_laysHeld_40 s.1 x1 x2 x3 s.2) BG (M, x4)) (fun v => lt (x3 + (1 : Int32)) (fun y_1 => some (.inl (v, y_1))))
set_option maxRecDepth 20000 in
set_option maxHeartbeats 2000000 in
theorem w_X11_laysHeld_40 {x : xC} (C : CtM x RX11 cX11_laysHeld 5 ({ frames := 7, cells := 0, slots := 0, locals := 155 } : Room)) (M : xM) (x1 : Int32) (x2 : Int32) (x3 : Int32) (x4 : Int32)  (o : (xM × Int32) ⊕ (xM)) (h : b_X11_laysHeld_40 M x1 x2 x3 x4 = some o) (kh : ∀ s : xM × Int32, o = .inl s → J x s.1 22 [(0, .ref (x_ad x 0)), (1, .int x1), (2, .int x2), (3, .int s.2)] []) (ke_0 : ∀ v : xM, o = .inr v → J x v 102 [(0, .ref (x_ad x 0)), (2, .int x2)] []) : J x M 40 [(0, .ref (x_ad x 0)), (1, .int x1), (2, .int x2), (3, .int x3), (4, .int x4)] [] := by
  unfold b_X11_laysHeld_40 at h
  obtain ⟨r_0, hr_0, h⟩ := bd_E h
  refine loopN_ind (JJ := fun s => J x s.1 40 [(0, .ref (x_ad x 0)), (1, .int x1), (2, .int x2), (3, .int x3), (4, .int s.2)] []) (KX := fun q => q = r_0) ?_ BG (M, x4) r_0 hr_0 rfl
  intro s o1 hb kk1 kk2
  refine wl_X11_laysHeld_40 C s.1 x1 x2 x3 s.2 _ hb kk1 ?_
  · intro v e0
    have e1 := kk2 _ e0
    subst e1
    obtain ⟨y_1, ey_1, h⟩ := lt_E h
    refine r_iinc C.1 3 [(3, .int y_1), (0, .ref (x_ad x 0)), (1, .int x1), (2, .int x2)] dX11_laysHeld_96 rfl ey_1 (by decide) rfl ?_
    refine r_goto C.1 22 dX11_laysHeld_99 (by decide) ?_
    exact r_sub [1, 2, 3, 0] rfl (kh _ (Option.some.inj h).symm)

def bl_X11_laysHeld_22 (M : xM) (x1 : Int32) (x2 : Int32) (x3 : Int32) : Option ((xM × Int32) ⊕ (xM)) :=
  gd (1 : Int32) 495 (if (M 4 (1 : Int32).toNatClampNeg) ≤ x3 then some (.inr M) else bd (f_X11_laysMoney M x3) (fun M_5 => b_X11_laysHeld_40 M_5 x1 x2 x3 (0 : Int32)))
set_option maxRecDepth 20000 in
set_option maxHeartbeats 2000000 in
theorem wl_X11_laysHeld_22 {x : xC} (C : CtM x RX11 cX11_laysHeld 5 ({ frames := 7, cells := 0, slots := 0, locals := 155 } : Room)) (M : xM) (x1 : Int32) (x2 : Int32) (x3 : Int32)  (o : (xM × Int32) ⊕ (xM)) (h : bl_X11_laysHeld_22 M x1 x2 x3 = some o) (kh : ∀ s : xM × Int32, o = .inl s → J x s.1 22 [(0, .ref (x_ad x 0)), (1, .int x1), (2, .int x2), (3, .int s.2)] []) (ke_0 : ∀ v : xM, o = .inr v → J x v 102 [(0, .ref (x_ad x 0)), (2, .int x2)] []) : J x M 22 [(0, .ref (x_ad x 0)), (1, .int x1), (2, .int x2), (3, .int x3)] [] := by
  unfold bl_X11_laysHeld_22 at h
  refine r_iload_n C.1 3 dX11_laysHeld_22 rfl rfl ?_
  refine r_aload_n C.1 0 dX11_laysHeld_23 rfl rfl ?_
  refine gf_X11_19 C dX11_laysHeld_24 ?_
  refine r_iconst (v := 1) C.1 dX11_laysHeld_27 rfl ?_
  obtain ⟨q_1, h⟩ := gd_E h
  refine r_iald C.1 (mK C (by decide)) (mS C (shm_4)) 0 (mT0 C) q_1 dX11_laysHeld_28 ?_
  refine r_icmp_ge C.1 102 dX11_laysHeld_29 (by decide) (fun c_2 => ?_) (fun c_2 => ?_)
  · replace h := ite_T c_2 h
    exact r_sub [0, 2] rfl (ke_0 _ (Option.some.inj h).symm)
  · replace h := ite_F c_2 h
    refine r_aload_n C.1 0 dX11_laysHeld_32 rfl rfl ?_
    refine r_iload_n C.1 3 dX11_laysHeld_33 rfl rfl ?_
    obtain ⟨M_5, hc_4, h⟩ := bd_E h
    refine cl_X11_230 C ⟨Nat.le_of_ble_eq_true rfl, Nat.le_of_ble_eq_true rfl⟩ (m_X11_laysMoney _ _ _ M x3 hc_4) (Nat.le_of_ble_eq_true rfl) dX11_laysHeld_34 ?_
    refine r_iconst (v := 0) C.1 dX11_laysHeld_37 rfl ?_
    refine r_istore C.1 [(4, .int (0 : Int32)), (0, .ref (x_ad x 0)), (1, .int x1), (2, .int x2), (3, .int x3)] dX11_laysHeld_38 (by decide) rfl rfl ?_
    exact r_sub [1, 2, 3, 4, 0] rfl (w_X11_laysHeld_40 C M_5 x1 x2 x3 (0 : Int32) _ h kh ke_0)

def b_X11_laysHeld_22 (M : xM) (x1 : Int32) (x2 : Int32) (x3 : Int32) : Option (xM) :=
  bd (loopN (fun s : xM × Int32 => bl_X11_laysHeld_22 s.1 x1 x2 s.2) BG (M, x3)) (fun v => lt (uM v 0 22 (0 : Int32)) (fun M_1 => b_X11_laysHeld_109 M_1 x2 (1 : Int32)))
set_option maxRecDepth 20000 in
set_option maxHeartbeats 2000000 in
theorem w_X11_laysHeld_22 {x : xC} (C : CtM x RX11 cX11_laysHeld 5 ({ frames := 7, cells := 0, slots := 0, locals := 155 } : Room)) (M : xM) (x1 : Int32) (x2 : Int32) (x3 : Int32)  (o : xM) (h : b_X11_laysHeld_22 M x1 x2 x3 = some o) (hr : (x_me x).sig.returnType = none) (ev : x_rv x = none) (eM : x_M x = o) : J x M 22 [(0, .ref (x_ad x 0)), (1, .int x1), (2, .int x2), (3, .int x3)] [] := by
  unfold b_X11_laysHeld_22 at h
  obtain ⟨r_0, hr_0, h⟩ := bd_E h
  refine loopN_ind (JJ := fun s => J x s.1 22 [(0, .ref (x_ad x 0)), (1, .int x1), (2, .int x2), (3, .int s.2)] []) (KX := fun q => q = r_0) ?_ BG (M, x3) r_0 hr_0 rfl
  intro s o1 hb kk1 kk2
  refine wl_X11_laysHeld_22 C s.1 x1 x2 s.2 _ hb kk1 ?_
  · intro v e0
    have e1 := kk2 _ e0
    subst e1
    refine r_aload_n C.1 0 dX11_laysHeld_102 rfl rfl ?_
    refine r_iconst (v := 0) C.1 dX11_laysHeld_103 rfl ?_
    obtain ⟨M_1, eM_1, h⟩ := lt_E h
    refine pf_X11_332 C eM_1 dX11_laysHeld_104 ?_
    refine r_iconst (v := 1) C.1 dX11_laysHeld_107 rfl ?_
    refine r_istore_n C.1 [(3, .int (1 : Int32)), (0, .ref (x_ad x 0)), (2, .int x2)] dX11_laysHeld_108 rfl (by decide) rfl rfl ?_
    exact r_sub [1, 2, 0] rfl (w_X11_laysHeld_109 C M_1 x2 (1 : Int32) _ h hr ev eM)

def bl_X11_laysHeld_2 (M : xM) (x1 : Int32) (x2 : Int32) (x3 : Int32) : Option ((xM × Int32) ⊕ (xM)) :=
  if x2 < x3 then some (.inr M) else gd x3 3600 (lt (uM M 12 x3.toNatClampNeg (0 : Int32)) (fun M_3 => lt (x3 + (1 : Int32)) (fun y_4 => some (.inl (M_3, y_4)))))
set_option maxRecDepth 20000 in
set_option maxHeartbeats 2000000 in
theorem wl_X11_laysHeld_2 {x : xC} (C : CtM x RX11 cX11_laysHeld 5 ({ frames := 7, cells := 0, slots := 0, locals := 155 } : Room)) (M : xM) (x1 : Int32) (x2 : Int32) (x3 : Int32)  (o : (xM × Int32) ⊕ (xM)) (h : bl_X11_laysHeld_2 M x1 x2 x3 = some o) (kh : ∀ s : xM × Int32, o = .inl s → J x s.1 2 [(0, .ref (x_ad x 0)), (1, .int x1), (2, .int x2), (3, .int s.2)] []) (ke_0 : ∀ v : xM, o = .inr v → J x v 20 [(0, .ref (x_ad x 0)), (1, .int x1), (2, .int x2)] []) : J x M 2 [(0, .ref (x_ad x 0)), (1, .int x1), (2, .int x2), (3, .int x3)] [] := by
  unfold bl_X11_laysHeld_2 at h
  refine r_iload_n C.1 3 dX11_laysHeld_2 rfl rfl ?_
  refine r_iload_n C.1 2 dX11_laysHeld_3 rfl rfl ?_
  refine r_icmp_gt C.1 20 dX11_laysHeld_4 (by decide) (fun c_1 => ?_) (fun c_1 => ?_)
  · replace h := ite_T c_1 h
    exact r_sub [0, 1, 2] rfl (ke_0 _ (Option.some.inj h).symm)
  · replace h := ite_F c_1 h
    refine r_aload_n C.1 0 dX11_laysHeld_7 rfl rfl ?_
    refine gf_X11_43 C dX11_laysHeld_8 ?_
    refine r_iload_n C.1 3 dX11_laysHeld_11 rfl rfl ?_
    refine r_iconst (v := 0) C.1 dX11_laysHeld_12 rfl ?_
    obtain ⟨q_2, h⟩ := gd_E h
    obtain ⟨M_3, eM_3, h⟩ := lt_E h
    refine r_iast C.1 (mK C (by decide)) (mS C (shm_12)) 0 (mT0 C) q_2 eM_3 dX11_laysHeld_13 ?_
    obtain ⟨y_4, ey_4, h⟩ := lt_E h
    refine r_iinc C.1 3 [(3, .int y_4), (0, .ref (x_ad x 0)), (1, .int x1), (2, .int x2)] dX11_laysHeld_14 rfl ey_4 (by decide) rfl ?_
    refine r_goto C.1 2 dX11_laysHeld_17 (by decide) ?_
    exact r_sub [1, 2, 3, 0] rfl (kh _ (Option.some.inj h).symm)

def b_X11_laysHeld_2 (M : xM) (x1 : Int32) (x2 : Int32) (x3 : Int32) : Option (xM) :=
  bd (loopN (fun s : xM × Int32 => bl_X11_laysHeld_2 s.1 x1 x2 s.2) BG (M, x3)) (fun v => b_X11_laysHeld_22 v x1 x2 (0 : Int32))
set_option maxRecDepth 20000 in
set_option maxHeartbeats 2000000 in
theorem w_X11_laysHeld_2 {x : xC} (C : CtM x RX11 cX11_laysHeld 5 ({ frames := 7, cells := 0, slots := 0, locals := 155 } : Room)) (M : xM) (x1 : Int32) (x2 : Int32) (x3 : Int32)  (o : xM) (h : b_X11_laysHeld_2 M x1 x2 x3 = some o) (hr : (x_me x).sig.returnType = none) (ev : x_rv x = none) (eM : x_M x = o) : J x M 2 [(0, .ref (x_ad x 0)), (1, .int x1), (2, .int x2), (3, .int x3)] [] := by
  unfold b_X11_laysHeld_2 at h
  obtain ⟨r_0, hr_0, h⟩ := bd_E h
  refine loopN_ind (JJ := fun s => J x s.1 2 [(0, .ref (x_ad x 0)), (1, .int x1), (2, .int x2), (3, .int s.2)] []) (KX := fun q => q = r_0) ?_ BG (M, x3) r_0 hr_0 rfl
  intro s o1 hb kk1 kk2
  refine wl_X11_laysHeld_2 C s.1 x1 x2 s.2 _ hb kk1 ?_
  · intro v e0
    have e1 := kk2 _ e0
    subst e1
    refine r_iconst (v := 0) C.1 dX11_laysHeld_20 rfl ?_
    refine r_istore_n C.1 [(3, .int (0 : Int32)), (0, .ref (x_ad x 0)), (1, .int x1), (2, .int x2)] dX11_laysHeld_21 rfl (by decide) rfl rfl ?_
    exact r_sub [1, 2, 3, 0] rfl (w_X11_laysHeld_22 C v x1 x2 (0 : Int32) _ h hr ev eM)

def b_X11_laysHeld_0 (M : xM) (x1 : Int32) (x2 : Int32) : Option (xM) :=
  b_X11_laysHeld_2 M x1 x2 (0 : Int32)
set_option maxRecDepth 20000 in
set_option maxHeartbeats 2000000 in
theorem w_X11_laysHeld_0 {x : xC} (C : CtM x RX11 cX11_laysHeld 5 ({ frames := 7, cells := 0, slots := 0, locals := 155 } : Room)) (M : xM) (x1 : Int32) (x2 : Int32)  (o : xM) (h : b_X11_laysHeld_0 M x1 x2 = some o) (hr : (x_me x).sig.returnType = none) (ev : x_rv x = none) (eM : x_M x = o) : J x M 0 [(0, .ref (x_ad x 0)), (1, .int x1), (2, .int x2)] [] := by
  unfold b_X11_laysHeld_0 at h
  refine r_iconst (v := 0) C.1 dX11_laysHeld_0 rfl ?_
  refine r_istore_n C.1 [(3, .int (0 : Int32)), (0, .ref (x_ad x 0)), (1, .int x1), (2, .int x2)] dX11_laysHeld_1 rfl (by decide) rfl rfl ?_
  exact r_sub [1, 2, 3, 0] rfl (w_X11_laysHeld_2 C M x1 x2 (0 : Int32) _ h hr ev eM)
def f_X11_laysHeld (M : xM) (x1 : Int32) (x2 : Int32) : Option (xM) := b_X11_laysHeld_0 M x1 x2
set_option maxRecDepth 20000 in
theorem m_X11_laysHeld (l : Launch) (D : va_G) (ad : Nat → Nat) (M : xM) (x1 : Int32) (x2 : Int32)  {o : xM} (h : f_X11_laysHeld M x1 x2 = some o) : xMetM l yX11_laysHeld cX11_laysHeld 5 none ({ frames := 7, cells := 0, slots := 0, locals := 155 } : Room) [.ref (ad 0), .int x1, .int x2] D ad M none o := by
  refine xMetM_of (own := RX11) (by decide) rfl (Nat.le_of_ble_eq_true rfl) ?_
  intro x C e1 e2 e3 ev eM hr
  subst e1; subst e2; subst e3
  refine r_sub (L := [(0, .ref (x_ad x 0)), (1, .int x1), (2, .int x2)]) (L' := [(0, .ref (x_ad x 0)), (1, .int x1), (2, .int x2)]) [0, 1, 2] rfl ?_
  exact w_X11_laysHeld_0 C M x1 x2 _ h hr ev eM

def b_X11_neededOf_0 (M : xM) (x1 : Int32) (x2 : Int32) : Option (Int32 × xM) :=
  bd (f_X11_laysHeld M x1 x2) (fun M_3 => gd (6 : Int32) 7 (some ((M_3 3 (6 : Int32).toNatClampNeg) * (imax (0 : Int32) (M_3 0 23)), M_3)))
set_option maxRecDepth 20000 in
set_option maxHeartbeats 2000000 in
theorem w_X11_neededOf_0 {x : xC} (C : CtM x RX11 cX11_neededOf 3 ({ frames := 8, cells := 0, slots := 0, locals := 179 } : Room)) (M : xM) (x1 : Int32) (x2 : Int32)  (o : Int32 × xM) (h : b_X11_neededOf_0 M x1 x2 = some o) (hr : (x_me x).sig.returnType = some .int) (ev : x_rv x = some (.int o.1)) (eM : x_M x = o.2) : J x M 0 [(0, .ref (x_ad x 0)), (1, .int x1), (2, .int x2)] [] := by
  unfold b_X11_neededOf_0 at h
  refine r_aload_n C.1 0 dX11_neededOf_0 rfl rfl ?_
  refine r_iload_n C.1 1 dX11_neededOf_1 rfl rfl ?_
  refine r_iload_n C.1 2 dX11_neededOf_2 rfl rfl ?_
  obtain ⟨M_3, hc_2, h⟩ := bd_E h
  refine cl_X11_338 C ⟨Nat.le_of_ble_eq_true rfl, Nat.le_of_ble_eq_true rfl⟩ (m_X11_laysHeld _ _ _ M x1 x2 hc_2) (Nat.le_of_ble_eq_true rfl) dX11_neededOf_3 ?_
  refine r_aload_n C.1 0 dX11_neededOf_6 rfl rfl ?_
  refine gf_X11_16 C dX11_neededOf_7 ?_
  refine r_bipush (v := 6) C.1 dX11_neededOf_10 (by decide) ?_
  obtain ⟨q_4, h⟩ := gd_E h
  refine r_iald C.1 (mK C (by decide)) (mS C (shm_3)) 0 (mT0 C) q_4 dX11_neededOf_12 ?_
  refine r_iconst (v := 0) C.1 dX11_neededOf_13 rfl ?_
  refine r_aload_n C.1 0 dX11_neededOf_14 rfl rfl ?_
  refine gf_X11_335 C dX11_neededOf_15 ?_
  refine cm_X11_185 C.1 (by decide) (by decide) (Nat.le_of_ble_eq_true rfl) dX11_neededOf_18 ?_
  refine r_imul C.1 dX11_neededOf_21 ?_
  obtain rfl := Option.some.inj h
  exact r_iret C.1 hr ev eM dX11_neededOf_22
def f_X11_neededOf (M : xM) (x1 : Int32) (x2 : Int32) : Option (Int32 × xM) := b_X11_neededOf_0 M x1 x2
set_option maxRecDepth 20000 in
theorem m_X11_neededOf (l : Launch) (D : va_G) (ad : Nat → Nat) (M : xM) (x1 : Int32) (x2 : Int32)  {r : Int32} {M1 : xM} (h : f_X11_neededOf M x1 x2 = some (r, M1)) : xMetM l yX11_neededOf cX11_neededOf 3 (some .int) ({ frames := 8, cells := 0, slots := 0, locals := 179 } : Room) [.ref (ad 0), .int x1, .int x2] D ad M (some (.int r)) M1 := by
  refine xMetM_of (own := RX11) (by decide) rfl (Nat.le_of_ble_eq_true rfl) ?_
  intro x C e1 e2 e3 ev eM hr
  subst e1; subst e2; subst e3
  refine r_sub (L := [(0, .ref (x_ad x 0)), (1, .int x1), (2, .int x2)]) (L' := [(0, .ref (x_ad x 0)), (1, .int x1), (2, .int x2)]) [0, 1, 2] rfl ?_
  exact w_X11_neededOf_0 C M x1 x2 _ h hr ev eM

def b_X11_shortOf_0 (M : xM) (x1 : Int32) (x2 : Int32) : Option (Int32 × xM) :=
  bd2 (f_X11_neededOf M x1 x2) (fun r_1 M_3 => gd ((4 : Int32) + x1) 495 (some (imax (0 : Int32) (r_1 - (M_3 4 ((4 : Int32) + x1).toNatClampNeg)), M_3)))
set_option maxRecDepth 20000 in
set_option maxHeartbeats 2000000 in
theorem w_X11_shortOf_0 {x : xC} (C : CtM x RX11 cX11_shortOf 3 ({ frames := 9, cells := 0, slots := 0, locals := 201 } : Room)) (M : xM) (x1 : Int32) (x2 : Int32)  (o : Int32 × xM) (h : b_X11_shortOf_0 M x1 x2 = some o) (hr : (x_me x).sig.returnType = some .int) (ev : x_rv x = some (.int o.1)) (eM : x_M x = o.2) : J x M 0 [(0, .ref (x_ad x 0)), (1, .int x1), (2, .int x2)] [] := by
  unfold b_X11_shortOf_0 at h
  refine r_iconst (v := 0) C.1 dX11_shortOf_0 rfl ?_
  refine r_aload_n C.1 0 dX11_shortOf_1 rfl rfl ?_
  refine r_iload_n C.1 1 dX11_shortOf_2 rfl rfl ?_
  refine r_iload_n C.1 2 dX11_shortOf_3 rfl rfl ?_
  obtain ⟨r_1, M_3, hc_2, h⟩ := bd2_E h
  refine cl_X11_341 C ⟨Nat.le_of_ble_eq_true rfl, Nat.le_of_ble_eq_true rfl⟩ (m_X11_neededOf _ _ _ M x1 x2 hc_2) (Nat.le_of_ble_eq_true rfl) dX11_shortOf_4 ?_
  refine r_aload_n C.1 0 dX11_shortOf_7 rfl rfl ?_
  refine gf_X11_19 C dX11_shortOf_8 ?_
  refine r_iconst (v := 4) C.1 dX11_shortOf_11 rfl ?_
  refine r_iload_n C.1 1 dX11_shortOf_12 rfl rfl ?_
  refine r_iadd C.1 dX11_shortOf_13 ?_
  obtain ⟨q_4, h⟩ := gd_E h
  refine r_iald C.1 (mK C (by decide)) (mS C (shm_4)) 0 (mT0 C) q_4 dX11_shortOf_14 ?_
  refine r_isub C.1 dX11_shortOf_15 ?_
  refine cm_X11_185 C.1 (by decide) (by decide) (Nat.le_of_ble_eq_true rfl) dX11_shortOf_16 ?_
  obtain rfl := Option.some.inj h
  exact r_iret C.1 hr ev eM dX11_shortOf_19
def f_X11_shortOf (M : xM) (x1 : Int32) (x2 : Int32) : Option (Int32 × xM) := b_X11_shortOf_0 M x1 x2
set_option maxRecDepth 20000 in
theorem m_X11_shortOf (l : Launch) (D : va_G) (ad : Nat → Nat) (M : xM) (x1 : Int32) (x2 : Int32)  {r : Int32} {M1 : xM} (h : f_X11_shortOf M x1 x2 = some (r, M1)) : xMetM l yX11_shortOf cX11_shortOf 3 (some .int) ({ frames := 9, cells := 0, slots := 0, locals := 201 } : Room) [.ref (ad 0), .int x1, .int x2] D ad M (some (.int r)) M1 := by
  refine xMetM_of (own := RX11) (by decide) rfl (Nat.le_of_ble_eq_true rfl) ?_
  intro x C e1 e2 e3 ev eM hr
  subst e1; subst e2; subst e3
  refine r_sub (L := [(0, .ref (x_ad x 0)), (1, .int x1), (2, .int x2)]) (L' := [(0, .ref (x_ad x 0)), (1, .int x1), (2, .int x2)]) [0, 1, 2] rfl ?_
  exact w_X11_shortOf_0 C M x1 x2 _ h hr ev eM

def b_X11_bonded_32 (M : xM)  : Option (Int32 × xM) :=
  some ((-1000000000 : Int32), M)
set_option maxRecDepth 20000 in
set_option maxHeartbeats 2000000 in
theorem w_X11_bonded_32 {x : xC} (C : CtM x RX11 cX11_bonded 5 ({ frames := 9, cells := 0, slots := 0, locals := 201 } : Room)) (M : xM)   (o : Int32 × xM) (h : b_X11_bonded_32 M = some o) (hr : (x_me x).sig.returnType = some .int) (ev : x_rv x = some (.int o.1)) (eM : x_M x = o.2) : J x M 32 [] [] := by
  unfold b_X11_bonded_32 at h
  refine r_ldcw (v := -1000000000) C.1 kw_1631 dX11_bonded_32 ?_
  obtain rfl := Option.some.inj h
  exact r_iret C.1 hr ev eM dX11_bonded_35

def b_X11_bonded_91 (M : xM) (s0 : Int32) : Option (Int32 × xM) :=
  some (s0, M)
set_option maxRecDepth 20000 in
set_option maxHeartbeats 2000000 in
theorem w_X11_bonded_91 {x : xC} (C : CtM x RX11 cX11_bonded 5 ({ frames := 9, cells := 0, slots := 0, locals := 201 } : Room)) (M : xM) (s0 : Int32)  (o : Int32 × xM) (h : b_X11_bonded_91 M s0 = some o) (hr : (x_me x).sig.returnType = some .int) (ev : x_rv x = some (.int o.1)) (eM : x_M x = o.2) : J x M 91 [] [.int s0] := by
  unfold b_X11_bonded_91 at h
  obtain rfl := Option.some.inj h
  exact r_iret C.1 hr ev eM dX11_bonded_91

def b_X11_bonded_0 (M : xM) (x1 : Int32) (x2 : Int32) (x3 : Int32) : Option (Int32 × xM) :=
  lt (uM M 0 0 (0 : Int32)) (fun M_1 => bd (f_X11_isGuardian M_1 x1) (fun r_2 => if r_2 = 0 then b_X11_bonded_32 M_1 else bd (f_X11_isDay M_1 x2) (fun r_5 => if r_5 = 0 then b_X11_bonded_32 M_1 else bd (f_X11_in M_1 x3.toInt64 (0 : Int64) (2 : Int64)) (fun r_8 => if r_8 = 0 then b_X11_bonded_32 M_1 else bd2 (f_X11_neededOf M_1 x1 x2) (fun r_11 M_13 => if x3 = 0 then b_X11_bonded_91 M_13 r_11 else if x3 = (1 : Int32) then gd ((4 : Int32) + x1) 495 (b_X11_bonded_91 M_13 (imax (0 : Int32) (r_11 - (M_13 4 ((4 : Int32) + x1).toNatClampNeg)))) else if 0 ≤ (M_13 0 23) then b_X11_bonded_91 M_13 (M_13 0 22) else b_X11_bonded_91 M_13 (-1 : Int32))))))
set_option maxRecDepth 20000 in
set_option maxHeartbeats 2000000 in
theorem w_X11_bonded_0 {x : xC} (C : CtM x RX11 cX11_bonded 5 ({ frames := 9, cells := 0, slots := 0, locals := 201 } : Room)) (M : xM) (x1 : Int32) (x2 : Int32) (x3 : Int32)  (o : Int32 × xM) (h : b_X11_bonded_0 M x1 x2 x3 = some o) (hr : (x_me x).sig.returnType = some .int) (ev : x_rv x = some (.int o.1)) (eM : x_M x = o.2) : J x M 0 [(0, .ref (x_ad x 0)), (1, .int x1), (2, .int x2), (3, .int x3)] [] := by
  unfold b_X11_bonded_0 at h
  refine r_aload_n C.1 0 dX11_bonded_0 rfl rfl ?_
  refine r_iconst (v := 0) C.1 dX11_bonded_1 rfl ?_
  obtain ⟨M_1, eM_1, h⟩ := lt_E h
  refine pf_X11_56 C eM_1 dX11_bonded_2 ?_
  refine r_aload_n C.1 0 dX11_bonded_5 rfl rfl ?_
  refine r_iload_n C.1 1 dX11_bonded_6 rfl rfl ?_
  obtain ⟨r_2, hc_3, h⟩ := bd_E h
  refine cl_X11_254 C ⟨Nat.le_of_ble_eq_true rfl, Nat.le_of_ble_eq_true rfl⟩ (m_X11_isGuardian _ _ _ M_1 x1 hc_3) (Nat.le_of_ble_eq_true rfl) dX11_bonded_7 ?_
  refine r_if_eq C.1 32 dX11_bonded_10 (by decide) (fun c_4 => ?_) (fun c_4 => ?_)
  · replace h := ite_T c_4 h
    exact r_sub [] rfl (w_X11_bonded_32 C M_1 _ h hr ev eM)
  · replace h := ite_F c_4 h
    refine r_iload_n C.1 2 dX11_bonded_13 rfl rfl ?_
    obtain ⟨r_5, hc_6, h⟩ := bd_E h
    refine cl_X11_265 C ⟨Nat.le_of_ble_eq_true rfl, Nat.le_of_ble_eq_true rfl⟩ (m_X11_isDay _ _ _ M_1 x2 hc_6) (Nat.le_of_ble_eq_true rfl) dX11_bonded_14 ?_
    refine r_if_eq C.1 32 dX11_bonded_17 (by decide) (fun c_7 => ?_) (fun c_7 => ?_)
    · replace h := ite_T c_7 h
      exact r_sub [] rfl (w_X11_bonded_32 C M_1 _ h hr ev eM)
    · replace h := ite_F c_7 h
      refine r_iload_n C.1 3 dX11_bonded_20 rfl rfl ?_
      refine r_i2l C.1 dX11_bonded_21 ?_
      refine r_lconst (v := 0) C.1 dX11_bonded_22 rfl ?_
      refine r_ldc2 (v := 2) C.1 kw_1708 dX11_bonded_23 ?_
      obtain ⟨r_8, hc_9, h⟩ := bd_E h
      refine cl_X11_67 C ⟨Nat.le_of_ble_eq_true rfl, Nat.le_of_ble_eq_true rfl⟩ (m_X11_in _ _ _ M_1 x3.toInt64 (0 : Int64) (2 : Int64) hc_9) (Nat.le_of_ble_eq_true rfl) dX11_bonded_26 ?_
      refine r_if_ne C.1 36 dX11_bonded_29 (by decide) (fun c_10 => ?_) (fun c_10 => ?_)
      · replace h := ite_F c_10 h
        refine r_aload_n C.1 0 dX11_bonded_36 rfl rfl ?_
        refine r_iload_n C.1 1 dX11_bonded_37 rfl rfl ?_
        refine r_iload_n C.1 2 dX11_bonded_38 rfl rfl ?_
        obtain ⟨r_11, M_13, hc_12, h⟩ := bd2_E h
        refine cl_X11_341 C ⟨Nat.le_of_ble_eq_true rfl, Nat.le_of_ble_eq_true rfl⟩ (m_X11_neededOf _ _ _ M_1 x1 x2 hc_12) (Nat.le_of_ble_eq_true rfl) dX11_bonded_39 ?_
        refine r_istore C.1 [(4, .int r_11), (0, .ref (x_ad x 0)), (1, .int x1), (2, .int x2), (3, .int x3)] dX11_bonded_42 (by decide) rfl rfl ?_
        refine r_iload_n C.1 4 dX11_bonded_44 rfl rfl ?_
        refine r_if_ne C.1 53 dX11_bonded_45 (by decide) (fun c_14 => ?_) (fun c_14 => ?_)
        · replace h := ite_F c_14 h
          refine r_iload_n C.1 4 dX11_bonded_53 rfl rfl ?_
          refine r_iconst (v := 1) C.1 dX11_bonded_54 rfl ?_
          refine r_icmp_ne C.1 76 dX11_bonded_55 (by decide) (fun c_15 => ?_) (fun c_15 => ?_)
          · replace h := ite_F c_15 h
            refine r_aload_n C.1 1 dX11_bonded_76 rfl rfl ?_
            refine gf_X11_335 C dX11_bonded_77 ?_
            refine r_if_ge C.1 87 dX11_bonded_80 (by decide) (fun c_16 => ?_) (fun c_16 => ?_)
            · replace h := ite_T c_16 h
              refine r_aload_n C.1 1 dX11_bonded_87 rfl rfl ?_
              refine gf_X11_332 C dX11_bonded_88 ?_
              exact r_sub [] rfl (w_X11_bonded_91 C M_13 (M_13 0 22) _ h hr ev eM)
            · replace h := ite_F c_16 h
              refine r_iconst (v := -1) C.1 dX11_bonded_83 rfl ?_
              refine r_goto C.1 91 dX11_bonded_84 (by decide) ?_
              exact r_sub [] rfl (w_X11_bonded_91 C M_13 (-1 : Int32) _ h hr ev eM)
          · replace h := ite_T c_15 h
            refine r_iconst (v := 0) C.1 dX11_bonded_58 rfl ?_
            refine r_iload C.1 0 dX11_bonded_59 rfl ?_
            refine r_aload_n C.1 1 dX11_bonded_61 rfl rfl ?_
            refine gf_X11_19 C dX11_bonded_62 ?_
            refine r_iconst (v := 4) C.1 dX11_bonded_65 rfl ?_
            refine r_iload_n C.1 2 dX11_bonded_66 rfl rfl ?_
            refine r_iadd C.1 dX11_bonded_67 ?_
            obtain ⟨q_17, h⟩ := gd_E h
            refine r_iald C.1 (mK C (by decide)) (mS C (shm_4)) 0 (mT0 C) q_17 dX11_bonded_68 ?_
            refine r_isub C.1 dX11_bonded_69 ?_
            refine cm_X11_185 C.1 (by decide) (by decide) (Nat.le_of_ble_eq_true rfl) dX11_bonded_70 ?_
            refine r_goto C.1 91 dX11_bonded_73 (by decide) ?_
            exact r_sub [] rfl (w_X11_bonded_91 C M_13 (imax (0 : Int32) (r_11 - (M_13 4 ((4 : Int32) + x1).toNatClampNeg))) _ h hr ev eM)
        · replace h := ite_T c_14 h
          refine r_iload C.1 0 dX11_bonded_48 rfl ?_
          refine r_goto C.1 91 dX11_bonded_50 (by decide) ?_
          exact r_sub [] rfl (w_X11_bonded_91 C M_13 r_11 _ h hr ev eM)
      · replace h := ite_T c_10 h
        exact r_sub [] rfl (w_X11_bonded_32 C M_1 _ h hr ev eM)
def f_X11_bonded (M : xM) (x1 : Int32) (x2 : Int32) (x3 : Int32) : Option (Int32 × xM) := b_X11_bonded_0 M x1 x2 x3
set_option maxRecDepth 20000 in
theorem m_X11_bonded (l : Launch) (D : va_G) (ad : Nat → Nat) (M : xM) (x1 : Int32) (x2 : Int32) (x3 : Int32)  {r : Int32} {M1 : xM} (h : f_X11_bonded M x1 x2 x3 = some (r, M1)) : xMetM l yX11_bonded cX11_bonded 5 (some .int) ({ frames := 9, cells := 0, slots := 0, locals := 201 } : Room) [.ref (ad 0), .int x1, .int x2, .int x3] D ad M (some (.int r)) M1 := by
  refine xMetM_of (own := RX11) (by decide) rfl (Nat.le_of_ble_eq_true rfl) ?_
  intro x C e1 e2 e3 ev eM hr
  subst e1; subst e2; subst e3
  refine r_sub (L := [(0, .ref (x_ad x 0)), (1, .int x1), (2, .int x2), (3, .int x3)]) (L' := [(0, .ref (x_ad x 0)), (1, .int x1), (2, .int x2), (3, .int x3)]) [0, 1, 2, 3] rfl ?_
  exact w_X11_bonded_0 C M x1 x2 x3 _ h hr ev eM

def b_X11_disallowedOf_70 (M : xM) (x1 : Int32) (x3 : Int32) (s0 : Int32) (s1 : Int32) : Option ((Int32 × Int32) ⊕ (Int32)) :=
  lt (s1 + s0) (fun y_1 => lt (x3 + (1 : Int32)) (fun y_2 => some (.inl (y_1, y_2))))
set_option maxRecDepth 20000 in
set_option maxHeartbeats 2000000 in
theorem w_X11_disallowedOf_70 {x : xC} (C : CtM x RX11 cX11_disallowedOf 5 ({ frames := 6, cells := 0, slots := 0, locals := 133 } : Room)) (M : xM) (x1 : Int32) (x3 : Int32) (s0 : Int32) (s1 : Int32)  (o : (Int32 × Int32) ⊕ (Int32)) (h : b_X11_disallowedOf_70 M x1 x3 s0 s1 = some o) (kh : ∀ s : Int32 × Int32, o = .inl s → J x M 8 [(0, .ref (x_ad x 0)), (1, .int x1), (2, .int s.1), (3, .int s.2)] []) (ke_0 : ∀ v : Int32, o = .inr v → J x M 78 [(2, .int v)] []) : J x M 70 [(0, .ref (x_ad x 0)), (1, .int x1), (3, .int x3)] [.int s0, .int s1] := by
  unfold b_X11_disallowedOf_70 at h
  refine r_iadd C.1 dX11_disallowedOf_70 ?_
  obtain ⟨y_1, ey_1, h⟩ := lt_E h
  refine r_istore_n C.1 [(2, .int y_1), (0, .ref (x_ad x 0)), (1, .int x1), (3, .int x3)] dX11_disallowedOf_71 rfl (by decide) ey_1 rfl ?_
  obtain ⟨y_2, ey_2, h⟩ := lt_E h
  refine r_iinc C.1 3 [(3, .int y_2), (2, .int y_1), (0, .ref (x_ad x 0)), (1, .int x1)] dX11_disallowedOf_72 rfl ey_2 (by decide) rfl ?_
  refine r_goto C.1 8 dX11_disallowedOf_75 (by decide) ?_
  exact r_sub [2, 3, 1, 0] rfl (kh _ (Option.some.inj h).symm)

def b_X11_disallowedOf_53 (M : xM) (x1 : Int32) (x2 : Int32) (x3 : Int32) (s0 : Int32) : Option ((Int32 × Int32) ⊕ (Int32)) :=
  if s0 = 0 then b_X11_disallowedOf_70 M x1 x3 (0 : Int32) x2 else bd (f_X11_disallowed M x3) (fun r_2 => b_X11_disallowedOf_70 M x1 x3 r_2 x2)
set_option maxRecDepth 20000 in
set_option maxHeartbeats 2000000 in
theorem w_X11_disallowedOf_53 {x : xC} (C : CtM x RX11 cX11_disallowedOf 5 ({ frames := 6, cells := 0, slots := 0, locals := 133 } : Room)) (M : xM) (x1 : Int32) (x2 : Int32) (x3 : Int32) (s0 : Int32)  (o : (Int32 × Int32) ⊕ (Int32)) (h : b_X11_disallowedOf_53 M x1 x2 x3 s0 = some o) (kh : ∀ s : Int32 × Int32, o = .inl s → J x M 8 [(0, .ref (x_ad x 0)), (1, .int x1), (2, .int s.1), (3, .int s.2)] []) (ke_0 : ∀ v : Int32, o = .inr v → J x M 78 [(2, .int v)] []) : J x M 53 [(0, .ref (x_ad x 0)), (1, .int x1), (2, .int x2), (3, .int x3)] [.int s0] := by
  unfold b_X11_disallowedOf_53 at h
  refine r_istore C.1 [(4, .int s0), (0, .ref (x_ad x 0)), (1, .int x1), (2, .int x2), (3, .int x3)] dX11_disallowedOf_53 (by decide) rfl rfl ?_
  refine r_iload_n C.1 3 dX11_disallowedOf_55 rfl rfl ?_
  refine r_iload C.1 0 dX11_disallowedOf_56 rfl ?_
  refine r_if_eq C.1 69 dX11_disallowedOf_58 (by decide) (fun c_1 => ?_) (fun c_1 => ?_)
  · replace h := ite_T c_1 h
    refine r_iconst (v := 0) C.1 dX11_disallowedOf_69 rfl ?_
    exact r_sub [1, 2, 4] rfl (w_X11_disallowedOf_70 C M x1 x3 (0 : Int32) x2 _ h kh ke_0)
  · replace h := ite_F c_1 h
    refine r_aload_n C.1 1 dX11_disallowedOf_61 rfl rfl ?_
    refine r_iload_n C.1 4 dX11_disallowedOf_62 rfl rfl ?_
    obtain ⟨r_2, hc_3, h⟩ := bd_E h
    refine cl_X11_237 C ⟨Nat.le_of_ble_eq_true rfl, Nat.le_of_ble_eq_true rfl⟩ (m_X11_disallowed _ _ _ M x3 hc_3) (Nat.le_of_ble_eq_true rfl) dX11_disallowedOf_63 ?_
    refine r_goto C.1 70 dX11_disallowedOf_66 (by decide) ?_
    exact r_sub [1, 2, 4] rfl (w_X11_disallowedOf_70 C M x1 x3 r_2 x2 _ h kh ke_0)

def b_X11_disallowedOf_52 (M : xM) (x1 : Int32) (x2 : Int32) (x3 : Int32) : Option ((Int32 × Int32) ⊕ (Int32)) :=
  b_X11_disallowedOf_53 M x1 x2 x3 (0 : Int32)
set_option maxRecDepth 20000 in
set_option maxHeartbeats 2000000 in
theorem w_X11_disallowedOf_52 {x : xC} (C : CtM x RX11 cX11_disallowedOf 5 ({ frames := 6, cells := 0, slots := 0, locals := 133 } : Room)) (M : xM) (x1 : Int32) (x2 : Int32) (x3 : Int32)  (o : (Int32 × Int32) ⊕ (Int32)) (h : b_X11_disallowedOf_52 M x1 x2 x3 = some o) (kh : ∀ s : Int32 × Int32, o = .inl s → J x M 8 [(0, .ref (x_ad x 0)), (1, .int x1), (2, .int s.1), (3, .int s.2)] []) (ke_0 : ∀ v : Int32, o = .inr v → J x M 78 [(2, .int v)] []) : J x M 52 [(0, .ref (x_ad x 0)), (1, .int x1), (2, .int x2), (3, .int x3)] [] := by
  unfold b_X11_disallowedOf_52 at h
  refine r_iconst (v := 0) C.1 dX11_disallowedOf_52 rfl ?_
  exact r_sub [0, 1, 2, 3] rfl (w_X11_disallowedOf_53 C M x1 x2 x3 (0 : Int32) _ h kh ke_0)

def bl_X11_disallowedOf_8 (M : xM) (x1 : Int32) (x2 : Int32) (x3 : Int32) : Option ((Int32 × Int32) ⊕ (Int32)) :=
  gd (2 : Int32) 495 (if (M 4 (2 : Int32).toNatClampNeg) ≤ x3 then some (.inr x2) else bd (f_X11_entryOf M x3 (0 : Int32)) (fun r_3 => if r_3 = (1 : Int32) then bd (f_X11_entryOf M x3 (1 : Int32)) (fun r_6 => bd (f_X11_entryOf M x3 (2 : Int32)) (fun r_8 => bd (f_X11_guardianOf M r_6 r_8) (fun r_10 => if r_10 = x1 then b_X11_disallowedOf_53 M x1 x2 x3 (1 : Int32) else b_X11_disallowedOf_52 M x1 x2 x3))) else b_X11_disallowedOf_52 M x1 x2 x3))
set_option maxRecDepth 20000 in
set_option maxHeartbeats 2000000 in
theorem wl_X11_disallowedOf_8 {x : xC} (C : CtM x RX11 cX11_disallowedOf 5 ({ frames := 6, cells := 0, slots := 0, locals := 133 } : Room)) (M : xM) (x1 : Int32) (x2 : Int32) (x3 : Int32)  (o : (Int32 × Int32) ⊕ (Int32)) (h : bl_X11_disallowedOf_8 M x1 x2 x3 = some o) (kh : ∀ s : Int32 × Int32, o = .inl s → J x M 8 [(0, .ref (x_ad x 0)), (1, .int x1), (2, .int s.1), (3, .int s.2)] []) (ke_0 : ∀ v : Int32, o = .inr v → J x M 78 [(2, .int v)] []) : J x M 8 [(0, .ref (x_ad x 0)), (1, .int x1), (2, .int x2), (3, .int x3)] [] := by
  unfold bl_X11_disallowedOf_8 at h
  refine r_iload_n C.1 3 dX11_disallowedOf_8 rfl rfl ?_
  refine r_aload_n C.1 0 dX11_disallowedOf_9 rfl rfl ?_
  refine gf_X11_19 C dX11_disallowedOf_10 ?_
  refine r_iconst (v := 2) C.1 dX11_disallowedOf_13 rfl ?_
  obtain ⟨q_1, h⟩ := gd_E h
  refine r_iald C.1 (mK C (by decide)) (mS C (shm_4)) 0 (mT0 C) q_1 dX11_disallowedOf_14 ?_
  refine r_icmp_ge C.1 78 dX11_disallowedOf_15 (by decide) (fun c_2 => ?_) (fun c_2 => ?_)
  · replace h := ite_T c_2 h
    exact r_sub [2] rfl (ke_0 _ (Option.some.inj h).symm)
  · replace h := ite_F c_2 h
    refine r_aload_n C.1 0 dX11_disallowedOf_18 rfl rfl ?_
    refine r_iload_n C.1 3 dX11_disallowedOf_19 rfl rfl ?_
    refine r_iconst (v := 0) C.1 dX11_disallowedOf_20 rfl ?_
    obtain ⟨r_3, hc_4, h⟩ := bd_E h
    refine cl_X11_173 C ⟨Nat.le_of_ble_eq_true rfl, Nat.le_of_ble_eq_true rfl⟩ (m_X11_entryOf _ _ _ M x3 (0 : Int32) hc_4) (Nat.le_of_ble_eq_true rfl) dX11_disallowedOf_21 ?_
    refine r_iconst (v := 1) C.1 dX11_disallowedOf_24 rfl ?_
    refine r_icmp_ne C.1 52 dX11_disallowedOf_25 (by decide) (fun c_5 => ?_) (fun c_5 => ?_)
    · replace h := ite_F c_5 h
      exact r_sub [0, 1, 2, 3] rfl (w_X11_disallowedOf_52 C M x1 x2 x3 _ h kh ke_0)
    · replace h := ite_T c_5 h
      refine r_aload_n C.1 0 dX11_disallowedOf_28 rfl rfl ?_
      refine r_aload_n C.1 0 dX11_disallowedOf_29 rfl rfl ?_
      refine r_iload_n C.1 3 dX11_disallowedOf_30 rfl rfl ?_
      refine r_iconst (v := 1) C.1 dX11_disallowedOf_31 rfl ?_
      obtain ⟨r_6, hc_7, h⟩ := bd_E h
      refine cl_X11_173 C ⟨Nat.le_of_ble_eq_true rfl, Nat.le_of_ble_eq_true rfl⟩ (m_X11_entryOf _ _ _ M x3 (1 : Int32) hc_7) (Nat.le_of_ble_eq_true rfl) dX11_disallowedOf_32 ?_
      refine r_aload_n C.1 0 dX11_disallowedOf_35 rfl rfl ?_
      refine r_iload_n C.1 3 dX11_disallowedOf_36 rfl rfl ?_
      refine r_iconst (v := 2) C.1 dX11_disallowedOf_37 rfl ?_
      obtain ⟨r_8, hc_9, h⟩ := bd_E h
      refine cl_X11_173 C ⟨Nat.le_of_ble_eq_true rfl, Nat.le_of_ble_eq_true rfl⟩ (m_X11_entryOf _ _ _ M x3 (2 : Int32) hc_9) (Nat.le_of_ble_eq_true rfl) dX11_disallowedOf_38 ?_
      obtain ⟨r_10, hc_11, h⟩ := bd_E h
      refine cl_X11_271 C ⟨Nat.le_of_ble_eq_true rfl, Nat.le_of_ble_eq_true rfl⟩ (m_X11_guardianOf _ _ _ M r_6 r_8 hc_11) (Nat.le_of_ble_eq_true rfl) dX11_disallowedOf_41 ?_
      refine r_iload_n C.1 1 dX11_disallowedOf_44 rfl rfl ?_
      refine r_icmp_ne C.1 52 dX11_disallowedOf_45 (by decide) (fun c_12 => ?_) (fun c_12 => ?_)
      · replace h := ite_F c_12 h
        exact r_sub [0, 1, 2, 3] rfl (w_X11_disallowedOf_52 C M x1 x2 x3 _ h kh ke_0)
      · replace h := ite_T c_12 h
        refine r_iconst (v := 1) C.1 dX11_disallowedOf_48 rfl ?_
        refine r_goto C.1 53 dX11_disallowedOf_49 (by decide) ?_
        exact r_sub [0, 1, 2, 3] rfl (w_X11_disallowedOf_53 C M x1 x2 x3 (1 : Int32) _ h kh ke_0)

def b_X11_disallowedOf_8 (M : xM) (x1 : Int32) (x2 : Int32) (x3 : Int32) : Option (Int32 × xM) :=
  bd (loopN (fun s : Int32 × Int32 => bl_X11_disallowedOf_8 M x1 s.1 s.2) BG (x2, x3)) (fun v => some (v, M))
set_option maxRecDepth 20000 in
set_option maxHeartbeats 2000000 in
theorem w_X11_disallowedOf_8 {x : xC} (C : CtM x RX11 cX11_disallowedOf 5 ({ frames := 6, cells := 0, slots := 0, locals := 133 } : Room)) (M : xM) (x1 : Int32) (x2 : Int32) (x3 : Int32)  (o : Int32 × xM) (h : b_X11_disallowedOf_8 M x1 x2 x3 = some o) (hr : (x_me x).sig.returnType = some .int) (ev : x_rv x = some (.int o.1)) (eM : x_M x = o.2) : J x M 8 [(0, .ref (x_ad x 0)), (1, .int x1), (2, .int x2), (3, .int x3)] [] := by
  unfold b_X11_disallowedOf_8 at h
  obtain ⟨r_0, hr_0, h⟩ := bd_E h
  refine loopN_ind (JJ := fun s => J x M 8 [(0, .ref (x_ad x 0)), (1, .int x1), (2, .int s.1), (3, .int s.2)] []) (KX := fun q => q = r_0) ?_ BG (x2, x3) r_0 hr_0 rfl
  intro s o1 hb kk1 kk2
  refine wl_X11_disallowedOf_8 C M x1 s.1 s.2 _ hb kk1 ?_
  · intro v e0
    have e1 := kk2 _ e0
    subst e1
    refine r_iload_n C.1 0 dX11_disallowedOf_78 rfl rfl ?_
    obtain rfl := Option.some.inj h
    exact r_iret C.1 hr ev eM dX11_disallowedOf_79

def b_X11_disallowedOf_0 (M : xM) (x1 : Int32) : Option (Int32 × xM) :=
  bd (f_X11_lays M) (fun M_3 => b_X11_disallowedOf_8 M_3 x1 (0 : Int32) (0 : Int32))
set_option maxRecDepth 20000 in
set_option maxHeartbeats 2000000 in
theorem w_X11_disallowedOf_0 {x : xC} (C : CtM x RX11 cX11_disallowedOf 5 ({ frames := 6, cells := 0, slots := 0, locals := 133 } : Room)) (M : xM) (x1 : Int32)  (o : Int32 × xM) (h : b_X11_disallowedOf_0 M x1 = some o) (hr : (x_me x).sig.returnType = some .int) (ev : x_rv x = some (.int o.1)) (eM : x_M x = o.2) : J x M 0 [(0, .ref (x_ad x 0)), (1, .int x1)] [] := by
  unfold b_X11_disallowedOf_0 at h
  refine r_aload_n C.1 0 dX11_disallowedOf_0 rfl rfl ?_
  obtain ⟨M_3, hc_2, h⟩ := bd_E h
  refine cl_X11_221 C ⟨Nat.le_of_ble_eq_true rfl, Nat.le_of_ble_eq_true rfl⟩ (m_X11_lays _ _ _ M hc_2) (Nat.le_of_ble_eq_true rfl) dX11_disallowedOf_1 ?_
  refine r_iconst (v := 0) C.1 dX11_disallowedOf_4 rfl ?_
  refine r_istore_n C.1 [(2, .int (0 : Int32)), (0, .ref (x_ad x 0)), (1, .int x1)] dX11_disallowedOf_5 rfl (by decide) rfl rfl ?_
  refine r_iconst (v := 0) C.1 dX11_disallowedOf_6 rfl ?_
  refine r_istore_n C.1 [(3, .int (0 : Int32)), (2, .int (0 : Int32)), (0, .ref (x_ad x 0)), (1, .int x1)] dX11_disallowedOf_7 rfl (by decide) rfl rfl ?_
  exact r_sub [2, 3, 1, 0] rfl (w_X11_disallowedOf_8 C M_3 x1 (0 : Int32) (0 : Int32) _ h hr ev eM)
def f_X11_disallowedOf (M : xM) (x1 : Int32) : Option (Int32 × xM) := b_X11_disallowedOf_0 M x1
set_option maxRecDepth 20000 in
theorem m_X11_disallowedOf (l : Launch) (D : va_G) (ad : Nat → Nat) (M : xM) (x1 : Int32)  {r : Int32} {M1 : xM} (h : f_X11_disallowedOf M x1 = some (r, M1)) : xMetM l yX11_disallowedOf cX11_disallowedOf 5 (some .int) ({ frames := 6, cells := 0, slots := 0, locals := 133 } : Room) [.ref (ad 0), .int x1] D ad M (some (.int r)) M1 := by
  refine xMetM_of (own := RX11) (by decide) rfl (Nat.le_of_ble_eq_true rfl) ?_
  intro x C e1 e2 e3 ev eM hr
  subst e1; subst e2; subst e3
  refine r_sub (L := [(0, .ref (x_ad x 0)), (1, .int x1)]) (L' := [(0, .ref (x_ad x 0)), (1, .int x1)]) [0, 1] rfl ?_
  exact w_X11_disallowedOf_0 C M x1 _ h hr ev eM

def b_X11_chargesOf_150 (M : xM) (x1 : Int32) (x2 : Int32) (x4 : Int32) (s0 : Int32) (s1 : Int32) : Option ((xM × Int32 × Int32) ⊕ (xM × Int32)) :=
  lt (s1 + s0) (fun y_1 => lt (x4 + (1 : Int32)) (fun y_2 => some (.inl (M, y_1, y_2))))
set_option maxRecDepth 20000 in
set_option maxHeartbeats 2000000 in
theorem w_X11_chargesOf_150 {x : xC} (C : CtM x RX11 cX11_chargesOf 10 ({ frames := 7, cells := 0, slots := 0, locals := 155 } : Room)) (M : xM) (x1 : Int32) (x2 : Int32) (x4 : Int32) (s0 : Int32) (s1 : Int32)  (o : (xM × Int32 × Int32) ⊕ (xM × Int32)) (h : b_X11_chargesOf_150 M x1 x2 x4 s0 s1 = some o) (kh : ∀ s : xM × Int32 × Int32, o = .inl s → J x s.1 10 [(0, .ref (x_ad x 0)), (1, .int x1), (2, .int x2), (3, .int s.2.1), (4, .int s.2.2)] []) (ke_0 : ∀ v : xM × Int32, o = .inr v → J x v.1 158 [(3, .int v.2)] []) : J x M 150 [(0, .ref (x_ad x 0)), (1, .int x1), (2, .int x2), (4, .int x4)] [.int s0, .int s1] := by
  unfold b_X11_chargesOf_150 at h
  refine r_iadd C.1 dX11_chargesOf_150 ?_
  obtain ⟨y_1, ey_1, h⟩ := lt_E h
  refine r_istore_n C.1 [(3, .int y_1), (0, .ref (x_ad x 0)), (1, .int x1), (2, .int x2), (4, .int x4)] dX11_chargesOf_151 rfl (by decide) ey_1 rfl ?_
  obtain ⟨y_2, ey_2, h⟩ := lt_E h
  refine r_iinc C.1 4 [(4, .int y_2), (3, .int y_1), (0, .ref (x_ad x 0)), (1, .int x1), (2, .int x2)] dX11_chargesOf_152 rfl ey_2 (by decide) rfl ?_
  refine r_goto C.1 10 dX11_chargesOf_155 (by decide) ?_
  exact r_sub [2, 3, 4, 1, 0] rfl (kh _ (Option.some.inj h).symm)

def b_X11_chargesOf_111 (M : xM) (x1 : Int32) (x2 : Int32) (x3 : Int32) (x4 : Int32) (x5 : Int64) (x9 : Int32) (s0 : Int64) (s1 : Int64) : Option ((Int64 × Int64 × Int32) ⊕ (Int64 × Int64)) :=
  lt (s1 + s0) (fun y_1 => lt (x9 + (1 : Int32)) (fun y_2 => some (.inl (x5, y_1, y_2))))
set_option maxRecDepth 20000 in
set_option maxHeartbeats 2000000 in
theorem w_X11_chargesOf_111 {x : xC} (C : CtM x RX11 cX11_chargesOf 10 ({ frames := 7, cells := 0, slots := 0, locals := 155 } : Room)) (M : xM) (x1 : Int32) (x2 : Int32) (x3 : Int32) (x4 : Int32) (x5 : Int64) (x9 : Int32) (s0 : Int64) (s1 : Int64)  (o : (Int64 × Int64 × Int32) ⊕ (Int64 × Int64)) (h : b_X11_chargesOf_111 M x1 x2 x3 x4 x5 x9 s0 s1 = some o) (kh : ∀ s : Int64 × Int64 × Int32, o = .inl s → J x M 58 [(0, .ref (x_ad x 0)), (1, .int x1), (2, .int x2), (3, .int x3), (4, .int x4), (5, .long s.1), (7, .long s.2.1), (9, .int s.2.2)] []) (ke_0 : ∀ v : Int64 × Int64, o = .inr v → J x M 120 [(0, .ref (x_ad x 0)), (1, .int x1), (2, .int x2), (3, .int x3), (4, .int x4), (5, .long v.1), (7, .long v.2)] []) : J x M 111 [(0, .ref (x_ad x 0)), (1, .int x1), (2, .int x2), (3, .int x3), (4, .int x4), (5, .long x5), (9, .int x9)] [.long s0, .long s1] := by
  unfold b_X11_chargesOf_111 at h
  refine r_ladd C.1 dX11_chargesOf_111 ?_
  obtain ⟨y_1, ey_1, h⟩ := lt_E h
  refine r_lstore C.1 [(7, .long y_1), (0, .ref (x_ad x 0)), (1, .int x1), (2, .int x2), (3, .int x3), (4, .int x4), (5, .long x5), (9, .int x9)] dX11_chargesOf_112 (by decide) ey_1 rfl ?_
  obtain ⟨y_2, ey_2, h⟩ := lt_E h
  refine r_iinc C.1 7 [(9, .int y_2), (7, .long y_1), (0, .ref (x_ad x 0)), (1, .int x1), (2, .int x2), (3, .int x3), (4, .int x4), (5, .long x5)] dX11_chargesOf_114 rfl ey_2 (by decide) rfl ?_
  refine r_goto C.1 58 dX11_chargesOf_117 (by decide) ?_
  exact r_sub [2, 3, 4, 5, 6, 7, 1, 0] rfl (kh _ (Option.some.inj h).symm)

def bl_X11_chargesOf_58 (M : xM) (x1 : Int32) (x2 : Int32) (x3 : Int32) (x4 : Int32) (x5 : Int64) (x7 : Int64) (x9 : Int32) : Option ((Int64 × Int64 × Int32) ⊕ (Int64 × Int64)) :=
  if (((360 : Int32) * x4) + (360 : Int32)) ≤ x9 then some (.inr (x5, x7)) else gd x9 3600 (lt (x5 + ((M 10 x9.toNatClampNeg).toInt64)) (fun y_3 => bd (f_X11_guardianOf M x2 x9) (fun r_4 => if r_4 = x1 then gd x9 3600 (b_X11_chargesOf_111 M x1 x2 x3 x4 y_3 x9 ((M 10 x9.toNatClampNeg).toInt64) x7) else b_X11_chargesOf_111 M x1 x2 x3 x4 y_3 x9 (0 : Int64) x7)))
set_option maxRecDepth 20000 in
set_option maxHeartbeats 2000000 in
theorem wl_X11_chargesOf_58 {x : xC} (C : CtM x RX11 cX11_chargesOf 10 ({ frames := 7, cells := 0, slots := 0, locals := 155 } : Room)) (M : xM) (x1 : Int32) (x2 : Int32) (x3 : Int32) (x4 : Int32) (x5 : Int64) (x7 : Int64) (x9 : Int32)  (o : (Int64 × Int64 × Int32) ⊕ (Int64 × Int64)) (h : bl_X11_chargesOf_58 M x1 x2 x3 x4 x5 x7 x9 = some o) (kh : ∀ s : Int64 × Int64 × Int32, o = .inl s → J x M 58 [(0, .ref (x_ad x 0)), (1, .int x1), (2, .int x2), (3, .int x3), (4, .int x4), (5, .long s.1), (7, .long s.2.1), (9, .int s.2.2)] []) (ke_0 : ∀ v : Int64 × Int64, o = .inr v → J x M 120 [(0, .ref (x_ad x 0)), (1, .int x1), (2, .int x2), (3, .int x3), (4, .int x4), (5, .long v.1), (7, .long v.2)] []) : J x M 58 [(0, .ref (x_ad x 0)), (1, .int x1), (2, .int x2), (3, .int x3), (4, .int x4), (5, .long x5), (7, .long x7), (9, .int x9)] [] := by
  unfold bl_X11_chargesOf_58 at h
  refine r_iload C.1 7 dX11_chargesOf_58 rfl ?_
  refine r_sipush (v := 360) C.1 dX11_chargesOf_60 (by decide) ?_
  refine r_iload C.1 4 dX11_chargesOf_63 rfl ?_
  refine r_imul C.1 dX11_chargesOf_65 ?_
  refine r_sipush (v := 360) C.1 dX11_chargesOf_66 (by decide) ?_
  refine r_iadd C.1 dX11_chargesOf_69 ?_
  refine r_icmp_ge C.1 120 dX11_chargesOf_70 (by decide) (fun c_1 => ?_) (fun c_1 => ?_)
  · replace h := ite_T c_1 h
    exact r_sub [0, 1, 2, 3, 4, 5, 6] rfl (ke_0 _ (Option.some.inj h).symm)
  · replace h := ite_F c_1 h
    refine r_lload C.1 5 dX11_chargesOf_73 rfl ?_
    refine r_aload_n C.1 0 dX11_chargesOf_75 rfl rfl ?_
    refine gf_X11_37 C dX11_chargesOf_76 ?_
    refine r_iload C.1 7 dX11_chargesOf_79 rfl ?_
    obtain ⟨q_2, h⟩ := gd_E h
    refine r_iald C.1 (mK C (by decide)) (mS C (shm_10)) 0 (mT0 C) q_2 dX11_chargesOf_81 ?_
    refine r_i2l C.1 dX11_chargesOf_82 ?_
    refine r_ladd C.1 dX11_chargesOf_83 ?_
    obtain ⟨y_3, ey_3, h⟩ := lt_E h
    refine r_lstore C.1 [(5, .long y_3), (0, .ref (x_ad x 0)), (1, .int x1), (2, .int x2), (3, .int x3), (4, .int x4), (7, .long x7), (9, .int x9)] dX11_chargesOf_84 (by decide) ey_3 rfl ?_
    refine r_lload C.1 6 dX11_chargesOf_86 rfl ?_
    refine r_aload_n C.1 1 dX11_chargesOf_88 rfl rfl ?_
    refine r_iload_n C.1 3 dX11_chargesOf_89 rfl rfl ?_
    refine r_iload C.1 7 dX11_chargesOf_90 rfl ?_
    obtain ⟨r_4, hc_5, h⟩ := bd_E h
    refine cl_X11_271 C ⟨Nat.le_of_ble_eq_true rfl, Nat.le_of_ble_eq_true rfl⟩ (m_X11_guardianOf _ _ _ M x2 x9 hc_5) (Nat.le_of_ble_eq_true rfl) dX11_chargesOf_92 ?_
    refine r_iload_n C.1 2 dX11_chargesOf_95 rfl rfl ?_
    refine r_icmp_ne C.1 110 dX11_chargesOf_96 (by decide) (fun c_6 => ?_) (fun c_6 => ?_)
    · replace h := ite_F c_6 h
      refine r_lconst (v := 0) C.1 dX11_chargesOf_110 rfl ?_
      exact r_sub [1, 2, 3, 4, 5, 0, 7] rfl (w_X11_chargesOf_111 C M x1 x2 x3 x4 y_3 x9 (0 : Int64) x7 _ h kh ke_0)
    · replace h := ite_T c_6 h
      refine r_aload_n C.1 1 dX11_chargesOf_99 rfl rfl ?_
      refine gf_X11_37 C dX11_chargesOf_100 ?_
      refine r_iload C.1 7 dX11_chargesOf_103 rfl ?_
      obtain ⟨q_7, h⟩ := gd_E h
      refine r_iald C.1 (mK C (by decide)) (mS C (shm_10)) 0 (mT0 C) q_7 dX11_chargesOf_105 ?_
      refine r_i2l C.1 dX11_chargesOf_106 ?_
      refine r_goto C.1 111 dX11_chargesOf_107 (by decide) ?_
      exact r_sub [1, 2, 3, 4, 5, 0, 7] rfl (w_X11_chargesOf_111 C M x1 x2 x3 x4 y_3 x9 ((M 10 x9.toNatClampNeg).toInt64) x7 _ h kh ke_0)

def b_X11_chargesOf_58 (M : xM) (x1 : Int32) (x2 : Int32) (x3 : Int32) (x4 : Int32) (x5 : Int64) (x7 : Int64) (x9 : Int32) : Option ((xM × Int32 × Int32) ⊕ (xM × Int32)) :=
  bd (loopN (fun s : Int64 × Int64 × Int32 => bl_X11_chargesOf_58 M x1 x2 x3 x4 s.1 s.2.1 s.2.2) BG (x5, x7, x9)) (fun v => if (lg_cmp v.1 (0 : Int64)) = 0 then b_X11_chargesOf_150 M x1 x2 x4 (0 : Int32) x3 else bd (f_X11_its M x2 ((16 : Int32) + x4)) (fun r_2 => g0L v.1 (b_X11_chargesOf_150 M x1 x2 x4 (((r_2.toInt64 * v.2) / v.1).toInt32) x3)))
set_option maxRecDepth 20000 in
set_option maxHeartbeats 2000000 in
theorem w_X11_chargesOf_58 {x : xC} (C : CtM x RX11 cX11_chargesOf 10 ({ frames := 7, cells := 0, slots := 0, locals := 155 } : Room)) (M : xM) (x1 : Int32) (x2 : Int32) (x3 : Int32) (x4 : Int32) (x5 : Int64) (x7 : Int64) (x9 : Int32)  (o : (xM × Int32 × Int32) ⊕ (xM × Int32)) (h : b_X11_chargesOf_58 M x1 x2 x3 x4 x5 x7 x9 = some o) (kh : ∀ s : xM × Int32 × Int32, o = .inl s → J x s.1 10 [(0, .ref (x_ad x 0)), (1, .int x1), (2, .int x2), (3, .int s.2.1), (4, .int s.2.2)] []) (ke_0 : ∀ v : xM × Int32, o = .inr v → J x v.1 158 [(3, .int v.2)] []) : J x M 58 [(0, .ref (x_ad x 0)), (1, .int x1), (2, .int x2), (3, .int x3), (4, .int x4), (5, .long x5), (7, .long x7), (9, .int x9)] [] := by
  unfold b_X11_chargesOf_58 at h
  obtain ⟨r_0, hr_0, h⟩ := bd_E h
  refine loopN_ind (JJ := fun s => J x M 58 [(0, .ref (x_ad x 0)), (1, .int x1), (2, .int x2), (3, .int x3), (4, .int x4), (5, .long s.1), (7, .long s.2.1), (9, .int s.2.2)] []) (KX := fun q => q = r_0) ?_ BG (x5, x7, x9) r_0 hr_0 rfl
  intro s o1 hb kk1 kk2
  refine wl_X11_chargesOf_58 C M x1 x2 x3 x4 s.1 s.2.1 s.2.2 _ hb kk1 ?_
  · intro v e0
    have e1 := kk2 _ e0
    subst e1
    refine r_iload_n C.1 3 dX11_chargesOf_120 rfl rfl ?_
    refine r_lload C.1 5 dX11_chargesOf_121 rfl ?_
    refine r_lconst (v := 0) C.1 dX11_chargesOf_123 rfl ?_
    refine r_lcmp C.1 dX11_chargesOf_124 ?_
    refine r_if_ne C.1 132 dX11_chargesOf_125 (by decide) (fun c_1 => ?_) (fun c_1 => ?_)
    · replace h := ite_F c_1 h
      refine r_aload_n C.1 0 dX11_chargesOf_132 rfl rfl ?_
      refine r_iload_n C.1 2 dX11_chargesOf_133 rfl rfl ?_
      refine r_bipush (v := 16) C.1 dX11_chargesOf_134 (by decide) ?_
      refine r_iload C.1 4 dX11_chargesOf_136 rfl ?_
      refine r_iadd C.1 dX11_chargesOf_138 ?_
      obtain ⟨r_2, hc_3, h⟩ := bd_E h
      refine cl_X11_176 C ⟨Nat.le_of_ble_eq_true rfl, Nat.le_of_ble_eq_true rfl⟩ (m_X11_its _ _ _ M x2 ((16 : Int32) + x4) hc_3) (Nat.le_of_ble_eq_true rfl) dX11_chargesOf_139 ?_
      refine r_i2l C.1 dX11_chargesOf_142 ?_
      refine r_lload C.1 6 dX11_chargesOf_143 rfl ?_
      refine r_lmul C.1 dX11_chargesOf_145 ?_
      refine r_lload C.1 5 dX11_chargesOf_146 rfl ?_
      obtain ⟨z_4, h⟩ := g0L_E h
      refine r_ldiv C.1 z_4 dX11_chargesOf_148 ?_
      refine r_l2i C.1 dX11_chargesOf_149 ?_
      exact r_sub [0, 1, 2, 4] rfl (w_X11_chargesOf_150 C M x1 x2 x4 (((r_2.toInt64 * v.2) / v.1).toInt32) x3 _ h kh ke_0)
    · replace h := ite_T c_1 h
      refine r_iconst (v := 0) C.1 dX11_chargesOf_128 rfl ?_
      refine r_goto C.1 150 dX11_chargesOf_129 (by decide) ?_
      exact r_sub [0, 1, 2, 4] rfl (w_X11_chargesOf_150 C M x1 x2 x4 (0 : Int32) x3 _ h kh ke_0)

def bl_X11_chargesOf_10 (M : xM) (x1 : Int32) (x2 : Int32) (x3 : Int32) (x4 : Int32) : Option ((xM × Int32 × Int32) ⊕ (xM × Int32)) :=
  bd (f_X11_its M x2 (15 : Int32)) (fun r_1 => if r_1 ≤ x4 then some (.inr (M, x3)) else bd (f_X11_laysIdle M ((360 : Int32) * x4) ((((360 : Int32) * x4) + (360 : Int32)) - (1 : Int32))) (fun M_6 => lt ((360 : Int32) * x4) (fun y_7 => b_X11_chargesOf_58 M_6 x1 x2 x3 x4 (0 : Int64) (0 : Int64) y_7)))
set_option maxRecDepth 20000 in
set_option maxHeartbeats 2000000 in
theorem wl_X11_chargesOf_10 {x : xC} (C : CtM x RX11 cX11_chargesOf 10 ({ frames := 7, cells := 0, slots := 0, locals := 155 } : Room)) (M : xM) (x1 : Int32) (x2 : Int32) (x3 : Int32) (x4 : Int32)  (o : (xM × Int32 × Int32) ⊕ (xM × Int32)) (h : bl_X11_chargesOf_10 M x1 x2 x3 x4 = some o) (kh : ∀ s : xM × Int32 × Int32, o = .inl s → J x s.1 10 [(0, .ref (x_ad x 0)), (1, .int x1), (2, .int x2), (3, .int s.2.1), (4, .int s.2.2)] []) (ke_0 : ∀ v : xM × Int32, o = .inr v → J x v.1 158 [(3, .int v.2)] []) : J x M 10 [(0, .ref (x_ad x 0)), (1, .int x1), (2, .int x2), (3, .int x3), (4, .int x4)] [] := by
  unfold bl_X11_chargesOf_10 at h
  refine r_iload C.1 4 dX11_chargesOf_10 rfl ?_
  refine r_aload_n C.1 0 dX11_chargesOf_12 rfl rfl ?_
  refine r_iload_n C.1 2 dX11_chargesOf_13 rfl rfl ?_
  refine r_bipush (v := 15) C.1 dX11_chargesOf_14 (by decide) ?_
  obtain ⟨r_1, hc_2, h⟩ := bd_E h
  refine cl_X11_176 C ⟨Nat.le_of_ble_eq_true rfl, Nat.le_of_ble_eq_true rfl⟩ (m_X11_its _ _ _ M x2 (15 : Int32) hc_2) (Nat.le_of_ble_eq_true rfl) dX11_chargesOf_16 ?_
  refine r_icmp_ge C.1 158 dX11_chargesOf_19 (by decide) (fun c_3 => ?_) (fun c_3 => ?_)
  · replace h := ite_T c_3 h
    exact r_sub [3] rfl (ke_0 _ (Option.some.inj h).symm)
  · replace h := ite_F c_3 h
    refine r_aload_n C.1 0 dX11_chargesOf_22 rfl rfl ?_
    refine r_sipush (v := 360) C.1 dX11_chargesOf_23 (by decide) ?_
    refine r_iload C.1 4 dX11_chargesOf_26 rfl ?_
    refine r_imul C.1 dX11_chargesOf_28 ?_
    refine r_sipush (v := 360) C.1 dX11_chargesOf_29 (by decide) ?_
    refine r_iload C.1 4 dX11_chargesOf_32 rfl ?_
    refine r_imul C.1 dX11_chargesOf_34 ?_
    refine r_sipush (v := 360) C.1 dX11_chargesOf_35 (by decide) ?_
    refine r_iadd C.1 dX11_chargesOf_38 ?_
    refine r_iconst (v := 1) C.1 dX11_chargesOf_39 rfl ?_
    refine r_isub C.1 dX11_chargesOf_40 ?_
    obtain ⟨M_6, hc_5, h⟩ := bd_E h
    refine cl_X11_224 C ⟨Nat.le_of_ble_eq_true rfl, Nat.le_of_ble_eq_true rfl⟩ (m_X11_laysIdle _ _ _ M ((360 : Int32) * x4) ((((360 : Int32) * x4) + (360 : Int32)) - (1 : Int32)) hc_5) (Nat.le_of_ble_eq_true rfl) dX11_chargesOf_41 ?_
    refine r_lconst (v := 0) C.1 dX11_chargesOf_44 rfl ?_
    refine r_lstore C.1 [(5, .long (0 : Int64)), (0, .ref (x_ad x 0)), (1, .int x1), (2, .int x2), (3, .int x3), (4, .int x4)] dX11_chargesOf_45 (by decide) rfl rfl ?_
    refine r_lconst (v := 0) C.1 dX11_chargesOf_47 rfl ?_
    refine r_lstore C.1 [(7, .long (0 : Int64)), (5, .long (0 : Int64)), (0, .ref (x_ad x 0)), (1, .int x1), (2, .int x2), (3, .int x3), (4, .int x4)] dX11_chargesOf_48 (by decide) rfl rfl ?_
    refine r_sipush (v := 360) C.1 dX11_chargesOf_50 (by decide) ?_
    refine r_iload C.1 6 dX11_chargesOf_53 rfl ?_
    refine r_imul C.1 dX11_chargesOf_55 ?_
    obtain ⟨y_7, ey_7, h⟩ := lt_E h
    refine r_istore C.1 [(9, .int y_7), (7, .long (0 : Int64)), (5, .long (0 : Int64)), (0, .ref (x_ad x 0)), (1, .int x1), (2, .int x2), (3, .int x3), (4, .int x4)] dX11_chargesOf_56 (by decide) ey_7 rfl ?_
    exact r_sub [3, 4, 5, 6, 7, 2, 1, 0] rfl (w_X11_chargesOf_58 C M_6 x1 x2 x3 x4 (0 : Int64) (0 : Int64) y_7 _ h kh ke_0)

def b_X11_chargesOf_10 (M : xM) (x1 : Int32) (x2 : Int32) (x3 : Int32) (x4 : Int32) : Option (Int32 × xM) :=
  bd (loopN (fun s : xM × Int32 × Int32 => bl_X11_chargesOf_10 s.1 x1 x2 s.2.1 s.2.2) BG (M, x3, x4)) (fun v => some (v.2, v.1))
set_option maxRecDepth 20000 in
set_option maxHeartbeats 2000000 in
theorem w_X11_chargesOf_10 {x : xC} (C : CtM x RX11 cX11_chargesOf 10 ({ frames := 7, cells := 0, slots := 0, locals := 155 } : Room)) (M : xM) (x1 : Int32) (x2 : Int32) (x3 : Int32) (x4 : Int32)  (o : Int32 × xM) (h : b_X11_chargesOf_10 M x1 x2 x3 x4 = some o) (hr : (x_me x).sig.returnType = some .int) (ev : x_rv x = some (.int o.1)) (eM : x_M x = o.2) : J x M 10 [(0, .ref (x_ad x 0)), (1, .int x1), (2, .int x2), (3, .int x3), (4, .int x4)] [] := by
  unfold b_X11_chargesOf_10 at h
  obtain ⟨r_0, hr_0, h⟩ := bd_E h
  refine loopN_ind (JJ := fun s => J x s.1 10 [(0, .ref (x_ad x 0)), (1, .int x1), (2, .int x2), (3, .int s.2.1), (4, .int s.2.2)] []) (KX := fun q => q = r_0) ?_ BG (M, x3, x4) r_0 hr_0 rfl
  intro s o1 hb kk1 kk2
  refine wl_X11_chargesOf_10 C s.1 x1 x2 s.2.1 s.2.2 _ hb kk1 ?_
  · intro v e0
    have e1 := kk2 _ e0
    subst e1
    refine r_iload_n C.1 0 dX11_chargesOf_158 rfl rfl ?_
    obtain rfl := Option.some.inj h
    exact r_iret C.1 hr ev eM dX11_chargesOf_159

def b_X11_chargesOf_0 (M : xM) (x1 : Int32) (x2 : Int32) : Option (Int32 × xM) :=
  bd (f_X11_laysMoney M x2) (fun M_3 => b_X11_chargesOf_10 M_3 x1 x2 (0 : Int32) (0 : Int32))
set_option maxRecDepth 20000 in
set_option maxHeartbeats 2000000 in
theorem w_X11_chargesOf_0 {x : xC} (C : CtM x RX11 cX11_chargesOf 10 ({ frames := 7, cells := 0, slots := 0, locals := 155 } : Room)) (M : xM) (x1 : Int32) (x2 : Int32)  (o : Int32 × xM) (h : b_X11_chargesOf_0 M x1 x2 = some o) (hr : (x_me x).sig.returnType = some .int) (ev : x_rv x = some (.int o.1)) (eM : x_M x = o.2) : J x M 0 [(0, .ref (x_ad x 0)), (1, .int x1), (2, .int x2)] [] := by
  unfold b_X11_chargesOf_0 at h
  refine r_iconst (v := 0) C.1 dX11_chargesOf_0 rfl ?_
  refine r_istore_n C.1 [(3, .int (0 : Int32)), (0, .ref (x_ad x 0)), (1, .int x1), (2, .int x2)] dX11_chargesOf_1 rfl (by decide) rfl rfl ?_
  refine r_aload_n C.1 1 dX11_chargesOf_2 rfl rfl ?_
  refine r_iload_n C.1 3 dX11_chargesOf_3 rfl rfl ?_
  obtain ⟨M_3, hc_2, h⟩ := bd_E h
  refine cl_X11_230 C ⟨Nat.le_of_ble_eq_true rfl, Nat.le_of_ble_eq_true rfl⟩ (m_X11_laysMoney _ _ _ M x2 hc_2) (Nat.le_of_ble_eq_true rfl) dX11_chargesOf_4 ?_
  refine r_iconst (v := 0) C.1 dX11_chargesOf_7 rfl ?_
  refine r_istore C.1 [(4, .int (0 : Int32)), (3, .int (0 : Int32)), (0, .ref (x_ad x 0)), (1, .int x1), (2, .int x2)] dX11_chargesOf_8 (by decide) rfl rfl ?_
  exact r_sub [2, 3, 4, 1, 0] rfl (w_X11_chargesOf_10 C M_3 x1 x2 (0 : Int32) (0 : Int32) _ h hr ev eM)
def f_X11_chargesOf (M : xM) (x1 : Int32) (x2 : Int32) : Option (Int32 × xM) := b_X11_chargesOf_0 M x1 x2
set_option maxRecDepth 20000 in
theorem m_X11_chargesOf (l : Launch) (D : va_G) (ad : Nat → Nat) (M : xM) (x1 : Int32) (x2 : Int32)  {r : Int32} {M1 : xM} (h : f_X11_chargesOf M x1 x2 = some (r, M1)) : xMetM l yX11_chargesOf cX11_chargesOf 10 (some .int) ({ frames := 7, cells := 0, slots := 0, locals := 155 } : Room) [.ref (ad 0), .int x1, .int x2] D ad M (some (.int r)) M1 := by
  refine xMetM_of (own := RX11) (by decide) rfl (Nat.le_of_ble_eq_true rfl) ?_
  intro x C e1 e2 e3 ev eM hr
  subst e1; subst e2; subst e3
  refine r_sub (L := [(0, .ref (x_ad x 0)), (1, .int x1), (2, .int x2)]) (L' := [(0, .ref (x_ad x 0)), (1, .int x1), (2, .int x2)]) [0, 1, 2] rfl ?_
  exact w_X11_chargesOf_0 C M x1 x2 _ h hr ev eM

def b_X11_costsOf_53 (M : xM) (x1 : Int32) (x2 : Int32) (x4 : Int32) (s0 : Int32) (s1 : Int32) : Option ((Int32 × Int32) ⊕ (Int32)) :=
  lt (s1 + s0) (fun y_1 => lt (x4 + (1 : Int32)) (fun y_2 => some (.inl (y_1, y_2))))
set_option maxRecDepth 20000 in
set_option maxHeartbeats 2000000 in
theorem w_X11_costsOf_53 {x : xC} (C : CtM x RX11 cX11_costsOf 5 ({ frames := 2, cells := 0, slots := 0, locals := 46 } : Room)) (M : xM) (x1 : Int32) (x2 : Int32) (x4 : Int32) (s0 : Int32) (s1 : Int32)  (o : (Int32 × Int32) ⊕ (Int32)) (h : b_X11_costsOf_53 M x1 x2 x4 s0 s1 = some o) (kh : ∀ s : Int32 × Int32, o = .inl s → J x M 5 [(0, .ref (x_ad x 0)), (1, .int x1), (2, .int x2), (3, .int s.1), (4, .int s.2)] []) (ke_0 : ∀ v : Int32, o = .inr v → J x M 61 [(3, .int v)] []) : J x M 53 [(0, .ref (x_ad x 0)), (1, .int x1), (2, .int x2), (4, .int x4)] [.int s0, .int s1] := by
  unfold b_X11_costsOf_53 at h
  refine r_iadd C.1 dX11_costsOf_53 ?_
  obtain ⟨y_1, ey_1, h⟩ := lt_E h
  refine r_istore_n C.1 [(3, .int y_1), (0, .ref (x_ad x 0)), (1, .int x1), (2, .int x2), (4, .int x4)] dX11_costsOf_54 rfl (by decide) ey_1 rfl ?_
  obtain ⟨y_2, ey_2, h⟩ := lt_E h
  refine r_iinc C.1 4 [(4, .int y_2), (3, .int y_1), (0, .ref (x_ad x 0)), (1, .int x1), (2, .int x2)] dX11_costsOf_55 rfl ey_2 (by decide) rfl ?_
  refine r_goto C.1 5 dX11_costsOf_58 (by decide) ?_
  exact r_sub [2, 3, 4, 1, 0] rfl (kh _ (Option.some.inj h).symm)

def bl_X11_costsOf_5 (M : xM) (x1 : Int32) (x2 : Int32) (x3 : Int32) (x4 : Int32) : Option ((Int32 × Int32) ⊕ (Int32)) :=
  bd (f_X11_its M x2 (15 : Int32)) (fun r_1 => if r_1 ≤ x4 then some (.inr x3) else bd (f_X11_guardianOf M x2 ((((360 : Int32) * x4) + (360 : Int32)) - (1 : Int32))) (fun r_4 => if r_4 = x1 then bd (f_X11_its M x2 ((26 : Int32) + x4)) (fun r_7 => b_X11_costsOf_53 M x1 x2 x4 r_7 x3) else b_X11_costsOf_53 M x1 x2 x4 (0 : Int32) x3))
set_option maxRecDepth 20000 in
set_option maxHeartbeats 2000000 in
theorem wl_X11_costsOf_5 {x : xC} (C : CtM x RX11 cX11_costsOf 5 ({ frames := 2, cells := 0, slots := 0, locals := 46 } : Room)) (M : xM) (x1 : Int32) (x2 : Int32) (x3 : Int32) (x4 : Int32)  (o : (Int32 × Int32) ⊕ (Int32)) (h : bl_X11_costsOf_5 M x1 x2 x3 x4 = some o) (kh : ∀ s : Int32 × Int32, o = .inl s → J x M 5 [(0, .ref (x_ad x 0)), (1, .int x1), (2, .int x2), (3, .int s.1), (4, .int s.2)] []) (ke_0 : ∀ v : Int32, o = .inr v → J x M 61 [(3, .int v)] []) : J x M 5 [(0, .ref (x_ad x 0)), (1, .int x1), (2, .int x2), (3, .int x3), (4, .int x4)] [] := by
  unfold bl_X11_costsOf_5 at h
  refine r_iload C.1 4 dX11_costsOf_5 rfl ?_
  refine r_aload_n C.1 0 dX11_costsOf_7 rfl rfl ?_
  refine r_iload_n C.1 2 dX11_costsOf_8 rfl rfl ?_
  refine r_bipush (v := 15) C.1 dX11_costsOf_9 (by decide) ?_
  obtain ⟨r_1, hc_2, h⟩ := bd_E h
  refine cl_X11_176 C ⟨Nat.le_of_ble_eq_true rfl, Nat.le_of_ble_eq_true rfl⟩ (m_X11_its _ _ _ M x2 (15 : Int32) hc_2) (Nat.le_of_ble_eq_true rfl) dX11_costsOf_11 ?_
  refine r_icmp_ge C.1 61 dX11_costsOf_14 (by decide) (fun c_3 => ?_) (fun c_3 => ?_)
  · replace h := ite_T c_3 h
    exact r_sub [3] rfl (ke_0 _ (Option.some.inj h).symm)
  · replace h := ite_F c_3 h
    refine r_iload_n C.1 3 dX11_costsOf_17 rfl rfl ?_
    refine r_aload_n C.1 0 dX11_costsOf_18 rfl rfl ?_
    refine r_iload_n C.1 2 dX11_costsOf_19 rfl rfl ?_
    refine r_sipush (v := 360) C.1 dX11_costsOf_20 (by decide) ?_
    refine r_iload C.1 4 dX11_costsOf_23 rfl ?_
    refine r_imul C.1 dX11_costsOf_25 ?_
    refine r_sipush (v := 360) C.1 dX11_costsOf_26 (by decide) ?_
    refine r_iadd C.1 dX11_costsOf_29 ?_
    refine r_iconst (v := 1) C.1 dX11_costsOf_30 rfl ?_
    refine r_isub C.1 dX11_costsOf_31 ?_
    obtain ⟨r_4, hc_5, h⟩ := bd_E h
    refine cl_X11_271 C ⟨Nat.le_of_ble_eq_true rfl, Nat.le_of_ble_eq_true rfl⟩ (m_X11_guardianOf _ _ _ M x2 ((((360 : Int32) * x4) + (360 : Int32)) - (1 : Int32)) hc_5) (Nat.le_of_ble_eq_true rfl) dX11_costsOf_32 ?_
    refine r_iload_n C.1 1 dX11_costsOf_35 rfl rfl ?_
    refine r_icmp_ne C.1 52 dX11_costsOf_36 (by decide) (fun c_6 => ?_) (fun c_6 => ?_)
    · replace h := ite_F c_6 h
      refine r_iconst (v := 0) C.1 dX11_costsOf_52 rfl ?_
      exact r_sub [0, 1, 2, 4] rfl (w_X11_costsOf_53 C M x1 x2 x4 (0 : Int32) x3 _ h kh ke_0)
    · replace h := ite_T c_6 h
      refine r_aload_n C.1 0 dX11_costsOf_39 rfl rfl ?_
      refine r_iload_n C.1 2 dX11_costsOf_40 rfl rfl ?_
      refine r_bipush (v := 26) C.1 dX11_costsOf_41 (by decide) ?_
      refine r_iload C.1 4 dX11_costsOf_43 rfl ?_
      refine r_iadd C.1 dX11_costsOf_45 ?_
      obtain ⟨r_7, hc_8, h⟩ := bd_E h
      refine cl_X11_176 C ⟨Nat.le_of_ble_eq_true rfl, Nat.le_of_ble_eq_true rfl⟩ (m_X11_its _ _ _ M x2 ((26 : Int32) + x4) hc_8) (Nat.le_of_ble_eq_true rfl) dX11_costsOf_46 ?_
      refine r_goto C.1 53 dX11_costsOf_49 (by decide) ?_
      exact r_sub [0, 1, 2, 4] rfl (w_X11_costsOf_53 C M x1 x2 x4 r_7 x3 _ h kh ke_0)

def b_X11_costsOf_5 (M : xM) (x1 : Int32) (x2 : Int32) (x3 : Int32) (x4 : Int32) : Option (Int32) :=
  bd (loopN (fun s : Int32 × Int32 => bl_X11_costsOf_5 M x1 x2 s.1 s.2) BG (x3, x4)) (fun v => some v)
set_option maxRecDepth 20000 in
set_option maxHeartbeats 2000000 in
theorem w_X11_costsOf_5 {x : xC} (C : CtM x RX11 cX11_costsOf 5 ({ frames := 2, cells := 0, slots := 0, locals := 46 } : Room)) (M : xM) (x1 : Int32) (x2 : Int32) (x3 : Int32) (x4 : Int32)  (o : Int32) (h : b_X11_costsOf_5 M x1 x2 x3 x4 = some o) (hr : (x_me x).sig.returnType = some .int) (ev : x_rv x = some (.int o)) (eM : x_M x = M) : J x M 5 [(0, .ref (x_ad x 0)), (1, .int x1), (2, .int x2), (3, .int x3), (4, .int x4)] [] := by
  unfold b_X11_costsOf_5 at h
  obtain ⟨r_0, hr_0, h⟩ := bd_E h
  refine loopN_ind (JJ := fun s => J x M 5 [(0, .ref (x_ad x 0)), (1, .int x1), (2, .int x2), (3, .int s.1), (4, .int s.2)] []) (KX := fun q => q = r_0) ?_ BG (x3, x4) r_0 hr_0 rfl
  intro s o1 hb kk1 kk2
  refine wl_X11_costsOf_5 C M x1 x2 s.1 s.2 _ hb kk1 ?_
  · intro v e0
    have e1 := kk2 _ e0
    subst e1
    refine r_iload_n C.1 0 dX11_costsOf_61 rfl rfl ?_
    obtain rfl := Option.some.inj h
    exact r_iret C.1 hr ev eM dX11_costsOf_62

def b_X11_costsOf_0 (M : xM) (x1 : Int32) (x2 : Int32) : Option (Int32) :=
  b_X11_costsOf_5 M x1 x2 (0 : Int32) (0 : Int32)
set_option maxRecDepth 20000 in
set_option maxHeartbeats 2000000 in
theorem w_X11_costsOf_0 {x : xC} (C : CtM x RX11 cX11_costsOf 5 ({ frames := 2, cells := 0, slots := 0, locals := 46 } : Room)) (M : xM) (x1 : Int32) (x2 : Int32)  (o : Int32) (h : b_X11_costsOf_0 M x1 x2 = some o) (hr : (x_me x).sig.returnType = some .int) (ev : x_rv x = some (.int o)) (eM : x_M x = M) : J x M 0 [(0, .ref (x_ad x 0)), (1, .int x1), (2, .int x2)] [] := by
  unfold b_X11_costsOf_0 at h
  refine r_iconst (v := 0) C.1 dX11_costsOf_0 rfl ?_
  refine r_istore_n C.1 [(3, .int (0 : Int32)), (0, .ref (x_ad x 0)), (1, .int x1), (2, .int x2)] dX11_costsOf_1 rfl (by decide) rfl rfl ?_
  refine r_iconst (v := 0) C.1 dX11_costsOf_2 rfl ?_
  refine r_istore C.1 [(4, .int (0 : Int32)), (3, .int (0 : Int32)), (0, .ref (x_ad x 0)), (1, .int x1), (2, .int x2)] dX11_costsOf_3 (by decide) rfl rfl ?_
  exact r_sub [2, 3, 4, 1, 0] rfl (w_X11_costsOf_5 C M x1 x2 (0 : Int32) (0 : Int32) _ h hr ev eM)
def f_X11_costsOf (M : xM) (x1 : Int32) (x2 : Int32) : Option (Int32) := b_X11_costsOf_0 M x1 x2
set_option maxRecDepth 20000 in
theorem m_X11_costsOf (l : Launch) (D : va_G) (ad : Nat → Nat) (M : xM) (x1 : Int32) (x2 : Int32)  {o : Int32} (h : f_X11_costsOf M x1 x2 = some o) : xMetM l yX11_costsOf cX11_costsOf 5 (some .int) ({ frames := 2, cells := 0, slots := 0, locals := 46 } : Room) [.ref (ad 0), .int x1, .int x2] D ad M (some (.int o)) M := by
  refine xMetM_of (own := RX11) (by decide) rfl (Nat.le_of_ble_eq_true rfl) ?_
  intro x C e1 e2 e3 ev eM hr
  subst e1; subst e2; subst e3
  refine r_sub (L := [(0, .ref (x_ad x 0)), (1, .int x1), (2, .int x2)]) (L' := [(0, .ref (x_ad x 0)), (1, .int x1), (2, .int x2)]) [0, 1, 2] rfl ?_
  exact w_X11_costsOf_0 C M x1 x2 _ h hr ev eM

def b_X11_liable_25 (M : xM)  : Option (Int32 × xM) :=
  some ((-1000000000 : Int32), M)
set_option maxRecDepth 20000 in
set_option maxHeartbeats 2000000 in
theorem w_X11_liable_25 {x : xC} (C : CtM x RX11 cX11_liable 5 ({ frames := 8, cells := 0, slots := 0, locals := 184 } : Room)) (M : xM)   (o : Int32 × xM) (h : b_X11_liable_25 M = some o) (hr : (x_me x).sig.returnType = some .int) (ev : x_rv x = some (.int o.1)) (eM : x_M x = o.2) : J x M 25 [] [] := by
  unfold b_X11_liable_25 at h
  refine r_ldcw (v := -1000000000) C.1 kw_1631 dX11_liable_25 ?_
  obtain rfl := Option.some.inj h
  exact r_iret C.1 hr ev eM dX11_liable_28

def b_X11_liable_78 (M : xM) (x1 : Int32) (x2 : Int32) (x4 : Int32) (s0 : Int32) (s1 : Int32) : Option ((xM × Int32 × Int32) ⊕ (xM × Int32)) :=
  lt (s1 + s0) (fun y_1 => lt (x4 + (1 : Int32)) (fun y_2 => some (.inl (M, y_1, y_2))))
set_option maxRecDepth 20000 in
set_option maxHeartbeats 2000000 in
theorem w_X11_liable_78 {x : xC} (C : CtM x RX11 cX11_liable 5 ({ frames := 8, cells := 0, slots := 0, locals := 184 } : Room)) (M : xM) (x1 : Int32) (x2 : Int32) (x4 : Int32) (s0 : Int32) (s1 : Int32)  (o : (xM × Int32 × Int32) ⊕ (xM × Int32)) (h : b_X11_liable_78 M x1 x2 x4 s0 s1 = some o) (kh : ∀ s : xM × Int32 × Int32, o = .inl s → J x s.1 44 [(0, .ref (x_ad x 0)), (1, .int x1), (2, .int x2), (3, .int s.2.1), (4, .int s.2.2)] []) (ke_0 : ∀ v : xM × Int32, o = .inr v → J x v.1 86 [(3, .int v.2)] []) : J x M 78 [(0, .ref (x_ad x 0)), (1, .int x1), (2, .int x2), (4, .int x4)] [.int s0, .int s1] := by
  unfold b_X11_liable_78 at h
  refine r_iadd C.1 dX11_liable_78 ?_
  obtain ⟨y_1, ey_1, h⟩ := lt_E h
  refine r_istore_n C.1 [(3, .int y_1), (0, .ref (x_ad x 0)), (1, .int x1), (2, .int x2), (4, .int x4)] dX11_liable_79 rfl (by decide) ey_1 rfl ?_
  obtain ⟨y_2, ey_2, h⟩ := lt_E h
  refine r_iinc C.1 4 [(4, .int y_2), (3, .int y_1), (0, .ref (x_ad x 0)), (1, .int x1), (2, .int x2)] dX11_liable_80 rfl ey_2 (by decide) rfl ?_
  refine r_goto C.1 44 dX11_liable_83 (by decide) ?_
  exact r_sub [2, 3, 4, 1, 0] rfl (kh _ (Option.some.inj h).symm)

def bl_X11_liable_44 (M : xM) (x1 : Int32) (x2 : Int32) (x3 : Int32) (x4 : Int32) : Option ((xM × Int32 × Int32) ⊕ (xM × Int32)) :=
  gd (1 : Int32) 495 (if (M 4 (1 : Int32).toNatClampNeg) ≤ x4 then some (.inr (M, x3)) else if x2 = (1 : Int32) then bd2 (f_X11_chargesOf M x1 x4) (fun r_6 M_8 => b_X11_liable_78 M_8 x1 x2 x4 r_6 x3) else bd (f_X11_costsOf M x1 x4) (fun r_4 => b_X11_liable_78 M x1 x2 x4 r_4 x3))
set_option maxRecDepth 20000 in
set_option maxHeartbeats 2000000 in
theorem wl_X11_liable_44 {x : xC} (C : CtM x RX11 cX11_liable 5 ({ frames := 8, cells := 0, slots := 0, locals := 184 } : Room)) (M : xM) (x1 : Int32) (x2 : Int32) (x3 : Int32) (x4 : Int32)  (o : (xM × Int32 × Int32) ⊕ (xM × Int32)) (h : bl_X11_liable_44 M x1 x2 x3 x4 = some o) (kh : ∀ s : xM × Int32 × Int32, o = .inl s → J x s.1 44 [(0, .ref (x_ad x 0)), (1, .int x1), (2, .int x2), (3, .int s.2.1), (4, .int s.2.2)] []) (ke_0 : ∀ v : xM × Int32, o = .inr v → J x v.1 86 [(3, .int v.2)] []) : J x M 44 [(0, .ref (x_ad x 0)), (1, .int x1), (2, .int x2), (3, .int x3), (4, .int x4)] [] := by
  unfold bl_X11_liable_44 at h
  refine r_iload C.1 4 dX11_liable_44 rfl ?_
  refine r_aload_n C.1 0 dX11_liable_46 rfl rfl ?_
  refine gf_X11_19 C dX11_liable_47 ?_
  refine r_iconst (v := 1) C.1 dX11_liable_50 rfl ?_
  obtain ⟨q_1, h⟩ := gd_E h
  refine r_iald C.1 (mK C (by decide)) (mS C (shm_4)) 0 (mT0 C) q_1 dX11_liable_51 ?_
  refine r_icmp_ge C.1 86 dX11_liable_52 (by decide) (fun c_2 => ?_) (fun c_2 => ?_)
  · replace h := ite_T c_2 h
    exact r_sub [3] rfl (ke_0 _ (Option.some.inj h).symm)
  · replace h := ite_F c_2 h
    refine r_iload_n C.1 3 dX11_liable_55 rfl rfl ?_
    refine r_iload_n C.1 2 dX11_liable_56 rfl rfl ?_
    refine r_iconst (v := 1) C.1 dX11_liable_57 rfl ?_
    refine r_icmp_ne C.1 71 dX11_liable_58 (by decide) (fun c_3 => ?_) (fun c_3 => ?_)
    · replace h := ite_F c_3 h
      refine r_aload_n C.1 0 dX11_liable_71 rfl rfl ?_
      refine r_iload_n C.1 1 dX11_liable_72 rfl rfl ?_
      refine r_iload C.1 4 dX11_liable_73 rfl ?_
      obtain ⟨r_4, hc_5, h⟩ := bd_E h
      refine cl_X11_352 C ⟨Nat.le_of_ble_eq_true rfl, Nat.le_of_ble_eq_true rfl⟩ (m_X11_costsOf _ _ _ M x1 x4 hc_5) (Nat.le_of_ble_eq_true rfl) dX11_liable_75 ?_
      exact r_sub [0, 1, 2, 4] rfl (w_X11_liable_78 C M x1 x2 x4 r_4 x3 _ h kh ke_0)
    · replace h := ite_T c_3 h
      refine r_aload_n C.1 0 dX11_liable_61 rfl rfl ?_
      refine r_iload_n C.1 1 dX11_liable_62 rfl rfl ?_
      refine r_iload C.1 4 dX11_liable_63 rfl ?_
      obtain ⟨r_6, M_8, hc_7, h⟩ := bd2_E h
      refine cl_X11_349 C ⟨Nat.le_of_ble_eq_true rfl, Nat.le_of_ble_eq_true rfl⟩ (m_X11_chargesOf _ _ _ M x1 x4 hc_7) (Nat.le_of_ble_eq_true rfl) dX11_liable_65 ?_
      refine r_goto C.1 78 dX11_liable_68 (by decide) ?_
      exact r_sub [0, 1, 2, 4] rfl (w_X11_liable_78 C M_8 x1 x2 x4 r_6 x3 _ h kh ke_0)

def b_X11_liable_44 (M : xM) (x1 : Int32) (x2 : Int32) (x3 : Int32) (x4 : Int32) : Option (Int32 × xM) :=
  bd (loopN (fun s : xM × Int32 × Int32 => bl_X11_liable_44 s.1 x1 x2 s.2.1 s.2.2) BG (M, x3, x4)) (fun v => some (v.2, v.1))
set_option maxRecDepth 20000 in
set_option maxHeartbeats 2000000 in
theorem w_X11_liable_44 {x : xC} (C : CtM x RX11 cX11_liable 5 ({ frames := 8, cells := 0, slots := 0, locals := 184 } : Room)) (M : xM) (x1 : Int32) (x2 : Int32) (x3 : Int32) (x4 : Int32)  (o : Int32 × xM) (h : b_X11_liable_44 M x1 x2 x3 x4 = some o) (hr : (x_me x).sig.returnType = some .int) (ev : x_rv x = some (.int o.1)) (eM : x_M x = o.2) : J x M 44 [(0, .ref (x_ad x 0)), (1, .int x1), (2, .int x2), (3, .int x3), (4, .int x4)] [] := by
  unfold b_X11_liable_44 at h
  obtain ⟨r_0, hr_0, h⟩ := bd_E h
  refine loopN_ind (JJ := fun s => J x s.1 44 [(0, .ref (x_ad x 0)), (1, .int x1), (2, .int x2), (3, .int s.2.1), (4, .int s.2.2)] []) (KX := fun q => q = r_0) ?_ BG (M, x3, x4) r_0 hr_0 rfl
  intro s o1 hb kk1 kk2
  refine wl_X11_liable_44 C s.1 x1 x2 s.2.1 s.2.2 _ hb kk1 ?_
  · intro v e0
    have e1 := kk2 _ e0
    subst e1
    refine r_iload_n C.1 0 dX11_liable_86 rfl rfl ?_
    obtain rfl := Option.some.inj h
    exact r_iret C.1 hr ev eM dX11_liable_87

def b_X11_liable_0 (M : xM) (x1 : Int32) (x2 : Int32) : Option (Int32 × xM) :=
  lt (uM M 0 0 (0 : Int32)) (fun M_1 => bd (f_X11_isGuardian M_1 x1) (fun r_2 => if r_2 = 0 then b_X11_liable_25 M_1 else bd (f_X11_in M_1 x2.toInt64 (0 : Int64) (2 : Int64)) (fun r_5 => if r_5 = 0 then b_X11_liable_25 M_1 else if x2 = 0 then bd2 (f_X11_disallowedOf M_1 x1) (fun r_9 M_11 => some (r_9, M_11)) else b_X11_liable_44 M_1 x1 x2 (0 : Int32) (0 : Int32))))
set_option maxRecDepth 20000 in
set_option maxHeartbeats 2000000 in
theorem w_X11_liable_0 {x : xC} (C : CtM x RX11 cX11_liable 5 ({ frames := 8, cells := 0, slots := 0, locals := 184 } : Room)) (M : xM) (x1 : Int32) (x2 : Int32)  (o : Int32 × xM) (h : b_X11_liable_0 M x1 x2 = some o) (hr : (x_me x).sig.returnType = some .int) (ev : x_rv x = some (.int o.1)) (eM : x_M x = o.2) : J x M 0 [(0, .ref (x_ad x 0)), (1, .int x1), (2, .int x2)] [] := by
  unfold b_X11_liable_0 at h
  refine r_aload_n C.1 0 dX11_liable_0 rfl rfl ?_
  refine r_iconst (v := 0) C.1 dX11_liable_1 rfl ?_
  obtain ⟨M_1, eM_1, h⟩ := lt_E h
  refine pf_X11_56 C eM_1 dX11_liable_2 ?_
  refine r_aload_n C.1 0 dX11_liable_5 rfl rfl ?_
  refine r_iload_n C.1 1 dX11_liable_6 rfl rfl ?_
  obtain ⟨r_2, hc_3, h⟩ := bd_E h
  refine cl_X11_254 C ⟨Nat.le_of_ble_eq_true rfl, Nat.le_of_ble_eq_true rfl⟩ (m_X11_isGuardian _ _ _ M_1 x1 hc_3) (Nat.le_of_ble_eq_true rfl) dX11_liable_7 ?_
  refine r_if_eq C.1 25 dX11_liable_10 (by decide) (fun c_4 => ?_) (fun c_4 => ?_)
  · replace h := ite_T c_4 h
    exact r_sub [] rfl (w_X11_liable_25 C M_1 _ h hr ev eM)
  · replace h := ite_F c_4 h
    refine r_iload_n C.1 2 dX11_liable_13 rfl rfl ?_
    refine r_i2l C.1 dX11_liable_14 ?_
    refine r_lconst (v := 0) C.1 dX11_liable_15 rfl ?_
    refine r_ldc2 (v := 2) C.1 kw_1708 dX11_liable_16 ?_
    obtain ⟨r_5, hc_6, h⟩ := bd_E h
    refine cl_X11_67 C ⟨Nat.le_of_ble_eq_true rfl, Nat.le_of_ble_eq_true rfl⟩ (m_X11_in _ _ _ M_1 x2.toInt64 (0 : Int64) (2 : Int64) hc_6) (Nat.le_of_ble_eq_true rfl) dX11_liable_19 ?_
    refine r_if_ne C.1 29 dX11_liable_22 (by decide) (fun c_7 => ?_) (fun c_7 => ?_)
    · replace h := ite_F c_7 h
      refine r_iload_n C.1 2 dX11_liable_29 rfl rfl ?_
      refine r_if_ne C.1 39 dX11_liable_30 (by decide) (fun c_8 => ?_) (fun c_8 => ?_)
      · replace h := ite_F c_8 h
        refine r_iconst (v := 0) C.1 dX11_liable_39 rfl ?_
        refine r_istore_n C.1 [(3, .int (0 : Int32)), (0, .ref (x_ad x 0)), (1, .int x1), (2, .int x2)] dX11_liable_40 rfl (by decide) rfl rfl ?_
        refine r_iconst (v := 0) C.1 dX11_liable_41 rfl ?_
        refine r_istore C.1 [(4, .int (0 : Int32)), (3, .int (0 : Int32)), (0, .ref (x_ad x 0)), (1, .int x1), (2, .int x2)] dX11_liable_42 (by decide) rfl rfl ?_
        exact r_sub [2, 3, 4, 1, 0] rfl (w_X11_liable_44 C M_1 x1 x2 (0 : Int32) (0 : Int32) _ h hr ev eM)
      · replace h := ite_T c_8 h
        refine r_aload_n C.1 0 dX11_liable_33 rfl rfl ?_
        refine r_iload_n C.1 1 dX11_liable_34 rfl rfl ?_
        obtain ⟨r_9, M_11, hc_10, h⟩ := bd2_E h
        refine cl_X11_346 C ⟨Nat.le_of_ble_eq_true rfl, Nat.le_of_ble_eq_true rfl⟩ (m_X11_disallowedOf _ _ _ M_1 x1 hc_10) (Nat.le_of_ble_eq_true rfl) dX11_liable_35 ?_
        obtain rfl := Option.some.inj h
        exact r_iret C.1 hr ev eM dX11_liable_38
    · replace h := ite_T c_7 h
      exact r_sub [] rfl (w_X11_liable_25 C M_1 _ h hr ev eM)
def f_X11_liable (M : xM) (x1 : Int32) (x2 : Int32) : Option (Int32 × xM) := b_X11_liable_0 M x1 x2
set_option maxRecDepth 20000 in
theorem m_X11_liable (l : Launch) (D : va_G) (ad : Nat → Nat) (M : xM) (x1 : Int32) (x2 : Int32)  {r : Int32} {M1 : xM} (h : f_X11_liable M x1 x2 = some (r, M1)) : xMetM l yX11_liable cX11_liable 5 (some .int) ({ frames := 8, cells := 0, slots := 0, locals := 184 } : Room) [.ref (ad 0), .int x1, .int x2] D ad M (some (.int r)) M1 := by
  refine xMetM_of (own := RX11) (by decide) rfl (Nat.le_of_ble_eq_true rfl) ?_
  intro x C e1 e2 e3 ev eM hr
  subst e1; subst e2; subst e3
  refine r_sub (L := [(0, .ref (x_ad x 0)), (1, .int x1), (2, .int x2)]) (L' := [(0, .ref (x_ad x 0)), (1, .int x1), (2, .int x2)]) [0, 1, 2] rfl ?_
  exact w_X11_liable_0 C M x1 x2 _ h hr ev eM

def b_X11_told_38 (M : xM) (s0 : Int32) : Option (Int32) :=
  some s0
set_option maxRecDepth 20000 in
set_option maxHeartbeats 2000000 in
theorem w_X11_told_38 {x : xC} (C : CtM x RX11 cX11_told 2 ({ frames := 1, cells := 0, slots := 0, locals := 25 } : Room)) (M : xM) (s0 : Int32)  (o : Int32) (h : b_X11_told_38 M s0 = some o) (hr : (x_me x).sig.returnType = some .int) (ev : x_rv x = some (.int o)) (eM : x_M x = M) : J x M 38 [] [.int s0] := by
  unfold b_X11_told_38 at h
  obtain rfl := Option.some.inj h
  exact r_iret C.1 hr ev eM dX11_told_38

def b_X11_told_0 (M : xM) (x1 : Int32) : Option (Int32) :=
  if x1 = (-1 : Int32) then b_X11_told_38 M (M 0 25) else bd (f_X11_in M x1.toInt64 (0 : Int64) (((M 0 25) - (1 : Int32)).toInt64)) (fun r_2 => if r_2 = 0 then b_X11_told_38 M (-1 : Int32) else gd x1 1000 (b_X11_told_38 M (M 13 x1.toNatClampNeg)))
set_option maxRecDepth 20000 in
set_option maxHeartbeats 2000000 in
theorem w_X11_told_0 {x : xC} (C : CtM x RX11 cX11_told 2 ({ frames := 1, cells := 0, slots := 0, locals := 25 } : Room)) (M : xM) (x1 : Int32)  (o : Int32) (h : b_X11_told_0 M x1 = some o) (hr : (x_me x).sig.returnType = some .int) (ev : x_rv x = some (.int o)) (eM : x_M x = M) : J x M 0 [(0, .ref (x_ad x 0)), (1, .int x1)] [] := by
  unfold b_X11_told_0 at h
  refine r_iload_n C.1 1 dX11_told_0 rfl rfl ?_
  refine r_iconst (v := -1) C.1 dX11_told_1 rfl ?_
  refine r_icmp_ne C.1 12 dX11_told_2 (by decide) (fun c_1 => ?_) (fun c_1 => ?_)
  · replace h := ite_F c_1 h
    refine r_iload_n C.1 1 dX11_told_12 rfl rfl ?_
    refine r_i2l C.1 dX11_told_13 ?_
    refine r_lconst (v := 0) C.1 dX11_told_14 rfl ?_
    refine r_aload_n C.1 0 dX11_told_15 rfl rfl ?_
    refine gf_X11_355 C dX11_told_16 ?_
    refine r_iconst (v := 1) C.1 dX11_told_19 rfl ?_
    refine r_isub C.1 dX11_told_20 ?_
    refine r_i2l C.1 dX11_told_21 ?_
    obtain ⟨r_2, hc_3, h⟩ := bd_E h
    refine cl_X11_67 C ⟨Nat.le_of_ble_eq_true rfl, Nat.le_of_ble_eq_true rfl⟩ (m_X11_in _ _ _ M x1.toInt64 (0 : Int64) (((M 0 25) - (1 : Int32)).toInt64) hc_3) (Nat.le_of_ble_eq_true rfl) dX11_told_22 ?_
    refine r_if_eq C.1 37 dX11_told_25 (by decide) (fun c_4 => ?_) (fun c_4 => ?_)
    · replace h := ite_T c_4 h
      refine r_iconst (v := -1) C.1 dX11_told_37 rfl ?_
      exact r_sub [] rfl (w_X11_told_38 C M (-1 : Int32) _ h hr ev eM)
    · replace h := ite_F c_4 h
      refine r_aload_n C.1 0 dX11_told_28 rfl rfl ?_
      refine gf_X11_46 C dX11_told_29 ?_
      refine r_iload_n C.1 1 dX11_told_32 rfl rfl ?_
      obtain ⟨q_5, h⟩ := gd_E h
      refine r_iald C.1 (mK C (by decide)) (mS C (shm_13)) 0 (mT0 C) q_5 dX11_told_33 ?_
      refine r_goto C.1 38 dX11_told_34 (by decide) ?_
      exact r_sub [] rfl (w_X11_told_38 C M (M 13 x1.toNatClampNeg) _ h hr ev eM)
  · replace h := ite_T c_1 h
    refine r_aload_n C.1 0 dX11_told_5 rfl rfl ?_
    refine gf_X11_355 C dX11_told_6 ?_
    refine r_goto C.1 38 dX11_told_9 (by decide) ?_
    exact r_sub [] rfl (w_X11_told_38 C M (M 0 25) _ h hr ev eM)
def f_X11_told (M : xM) (x1 : Int32) : Option (Int32) := b_X11_told_0 M x1
set_option maxRecDepth 20000 in
theorem m_X11_told (l : Launch) (D : va_G) (ad : Nat → Nat) (M : xM) (x1 : Int32)  {o : Int32} (h : f_X11_told M x1 = some o) : xMetM l yX11_told cX11_told 2 (some .int) ({ frames := 1, cells := 0, slots := 0, locals := 25 } : Room) [.ref (ad 0), .int x1] D ad M (some (.int o)) M := by
  refine xMetM_of (own := RX11) (by decide) rfl (Nat.le_of_ble_eq_true rfl) ?_
  intro x C e1 e2 e3 ev eM hr
  subst e1; subst e2; subst e3
  refine r_sub (L := [(0, .ref (x_ad x 0)), (1, .int x1)]) (L' := [(0, .ref (x_ad x 0)), (1, .int x1)]) [0, 1] rfl ?_
  exact w_X11_told_0 C M x1 _ h hr ev eM

def b_X11_laysDisputes_140 (M : xM) (x1 : Int32) (x2 : Int32) : Option ((xM × Int32) ⊕ (xM)) :=
  lt (x2 + (1 : Int32)) (fun y_1 => some (.inl (M, y_1)))
set_option maxRecDepth 20000 in
set_option maxHeartbeats 2000000 in
theorem w_X11_laysDisputes_140 {x : xC} (C : CtM x RX11 cX11_laysDisputes 5 ({ frames := 6, cells := 0, slots := 0, locals := 133 } : Room)) (M : xM) (x1 : Int32) (x2 : Int32)  (o : (xM × Int32) ⊕ (xM)) (h : b_X11_laysDisputes_140 M x1 x2 = some o) (kh : ∀ s : xM × Int32, o = .inl s → J x s.1 11 [(0, .ref (x_ad x 0)), (1, .int x1), (2, .int s.2)] []) (ke_0 : ∀ v : xM, o = .inr v → J x v 146 [] []) : J x M 140 [(0, .ref (x_ad x 0)), (1, .int x1), (2, .int x2)] [] := by
  unfold b_X11_laysDisputes_140 at h
  obtain ⟨y_1, ey_1, h⟩ := lt_E h
  refine r_iinc C.1 2 [(2, .int y_1), (0, .ref (x_ad x 0)), (1, .int x1)] dX11_laysDisputes_140 rfl ey_1 (by decide) rfl ?_
  refine r_goto C.1 11 dX11_laysDisputes_143 (by decide) ?_
  exact r_sub [1, 2, 0] rfl (kh _ (Option.some.inj h).symm)

def b_X11_laysDisputes_118 (M : xM) (x1 : Int32) (x2 : Int32) (x3 : Int32) (x4 : Int32) : Option ((xM × Int32) ⊕ (xM)) :=
  if x3 = 0 then b_X11_laysDisputes_140 M x1 x2 else gd x4 1000 (lt (uM M 13 x4.toNatClampNeg x2) (fun M_3 => lt (uM M_3 0 25 ((M_3 0 25) + (1 : Int32))) (fun M_4 => b_X11_laysDisputes_140 M_4 x1 x2)))
set_option maxRecDepth 20000 in
set_option maxHeartbeats 2000000 in
theorem w_X11_laysDisputes_118 {x : xC} (C : CtM x RX11 cX11_laysDisputes 5 ({ frames := 6, cells := 0, slots := 0, locals := 133 } : Room)) (M : xM) (x1 : Int32) (x2 : Int32) (x3 : Int32) (x4 : Int32)  (o : (xM × Int32) ⊕ (xM)) (h : b_X11_laysDisputes_118 M x1 x2 x3 x4 = some o) (kh : ∀ s : xM × Int32, o = .inl s → J x s.1 11 [(0, .ref (x_ad x 0)), (1, .int x1), (2, .int s.2)] []) (ke_0 : ∀ v : xM, o = .inr v → J x v 146 [] []) : J x M 118 [(0, .ref (x_ad x 0)), (1, .int x1), (2, .int x2), (3, .int x3), (4, .int x4)] [] := by
  unfold b_X11_laysDisputes_118 at h
  refine r_iload_n C.1 3 dX11_laysDisputes_118 rfl rfl ?_
  refine r_if_eq C.1 140 dX11_laysDisputes_119 (by decide) (fun c_1 => ?_) (fun c_1 => ?_)
  · replace h := ite_T c_1 h
    exact r_sub [0, 1, 2] rfl (w_X11_laysDisputes_140 C M x1 x2 _ h kh ke_0)
  · replace h := ite_F c_1 h
    refine r_aload_n C.1 0 dX11_laysDisputes_122 rfl rfl ?_
    refine gf_X11_46 C dX11_laysDisputes_123 ?_
    refine r_iload C.1 4 dX11_laysDisputes_126 rfl ?_
    refine r_iload_n C.1 2 dX11_laysDisputes_128 rfl rfl ?_
    obtain ⟨q_2, h⟩ := gd_E h
    obtain ⟨M_3, eM_3, h⟩ := lt_E h
    refine r_iast C.1 (mK C (by decide)) (mS C (shm_13)) 0 (mT0 C) q_2 eM_3 dX11_laysDisputes_129 ?_
    refine r_aload_n C.1 0 dX11_laysDisputes_130 rfl rfl ?_
    refine r_dup C.1 rfl dX11_laysDisputes_131 ?_
    refine gf_X11_355 C dX11_laysDisputes_132 ?_
    refine r_iconst (v := 1) C.1 dX11_laysDisputes_135 rfl ?_
    refine r_iadd C.1 dX11_laysDisputes_136 ?_
    obtain ⟨M_4, eM_4, h⟩ := lt_E h
    refine pf_X11_355 C eM_4 dX11_laysDisputes_137 ?_
    exact r_sub [0, 1, 2] rfl (w_X11_laysDisputes_140 C M_4 x1 x2 _ h kh ke_0)

def bl_X11_laysDisputes_66 (M : xM) (x1 : Int32) (x2 : Int32) (x3 : Int32) (x4 : Int32) : Option ((xM × Int32) ⊕ (xM × Int32)) :=
  if x3 = 0 then some (.inr (M, x4)) else if x4 ≤ 0 then some (.inr (M, x4)) else gd (x4 - (1 : Int32)) 1000 (bd (f_X11_disallowed M (M 13 (x4 - (1 : Int32)).toNatClampNeg)) (fun r_4 => bd (f_X11_disallowed M x2) (fun r_6 => if r_6 ≤ r_4 then some (.inr (M, x4)) else gd (x4 - (1 : Int32)) 1000 (gd x4 1000 (lt (uM M 13 x4.toNatClampNeg (M 13 (x4 - (1 : Int32)).toNatClampNeg)) (fun M_11 => lt (x4 + (-1 : Int32)) (fun y_12 => some (.inl (M_11, y_12)))))))))
set_option maxRecDepth 20000 in
set_option maxHeartbeats 2000000 in
theorem wl_X11_laysDisputes_66 {x : xC} (C : CtM x RX11 cX11_laysDisputes 5 ({ frames := 6, cells := 0, slots := 0, locals := 133 } : Room)) (M : xM) (x1 : Int32) (x2 : Int32) (x3 : Int32) (x4 : Int32)  (o : (xM × Int32) ⊕ (xM × Int32)) (h : bl_X11_laysDisputes_66 M x1 x2 x3 x4 = some o) (kh : ∀ s : xM × Int32, o = .inl s → J x s.1 66 [(0, .ref (x_ad x 0)), (1, .int x1), (2, .int x2), (3, .int x3), (4, .int s.2)] []) (ke_0 : ∀ v : xM × Int32, o = .inr v → J x v.1 118 [(0, .ref (x_ad x 0)), (1, .int x1), (2, .int x2), (3, .int x3), (4, .int v.2)] []) : J x M 66 [(0, .ref (x_ad x 0)), (1, .int x1), (2, .int x2), (3, .int x3), (4, .int x4)] [] := by
  unfold bl_X11_laysDisputes_66 at h
  refine r_iload_n C.1 3 dX11_laysDisputes_66 rfl rfl ?_
  refine r_if_eq C.1 118 dX11_laysDisputes_67 (by decide) (fun c_1 => ?_) (fun c_1 => ?_)
  · replace h := ite_T c_1 h
    exact r_sub [0, 1, 2, 3, 4] rfl (ke_0 _ (Option.some.inj h).symm)
  · replace h := ite_F c_1 h
    refine r_iload C.1 4 dX11_laysDisputes_70 rfl ?_
    refine r_if_le C.1 118 dX11_laysDisputes_72 (by decide) (fun c_2 => ?_) (fun c_2 => ?_)
    · replace h := ite_T c_2 h
      exact r_sub [0, 1, 2, 3, 4] rfl (ke_0 _ (Option.some.inj h).symm)
    · replace h := ite_F c_2 h
      refine r_aload_n C.1 0 dX11_laysDisputes_75 rfl rfl ?_
      refine r_aload_n C.1 0 dX11_laysDisputes_76 rfl rfl ?_
      refine gf_X11_46 C dX11_laysDisputes_77 ?_
      refine r_iload C.1 4 dX11_laysDisputes_80 rfl ?_
      refine r_iconst (v := 1) C.1 dX11_laysDisputes_82 rfl ?_
      refine r_isub C.1 dX11_laysDisputes_83 ?_
      obtain ⟨q_3, h⟩ := gd_E h
      refine r_iald C.1 (mK C (by decide)) (mS C (shm_13)) 0 (mT0 C) q_3 dX11_laysDisputes_84 ?_
      obtain ⟨r_4, hc_5, h⟩ := bd_E h
      refine cl_X11_237 C ⟨Nat.le_of_ble_eq_true rfl, Nat.le_of_ble_eq_true rfl⟩ (m_X11_disallowed _ _ _ M (M 13 (x4 - (1 : Int32)).toNatClampNeg) hc_5) (Nat.le_of_ble_eq_true rfl) dX11_laysDisputes_85 ?_
      refine r_aload_n C.1 0 dX11_laysDisputes_88 rfl rfl ?_
      refine r_iload_n C.1 2 dX11_laysDisputes_89 rfl rfl ?_
      obtain ⟨r_6, hc_7, h⟩ := bd_E h
      refine cl_X11_237 C ⟨Nat.le_of_ble_eq_true rfl, Nat.le_of_ble_eq_true rfl⟩ (m_X11_disallowed _ _ _ M x2 hc_7) (Nat.le_of_ble_eq_true rfl) dX11_laysDisputes_90 ?_
      refine r_icmp_ge C.1 118 dX11_laysDisputes_93 (by decide) (fun c_8 => ?_) (fun c_8 => ?_)
      · replace h := ite_T c_8 h
        exact r_sub [0, 1, 2, 3, 4] rfl (ke_0 _ (Option.some.inj h).symm)
      · replace h := ite_F c_8 h
        refine r_aload_n C.1 0 dX11_laysDisputes_96 rfl rfl ?_
        refine gf_X11_46 C dX11_laysDisputes_97 ?_
        refine r_iload C.1 4 dX11_laysDisputes_100 rfl ?_
        refine r_aload_n C.1 0 dX11_laysDisputes_102 rfl rfl ?_
        refine gf_X11_46 C dX11_laysDisputes_103 ?_
        refine r_iload C.1 4 dX11_laysDisputes_106 rfl ?_
        refine r_iconst (v := 1) C.1 dX11_laysDisputes_108 rfl ?_
        refine r_isub C.1 dX11_laysDisputes_109 ?_
        obtain ⟨q_9, h⟩ := gd_E h
        refine r_iald C.1 (mK C (by decide)) (mS C (shm_13)) 0 (mT0 C) q_9 dX11_laysDisputes_110 ?_
        obtain ⟨q_10, h⟩ := gd_E h
        obtain ⟨M_11, eM_11, h⟩ := lt_E h
        refine r_iast C.1 (mK C (by decide)) (mS C (shm_13)) 0 (mT0 C) q_10 eM_11 dX11_laysDisputes_111 ?_
        obtain ⟨y_12, ey_12, h⟩ := lt_E h
        refine r_iinc C.1 4 [(4, .int y_12), (0, .ref (x_ad x 0)), (1, .int x1), (2, .int x2), (3, .int x3)] dX11_laysDisputes_112 rfl ey_12 (by decide) rfl ?_
        refine r_goto C.1 66 dX11_laysDisputes_115 (by decide) ?_
        exact r_sub [1, 2, 3, 4, 0] rfl (kh _ (Option.some.inj h).symm)

def b_X11_laysDisputes_66 (M : xM) (x1 : Int32) (x2 : Int32) (x3 : Int32) (x4 : Int32) : Option ((xM × Int32) ⊕ (xM)) :=
  bd (loopN (fun s : xM × Int32 => bl_X11_laysDisputes_66 s.1 x1 x2 x3 s.2) BG (M, x4)) (fun v => b_X11_laysDisputes_118 v.1 x1 x2 x3 v.2)
set_option maxRecDepth 20000 in
set_option maxHeartbeats 2000000 in
theorem w_X11_laysDisputes_66 {x : xC} (C : CtM x RX11 cX11_laysDisputes 5 ({ frames := 6, cells := 0, slots := 0, locals := 133 } : Room)) (M : xM) (x1 : Int32) (x2 : Int32) (x3 : Int32) (x4 : Int32)  (o : (xM × Int32) ⊕ (xM)) (h : b_X11_laysDisputes_66 M x1 x2 x3 x4 = some o) (kh : ∀ s : xM × Int32, o = .inl s → J x s.1 11 [(0, .ref (x_ad x 0)), (1, .int x1), (2, .int s.2)] []) (ke_0 : ∀ v : xM, o = .inr v → J x v 146 [] []) : J x M 66 [(0, .ref (x_ad x 0)), (1, .int x1), (2, .int x2), (3, .int x3), (4, .int x4)] [] := by
  unfold b_X11_laysDisputes_66 at h
  obtain ⟨r_0, hr_0, h⟩ := bd_E h
  refine loopN_ind (JJ := fun s => J x s.1 66 [(0, .ref (x_ad x 0)), (1, .int x1), (2, .int x2), (3, .int x3), (4, .int s.2)] []) (KX := fun q => q = r_0) ?_ BG (M, x4) r_0 hr_0 rfl
  intro s o1 hb kk1 kk2
  refine wl_X11_laysDisputes_66 C s.1 x1 x2 x3 s.2 _ hb kk1 ?_
  · intro v e0
    have e1 := kk2 _ e0
    subst e1
    exact r_sub [0, 1, 2, 3, 4] rfl (w_X11_laysDisputes_118 C v.1 x1 x2 x3 v.2 _ h kh ke_0)

def b_X11_laysDisputes_59 (M : xM) (x1 : Int32) (x2 : Int32) (s0 : Int32) : Option ((xM × Int32) ⊕ (xM)) :=
  lt (M 0 25) (fun y_1 => b_X11_laysDisputes_66 M x1 x2 s0 y_1)
set_option maxRecDepth 20000 in
set_option maxHeartbeats 2000000 in
theorem w_X11_laysDisputes_59 {x : xC} (C : CtM x RX11 cX11_laysDisputes 5 ({ frames := 6, cells := 0, slots := 0, locals := 133 } : Room)) (M : xM) (x1 : Int32) (x2 : Int32) (s0 : Int32)  (o : (xM × Int32) ⊕ (xM)) (h : b_X11_laysDisputes_59 M x1 x2 s0 = some o) (kh : ∀ s : xM × Int32, o = .inl s → J x s.1 11 [(0, .ref (x_ad x 0)), (1, .int x1), (2, .int s.2)] []) (ke_0 : ∀ v : xM, o = .inr v → J x v 146 [] []) : J x M 59 [(0, .ref (x_ad x 0)), (1, .int x1), (2, .int x2)] [.int s0] := by
  unfold b_X11_laysDisputes_59 at h
  refine r_istore_n C.1 [(3, .int s0), (0, .ref (x_ad x 0)), (1, .int x1), (2, .int x2)] dX11_laysDisputes_59 rfl (by decide) rfl rfl ?_
  refine r_aload_n C.1 1 dX11_laysDisputes_60 rfl rfl ?_
  refine gf_X11_355 C dX11_laysDisputes_61 ?_
  obtain ⟨y_1, ey_1, h⟩ := lt_E h
  refine r_istore C.1 [(4, .int y_1), (3, .int s0), (0, .ref (x_ad x 0)), (1, .int x1), (2, .int x2)] dX11_laysDisputes_64 (by decide) ey_1 rfl ?_
  exact r_sub [2, 3, 4, 1, 0] rfl (w_X11_laysDisputes_66 C M x1 x2 s0 y_1 _ h kh ke_0)

def b_X11_laysDisputes_58 (M : xM) (x1 : Int32) (x2 : Int32) : Option ((xM × Int32) ⊕ (xM)) :=
  b_X11_laysDisputes_59 M x1 x2 (0 : Int32)
set_option maxRecDepth 20000 in
set_option maxHeartbeats 2000000 in
theorem w_X11_laysDisputes_58 {x : xC} (C : CtM x RX11 cX11_laysDisputes 5 ({ frames := 6, cells := 0, slots := 0, locals := 133 } : Room)) (M : xM) (x1 : Int32) (x2 : Int32)  (o : (xM × Int32) ⊕ (xM)) (h : b_X11_laysDisputes_58 M x1 x2 = some o) (kh : ∀ s : xM × Int32, o = .inl s → J x s.1 11 [(0, .ref (x_ad x 0)), (1, .int x1), (2, .int s.2)] []) (ke_0 : ∀ v : xM, o = .inr v → J x v 146 [] []) : J x M 58 [(0, .ref (x_ad x 0)), (1, .int x1), (2, .int x2)] [] := by
  unfold b_X11_laysDisputes_58 at h
  refine r_iconst (v := 0) C.1 dX11_laysDisputes_58 rfl ?_
  exact r_sub [0, 1, 2] rfl (w_X11_laysDisputes_59 C M x1 x2 (0 : Int32) _ h kh ke_0)

def b_X11_laysDisputes_46 (M : xM) (x1 : Int32) (x2 : Int32) : Option ((xM × Int32) ⊕ (xM)) :=
  bd (f_X11_disallowed M x2) (fun r_1 => if r_1 ≤ 0 then b_X11_laysDisputes_58 M x1 x2 else b_X11_laysDisputes_59 M x1 x2 (1 : Int32))
set_option maxRecDepth 20000 in
set_option maxHeartbeats 2000000 in
theorem w_X11_laysDisputes_46 {x : xC} (C : CtM x RX11 cX11_laysDisputes 5 ({ frames := 6, cells := 0, slots := 0, locals := 133 } : Room)) (M : xM) (x1 : Int32) (x2 : Int32)  (o : (xM × Int32) ⊕ (xM)) (h : b_X11_laysDisputes_46 M x1 x2 = some o) (kh : ∀ s : xM × Int32, o = .inl s → J x s.1 11 [(0, .ref (x_ad x 0)), (1, .int x1), (2, .int s.2)] []) (ke_0 : ∀ v : xM, o = .inr v → J x v 146 [] []) : J x M 46 [(0, .ref (x_ad x 0)), (1, .int x1), (2, .int x2)] [] := by
  unfold b_X11_laysDisputes_46 at h
  refine r_aload_n C.1 0 dX11_laysDisputes_46 rfl rfl ?_
  refine r_iload_n C.1 2 dX11_laysDisputes_47 rfl rfl ?_
  obtain ⟨r_1, hc_2, h⟩ := bd_E h
  refine cl_X11_237 C ⟨Nat.le_of_ble_eq_true rfl, Nat.le_of_ble_eq_true rfl⟩ (m_X11_disallowed _ _ _ M x2 hc_2) (Nat.le_of_ble_eq_true rfl) dX11_laysDisputes_48 ?_
  refine r_if_le C.1 58 dX11_laysDisputes_51 (by decide) (fun c_3 => ?_) (fun c_3 => ?_)
  · replace h := ite_T c_3 h
    exact r_sub [0, 1, 2] rfl (w_X11_laysDisputes_58 C M x1 x2 _ h kh ke_0)
  · replace h := ite_F c_3 h
    refine r_iconst (v := 1) C.1 dX11_laysDisputes_54 rfl ?_
    refine r_goto C.1 59 dX11_laysDisputes_55 (by decide) ?_
    exact r_sub [0, 1, 2] rfl (w_X11_laysDisputes_59 C M x1 x2 (1 : Int32) _ h kh ke_0)

def bl_X11_laysDisputes_11 (M : xM) (x1 : Int32) (x2 : Int32) : Option ((xM × Int32) ⊕ (xM)) :=
  gd (2 : Int32) 495 (if (M 4 (2 : Int32).toNatClampNeg) ≤ x2 then some (.inr M) else bd (f_X11_entryOf M x2 (0 : Int32)) (fun r_3 => if r_3 = (1 : Int32) then if x1 = (-1 : Int32) then b_X11_laysDisputes_46 M x1 x2 else bd (f_X11_entryOf M x2 (1 : Int32)) (fun r_7 => if r_7 = x1 then b_X11_laysDisputes_46 M x1 x2 else b_X11_laysDisputes_58 M x1 x2) else b_X11_laysDisputes_58 M x1 x2))
set_option maxRecDepth 20000 in
set_option maxHeartbeats 2000000 in
theorem wl_X11_laysDisputes_11 {x : xC} (C : CtM x RX11 cX11_laysDisputes 5 ({ frames := 6, cells := 0, slots := 0, locals := 133 } : Room)) (M : xM) (x1 : Int32) (x2 : Int32)  (o : (xM × Int32) ⊕ (xM)) (h : bl_X11_laysDisputes_11 M x1 x2 = some o) (kh : ∀ s : xM × Int32, o = .inl s → J x s.1 11 [(0, .ref (x_ad x 0)), (1, .int x1), (2, .int s.2)] []) (ke_0 : ∀ v : xM, o = .inr v → J x v 146 [] []) : J x M 11 [(0, .ref (x_ad x 0)), (1, .int x1), (2, .int x2)] [] := by
  unfold bl_X11_laysDisputes_11 at h
  refine r_iload_n C.1 2 dX11_laysDisputes_11 rfl rfl ?_
  refine r_aload_n C.1 0 dX11_laysDisputes_12 rfl rfl ?_
  refine gf_X11_19 C dX11_laysDisputes_13 ?_
  refine r_iconst (v := 2) C.1 dX11_laysDisputes_16 rfl ?_
  obtain ⟨q_1, h⟩ := gd_E h
  refine r_iald C.1 (mK C (by decide)) (mS C (shm_4)) 0 (mT0 C) q_1 dX11_laysDisputes_17 ?_
  refine r_icmp_ge C.1 146 dX11_laysDisputes_18 (by decide) (fun c_2 => ?_) (fun c_2 => ?_)
  · replace h := ite_T c_2 h
    exact r_sub [] rfl (ke_0 _ (Option.some.inj h).symm)
  · replace h := ite_F c_2 h
    refine r_aload_n C.1 0 dX11_laysDisputes_21 rfl rfl ?_
    refine r_iload_n C.1 2 dX11_laysDisputes_22 rfl rfl ?_
    refine r_iconst (v := 0) C.1 dX11_laysDisputes_23 rfl ?_
    obtain ⟨r_3, hc_4, h⟩ := bd_E h
    refine cl_X11_173 C ⟨Nat.le_of_ble_eq_true rfl, Nat.le_of_ble_eq_true rfl⟩ (m_X11_entryOf _ _ _ M x2 (0 : Int32) hc_4) (Nat.le_of_ble_eq_true rfl) dX11_laysDisputes_24 ?_
    refine r_iconst (v := 1) C.1 dX11_laysDisputes_27 rfl ?_
    refine r_icmp_ne C.1 58 dX11_laysDisputes_28 (by decide) (fun c_5 => ?_) (fun c_5 => ?_)
    · replace h := ite_F c_5 h
      exact r_sub [0, 1, 2] rfl (w_X11_laysDisputes_58 C M x1 x2 _ h kh ke_0)
    · replace h := ite_T c_5 h
      refine r_iload_n C.1 1 dX11_laysDisputes_31 rfl rfl ?_
      refine r_iconst (v := -1) C.1 dX11_laysDisputes_32 rfl ?_
      refine r_icmp_eq C.1 46 dX11_laysDisputes_33 (by decide) (fun c_6 => ?_) (fun c_6 => ?_)
      · replace h := ite_T c_6 h
        exact r_sub [0, 1, 2] rfl (w_X11_laysDisputes_46 C M x1 x2 _ h kh ke_0)
      · replace h := ite_F c_6 h
        refine r_aload_n C.1 0 dX11_laysDisputes_36 rfl rfl ?_
        refine r_iload_n C.1 2 dX11_laysDisputes_37 rfl rfl ?_
        refine r_iconst (v := 1) C.1 dX11_laysDisputes_38 rfl ?_
        obtain ⟨r_7, hc_8, h⟩ := bd_E h
        refine cl_X11_173 C ⟨Nat.le_of_ble_eq_true rfl, Nat.le_of_ble_eq_true rfl⟩ (m_X11_entryOf _ _ _ M x2 (1 : Int32) hc_8) (Nat.le_of_ble_eq_true rfl) dX11_laysDisputes_39 ?_
        refine r_iload_n C.1 1 dX11_laysDisputes_42 rfl rfl ?_
        refine r_icmp_ne C.1 58 dX11_laysDisputes_43 (by decide) (fun c_9 => ?_) (fun c_9 => ?_)
        · replace h := ite_F c_9 h
          exact r_sub [0, 1, 2] rfl (w_X11_laysDisputes_58 C M x1 x2 _ h kh ke_0)
        · replace h := ite_T c_9 h
          exact r_sub [0, 1, 2] rfl (w_X11_laysDisputes_46 C M x1 x2 _ h kh ke_0)

def b_X11_laysDisputes_11 (M : xM) (x1 : Int32) (x2 : Int32) : Option (xM) :=
  bd (loopN (fun s : xM × Int32 => bl_X11_laysDisputes_11 s.1 x1 s.2) BG (M, x2)) (fun v => some v)
set_option maxRecDepth 20000 in
set_option maxHeartbeats 2000000 in
theorem w_X11_laysDisputes_11 {x : xC} (C : CtM x RX11 cX11_laysDisputes 5 ({ frames := 6, cells := 0, slots := 0, locals := 133 } : Room)) (M : xM) (x1 : Int32) (x2 : Int32)  (o : xM) (h : b_X11_laysDisputes_11 M x1 x2 = some o) (hr : (x_me x).sig.returnType = none) (ev : x_rv x = none) (eM : x_M x = o) : J x M 11 [(0, .ref (x_ad x 0)), (1, .int x1), (2, .int x2)] [] := by
  unfold b_X11_laysDisputes_11 at h
  obtain ⟨r_0, hr_0, h⟩ := bd_E h
  refine loopN_ind (JJ := fun s => J x s.1 11 [(0, .ref (x_ad x 0)), (1, .int x1), (2, .int s.2)] []) (KX := fun q => q = r_0) ?_ BG (M, x2) r_0 hr_0 rfl
  intro s o1 hb kk1 kk2
  refine wl_X11_laysDisputes_11 C s.1 x1 s.2 _ hb kk1 ?_
  · intro v e0
    have e1 := kk2 _ e0
    subst e1
    obtain rfl := Option.some.inj h
    exact r_vret C.1 hr ev eM dX11_laysDisputes_146

def b_X11_laysDisputes_0 (M : xM) (x1 : Int32) : Option (xM) :=
  bd (f_X11_lays M) (fun M_3 => lt (uM M_3 0 25 (0 : Int32)) (fun M_4 => b_X11_laysDisputes_11 M_4 x1 (0 : Int32)))
set_option maxRecDepth 20000 in
set_option maxHeartbeats 2000000 in
theorem w_X11_laysDisputes_0 {x : xC} (C : CtM x RX11 cX11_laysDisputes 5 ({ frames := 6, cells := 0, slots := 0, locals := 133 } : Room)) (M : xM) (x1 : Int32)  (o : xM) (h : b_X11_laysDisputes_0 M x1 = some o) (hr : (x_me x).sig.returnType = none) (ev : x_rv x = none) (eM : x_M x = o) : J x M 0 [(0, .ref (x_ad x 0)), (1, .int x1)] [] := by
  unfold b_X11_laysDisputes_0 at h
  refine r_aload_n C.1 0 dX11_laysDisputes_0 rfl rfl ?_
  obtain ⟨M_3, hc_2, h⟩ := bd_E h
  refine cl_X11_221 C ⟨Nat.le_of_ble_eq_true rfl, Nat.le_of_ble_eq_true rfl⟩ (m_X11_lays _ _ _ M hc_2) (Nat.le_of_ble_eq_true rfl) dX11_laysDisputes_1 ?_
  refine r_aload_n C.1 0 dX11_laysDisputes_4 rfl rfl ?_
  refine r_iconst (v := 0) C.1 dX11_laysDisputes_5 rfl ?_
  obtain ⟨M_4, eM_4, h⟩ := lt_E h
  refine pf_X11_355 C eM_4 dX11_laysDisputes_6 ?_
  refine r_iconst (v := 0) C.1 dX11_laysDisputes_9 rfl ?_
  refine r_istore_n C.1 [(2, .int (0 : Int32)), (0, .ref (x_ad x 0)), (1, .int x1)] dX11_laysDisputes_10 rfl (by decide) rfl rfl ?_
  exact r_sub [1, 2, 0] rfl (w_X11_laysDisputes_11 C M_4 x1 (0 : Int32) _ h hr ev eM)
def f_X11_laysDisputes (M : xM) (x1 : Int32) : Option (xM) := b_X11_laysDisputes_0 M x1
set_option maxRecDepth 20000 in
theorem m_X11_laysDisputes (l : Launch) (D : va_G) (ad : Nat → Nat) (M : xM) (x1 : Int32)  {o : xM} (h : f_X11_laysDisputes M x1 = some o) : xMetM l yX11_laysDisputes cX11_laysDisputes 5 none ({ frames := 6, cells := 0, slots := 0, locals := 133 } : Room) [.ref (ad 0), .int x1] D ad M none o := by
  refine xMetM_of (own := RX11) (by decide) rfl (Nat.le_of_ble_eq_true rfl) ?_
  intro x C e1 e2 e3 ev eM hr
  subst e1; subst e2; subst e3
  refine r_sub (L := [(0, .ref (x_ad x 0)), (1, .int x1)]) (L' := [(0, .ref (x_ad x 0)), (1, .int x1)]) [0, 1] rfl ?_
  exact w_X11_laysDisputes_0 C M x1 _ h hr ev eM

def b_X11_dispute_0 (M : xM) (x1 : Int32) : Option (Int32 × xM) :=
  lt (uM M 0 0 (0 : Int32)) (fun M_1 => bd (f_X11_laysDisputes M_1 (-1 : Int32)) (fun M_4 => bd (f_X11_told M_4 x1) (fun r_5 => some (r_5, M_4))))
set_option maxRecDepth 20000 in
set_option maxHeartbeats 2000000 in
theorem w_X11_dispute_0 {x : xC} (C : CtM x RX11 cX11_dispute 2 ({ frames := 7, cells := 0, slots := 0, locals := 157 } : Room)) (M : xM) (x1 : Int32)  (o : Int32 × xM) (h : b_X11_dispute_0 M x1 = some o) (hr : (x_me x).sig.returnType = some .int) (ev : x_rv x = some (.int o.1)) (eM : x_M x = o.2) : J x M 0 [(0, .ref (x_ad x 0)), (1, .int x1)] [] := by
  unfold b_X11_dispute_0 at h
  refine r_aload_n C.1 0 dX11_dispute_0 rfl rfl ?_
  refine r_iconst (v := 0) C.1 dX11_dispute_1 rfl ?_
  obtain ⟨M_1, eM_1, h⟩ := lt_E h
  refine pf_X11_56 C eM_1 dX11_dispute_2 ?_
  refine r_aload_n C.1 0 dX11_dispute_5 rfl rfl ?_
  refine r_iconst (v := -1) C.1 dX11_dispute_6 rfl ?_
  obtain ⟨M_4, hc_3, h⟩ := bd_E h
  refine cl_X11_358 C ⟨Nat.le_of_ble_eq_true rfl, Nat.le_of_ble_eq_true rfl⟩ (m_X11_laysDisputes _ _ _ M_1 (-1 : Int32) hc_3) (Nat.le_of_ble_eq_true rfl) dX11_dispute_7 ?_
  refine r_aload_n C.1 0 dX11_dispute_10 rfl rfl ?_
  refine r_iload_n C.1 1 dX11_dispute_11 rfl rfl ?_
  obtain ⟨r_5, hc_6, h⟩ := bd_E h
  refine cl_X11_361 C ⟨Nat.le_of_ble_eq_true rfl, Nat.le_of_ble_eq_true rfl⟩ (m_X11_told _ _ _ M_4 x1 hc_6) (Nat.le_of_ble_eq_true rfl) dX11_dispute_12 ?_
  obtain rfl := Option.some.inj h
  exact r_iret C.1 hr ev eM dX11_dispute_15
def f_X11_dispute (M : xM) (x1 : Int32) : Option (Int32 × xM) := b_X11_dispute_0 M x1
set_option maxRecDepth 20000 in
theorem m_X11_dispute (l : Launch) (D : va_G) (ad : Nat → Nat) (M : xM) (x1 : Int32)  {r : Int32} {M1 : xM} (h : f_X11_dispute M x1 = some (r, M1)) : xMetM l yX11_dispute cX11_dispute 2 (some .int) ({ frames := 7, cells := 0, slots := 0, locals := 157 } : Room) [.ref (ad 0), .int x1] D ad M (some (.int r)) M1 := by
  refine xMetM_of (own := RX11) (by decide) rfl (Nat.le_of_ble_eq_true rfl) ?_
  intro x C e1 e2 e3 ev eM hr
  subst e1; subst e2; subst e3
  refine r_sub (L := [(0, .ref (x_ad x 0)), (1, .int x1)]) (L' := [(0, .ref (x_ad x 0)), (1, .int x1)]) [0, 1] rfl ?_
  exact w_X11_dispute_0 C M x1 _ h hr ev eM

def b_X11_holder_49 (M : xM)  : Option (Int32 × xM) :=
  some ((-1 : Int32), M)
set_option maxRecDepth 20000 in
set_option maxHeartbeats 2000000 in
theorem w_X11_holder_49 {x : xC} (C : CtM x RX11 cX11_holder 3 ({ frames := 1, cells := 0, slots := 0, locals := 22 } : Room)) (M : xM)   (o : Int32 × xM) (h : b_X11_holder_49 M = some o) (hr : (x_me x).sig.returnType = some .int) (ev : x_rv x = some (.int o.1)) (eM : x_M x = o.2) : J x M 49 [] [] := by
  unfold b_X11_holder_49 at h
  refine r_iconst (v := -1) C.1 dX11_holder_49 rfl ?_
  obtain rfl := Option.some.inj h
  exact r_iret C.1 hr ev eM dX11_holder_50

def b_X11_holder_43 (M : xM) (x1 : Int32) (x2 : Int32) : Option ((Int32) ⊕ ((Int32) ⊕ (Unit))) :=
  lt (x2 + (1 : Int32)) (fun y_1 => some (.inl y_1))
set_option maxRecDepth 20000 in
set_option maxHeartbeats 2000000 in
theorem w_X11_holder_43 {x : xC} (C : CtM x RX11 cX11_holder 3 ({ frames := 1, cells := 0, slots := 0, locals := 22 } : Room)) (M : xM) (x1 : Int32) (x2 : Int32)  (o : (Int32) ⊕ ((Int32) ⊕ (Unit))) (h : b_X11_holder_43 M x1 x2 = some o) (kh : ∀ s : Int32, o = .inl s → J x M 7 [(0, .ref (x_ad x 0)), (1, .int x1), (2, .int s)] []) (ke_0 : ∀ v : Int32, o = .inr (.inl v) → J x M 41 [(2, .int v)] []) (ke_1 : ∀ v : Unit, o = .inr (.inr v) → J x M 49 [] []) : J x M 43 [(0, .ref (x_ad x 0)), (1, .int x1), (2, .int x2)] [] := by
  unfold b_X11_holder_43 at h
  obtain ⟨y_1, ey_1, h⟩ := lt_E h
  refine r_iinc C.1 2 [(2, .int y_1), (0, .ref (x_ad x 0)), (1, .int x1)] dX11_holder_43 rfl ey_1 (by decide) rfl ?_
  refine r_goto C.1 7 dX11_holder_46 (by decide) ?_
  exact r_sub [1, 2, 0] rfl (kh _ (Option.some.inj h).symm)

def bl_X11_holder_7 (M : xM) (x1 : Int32) (x2 : Int32) : Option ((Int32) ⊕ ((Int32) ⊕ (Unit))) :=
  gd (2 : Int32) 495 (if (M 4 (2 : Int32).toNatClampNeg) ≤ x2 then some (.inr (.inr ())) else if x1 ≤ 0 then some (.inr (.inr ())) else bd (f_X11_entryOf M x2 (0 : Int32)) (fun r_4 => if r_4 = (1 : Int32) then bd (f_X11_entryOf M x2 (5 : Int32)) (fun r_7 => if r_7 = x1 then some (.inr (.inl x2)) else b_X11_holder_43 M x1 x2) else b_X11_holder_43 M x1 x2))
set_option maxRecDepth 20000 in
set_option maxHeartbeats 2000000 in
theorem wl_X11_holder_7 {x : xC} (C : CtM x RX11 cX11_holder 3 ({ frames := 1, cells := 0, slots := 0, locals := 22 } : Room)) (M : xM) (x1 : Int32) (x2 : Int32)  (o : (Int32) ⊕ ((Int32) ⊕ (Unit))) (h : bl_X11_holder_7 M x1 x2 = some o) (kh : ∀ s : Int32, o = .inl s → J x M 7 [(0, .ref (x_ad x 0)), (1, .int x1), (2, .int s)] []) (ke_0 : ∀ v : Int32, o = .inr (.inl v) → J x M 41 [(2, .int v)] []) (ke_1 : ∀ v : Unit, o = .inr (.inr v) → J x M 49 [] []) : J x M 7 [(0, .ref (x_ad x 0)), (1, .int x1), (2, .int x2)] [] := by
  unfold bl_X11_holder_7 at h
  refine r_iload_n C.1 2 dX11_holder_7 rfl rfl ?_
  refine r_aload_n C.1 0 dX11_holder_8 rfl rfl ?_
  refine gf_X11_19 C dX11_holder_9 ?_
  refine r_iconst (v := 2) C.1 dX11_holder_12 rfl ?_
  obtain ⟨q_1, h⟩ := gd_E h
  refine r_iald C.1 (mK C (by decide)) (mS C (shm_4)) 0 (mT0 C) q_1 dX11_holder_13 ?_
  refine r_icmp_ge C.1 49 dX11_holder_14 (by decide) (fun c_2 => ?_) (fun c_2 => ?_)
  · replace h := ite_T c_2 h
    exact r_sub [] rfl (ke_1 _ (Option.some.inj h).symm)
  · replace h := ite_F c_2 h
    refine r_iload_n C.1 1 dX11_holder_17 rfl rfl ?_
    refine r_if_le C.1 49 dX11_holder_18 (by decide) (fun c_3 => ?_) (fun c_3 => ?_)
    · replace h := ite_T c_3 h
      exact r_sub [] rfl (ke_1 _ (Option.some.inj h).symm)
    · replace h := ite_F c_3 h
      refine r_aload_n C.1 0 dX11_holder_21 rfl rfl ?_
      refine r_iload_n C.1 2 dX11_holder_22 rfl rfl ?_
      refine r_iconst (v := 0) C.1 dX11_holder_23 rfl ?_
      obtain ⟨r_4, hc_5, h⟩ := bd_E h
      refine cl_X11_173 C ⟨Nat.le_of_ble_eq_true rfl, Nat.le_of_ble_eq_true rfl⟩ (m_X11_entryOf _ _ _ M x2 (0 : Int32) hc_5) (Nat.le_of_ble_eq_true rfl) dX11_holder_24 ?_
      refine r_iconst (v := 1) C.1 dX11_holder_27 rfl ?_
      refine r_icmp_ne C.1 43 dX11_holder_28 (by decide) (fun c_6 => ?_) (fun c_6 => ?_)
      · replace h := ite_F c_6 h
        exact r_sub [0, 1, 2] rfl (w_X11_holder_43 C M x1 x2 _ h kh ke_0 ke_1)
      · replace h := ite_T c_6 h
        refine r_aload_n C.1 0 dX11_holder_31 rfl rfl ?_
        refine r_iload_n C.1 2 dX11_holder_32 rfl rfl ?_
        refine r_iconst (v := 5) C.1 dX11_holder_33 rfl ?_
        obtain ⟨r_7, hc_8, h⟩ := bd_E h
        refine cl_X11_173 C ⟨Nat.le_of_ble_eq_true rfl, Nat.le_of_ble_eq_true rfl⟩ (m_X11_entryOf _ _ _ M x2 (5 : Int32) hc_8) (Nat.le_of_ble_eq_true rfl) dX11_holder_34 ?_
        refine r_iload_n C.1 1 dX11_holder_37 rfl rfl ?_
        refine r_icmp_ne C.1 43 dX11_holder_38 (by decide) (fun c_9 => ?_) (fun c_9 => ?_)
        · replace h := ite_F c_9 h
          exact r_sub [0, 1, 2] rfl (w_X11_holder_43 C M x1 x2 _ h kh ke_0 ke_1)
        · replace h := ite_T c_9 h
          exact r_sub [2] rfl (ke_0 _ (Option.some.inj h).symm)

def b_X11_holder_7 (M : xM) (x1 : Int32) (x2 : Int32) : Option (Int32 × xM) :=
  bd (loopN (fun s : Int32 => bl_X11_holder_7 M x1 s) BG x2) (fun r => sm r (fun v => some (v, M)) (fun v => b_X11_holder_49 M))
set_option maxRecDepth 20000 in
set_option maxHeartbeats 2000000 in
theorem w_X11_holder_7 {x : xC} (C : CtM x RX11 cX11_holder 3 ({ frames := 1, cells := 0, slots := 0, locals := 22 } : Room)) (M : xM) (x1 : Int32) (x2 : Int32)  (o : Int32 × xM) (h : b_X11_holder_7 M x1 x2 = some o) (hr : (x_me x).sig.returnType = some .int) (ev : x_rv x = some (.int o.1)) (eM : x_M x = o.2) : J x M 7 [(0, .ref (x_ad x 0)), (1, .int x1), (2, .int x2)] [] := by
  unfold b_X11_holder_7 at h
  obtain ⟨r_0, hr_0, h⟩ := bd_E h
  refine loopN_ind (JJ := fun s => J x M 7 [(0, .ref (x_ad x 0)), (1, .int x1), (2, .int s)] []) (KX := fun q => q = r_0) ?_ BG x2 r_0 hr_0 rfl
  intro s o1 hb kk1 kk2
  refine wl_X11_holder_7 C M x1 s _ hb kk1 ?_ ?_
  · intro v e0
    have e1 := kk2 _ e0
    subst e1
    replace h := sm_l h
    refine r_iload_n C.1 0 dX11_holder_41 rfl rfl ?_
    obtain rfl := Option.some.inj h
    exact r_iret C.1 hr ev eM dX11_holder_42
  · intro v e0
    have e1 := kk2 _ e0
    subst e1
    replace h := sm_r h
    exact r_sub [] rfl (w_X11_holder_49 C M _ h hr ev eM)

def b_X11_holder_0 (M : xM) (x1 : Int32) : Option (Int32 × xM) :=
  lt (uM M 0 0 (0 : Int32)) (fun M_1 => b_X11_holder_7 M_1 x1 (0 : Int32))
set_option maxRecDepth 20000 in
set_option maxHeartbeats 2000000 in
theorem w_X11_holder_0 {x : xC} (C : CtM x RX11 cX11_holder 3 ({ frames := 1, cells := 0, slots := 0, locals := 22 } : Room)) (M : xM) (x1 : Int32)  (o : Int32 × xM) (h : b_X11_holder_0 M x1 = some o) (hr : (x_me x).sig.returnType = some .int) (ev : x_rv x = some (.int o.1)) (eM : x_M x = o.2) : J x M 0 [(0, .ref (x_ad x 0)), (1, .int x1)] [] := by
  unfold b_X11_holder_0 at h
  refine r_aload_n C.1 0 dX11_holder_0 rfl rfl ?_
  refine r_iconst (v := 0) C.1 dX11_holder_1 rfl ?_
  obtain ⟨M_1, eM_1, h⟩ := lt_E h
  refine pf_X11_56 C eM_1 dX11_holder_2 ?_
  refine r_iconst (v := 0) C.1 dX11_holder_5 rfl ?_
  refine r_istore_n C.1 [(2, .int (0 : Int32)), (0, .ref (x_ad x 0)), (1, .int x1)] dX11_holder_6 rfl (by decide) rfl rfl ?_
  exact r_sub [1, 2, 0] rfl (w_X11_holder_7 C M_1 x1 (0 : Int32) _ h hr ev eM)
def f_X11_holder (M : xM) (x1 : Int32) : Option (Int32 × xM) := b_X11_holder_0 M x1
set_option maxRecDepth 20000 in
theorem m_X11_holder (l : Launch) (D : va_G) (ad : Nat → Nat) (M : xM) (x1 : Int32)  {r : Int32} {M1 : xM} (h : f_X11_holder M x1 = some (r, M1)) : xMetM l yX11_holder cX11_holder 3 (some .int) ({ frames := 1, cells := 0, slots := 0, locals := 22 } : Room) [.ref (ad 0), .int x1] D ad M (some (.int r)) M1 := by
  refine xMetM_of (own := RX11) (by decide) rfl (Nat.le_of_ble_eq_true rfl) ?_
  intro x C e1 e2 e3 ev eM hr
  subst e1; subst e2; subst e3
  refine r_sub (L := [(0, .ref (x_ad x 0)), (1, .int x1)]) (L' := [(0, .ref (x_ad x 0)), (1, .int x1)]) [0, 1] rfl ?_
  exact w_X11_holder_0 C M x1 _ h hr ev eM

def b_X11_again_69 (M : xM) (x1 : Int32) (x2 : Int32) : Option ((xM × Int32) ⊕ (xM)) :=
  lt (x2 + (1 : Int32)) (fun y_1 => some (.inl (M, y_1)))
set_option maxRecDepth 20000 in
set_option maxHeartbeats 2000000 in
theorem w_X11_again_69 {x : xC} (C : CtM x RX11 cX11_again 3 ({ frames := 2, cells := 0, slots := 0, locals := 46 } : Room)) (M : xM) (x1 : Int32) (x2 : Int32)  (o : (xM × Int32) ⊕ (xM)) (h : b_X11_again_69 M x1 x2 = some o) (kh : ∀ s : xM × Int32, o = .inl s → J x s.1 12 [(0, .ref (x_ad x 0)), (1, .int x1), (2, .int s.2)] []) (ke_0 : ∀ v : xM, o = .inr v → J x v 75 [(0, .ref (x_ad x 0)), (1, .int x1)] []) : J x M 69 [(0, .ref (x_ad x 0)), (1, .int x1), (2, .int x2)] [] := by
  unfold b_X11_again_69 at h
  obtain ⟨y_1, ey_1, h⟩ := lt_E h
  refine r_iinc C.1 2 [(2, .int y_1), (0, .ref (x_ad x 0)), (1, .int x1)] dX11_again_69 rfl ey_1 (by decide) rfl ?_
  refine r_goto C.1 12 dX11_again_72 (by decide) ?_
  exact r_sub [1, 2, 0] rfl (kh _ (Option.some.inj h).symm)

def bl_X11_again_12 (M : xM) (x1 : Int32) (x2 : Int32) : Option ((xM × Int32) ⊕ (xM)) :=
  gd (2 : Int32) 495 (if (M 4 (2 : Int32).toNatClampNeg) ≤ x2 then some (.inr M) else bd (f_X11_entryOf M x2 (0 : Int32)) (fun r_3 => if r_3 = (1 : Int32) then bd (f_X11_entryOf M x2 (5 : Int32)) (fun r_6 => if r_6 = 0 then b_X11_again_69 M x1 x2 else bd (f_X11_isGood M x2) (fun r_9 => if r_9 = 0 then gd (M 0 25) 1000 (lt (uM M 13 (M 0 25).toNatClampNeg x2) (fun M_13 => lt (uM M_13 0 25 ((M_13 0 25) + (1 : Int32))) (fun M_14 => b_X11_again_69 M_14 x1 x2))) else b_X11_again_69 M x1 x2)) else b_X11_again_69 M x1 x2))
set_option maxRecDepth 20000 in
set_option maxHeartbeats 2000000 in
theorem wl_X11_again_12 {x : xC} (C : CtM x RX11 cX11_again 3 ({ frames := 2, cells := 0, slots := 0, locals := 46 } : Room)) (M : xM) (x1 : Int32) (x2 : Int32)  (o : (xM × Int32) ⊕ (xM)) (h : bl_X11_again_12 M x1 x2 = some o) (kh : ∀ s : xM × Int32, o = .inl s → J x s.1 12 [(0, .ref (x_ad x 0)), (1, .int x1), (2, .int s.2)] []) (ke_0 : ∀ v : xM, o = .inr v → J x v 75 [(0, .ref (x_ad x 0)), (1, .int x1)] []) : J x M 12 [(0, .ref (x_ad x 0)), (1, .int x1), (2, .int x2)] [] := by
  unfold bl_X11_again_12 at h
  refine r_iload_n C.1 2 dX11_again_12 rfl rfl ?_
  refine r_aload_n C.1 0 dX11_again_13 rfl rfl ?_
  refine gf_X11_19 C dX11_again_14 ?_
  refine r_iconst (v := 2) C.1 dX11_again_17 rfl ?_
  obtain ⟨q_1, h⟩ := gd_E h
  refine r_iald C.1 (mK C (by decide)) (mS C (shm_4)) 0 (mT0 C) q_1 dX11_again_18 ?_
  refine r_icmp_ge C.1 75 dX11_again_19 (by decide) (fun c_2 => ?_) (fun c_2 => ?_)
  · replace h := ite_T c_2 h
    exact r_sub [0, 1] rfl (ke_0 _ (Option.some.inj h).symm)
  · replace h := ite_F c_2 h
    refine r_aload_n C.1 0 dX11_again_22 rfl rfl ?_
    refine r_iload_n C.1 2 dX11_again_23 rfl rfl ?_
    refine r_iconst (v := 0) C.1 dX11_again_24 rfl ?_
    obtain ⟨r_3, hc_4, h⟩ := bd_E h
    refine cl_X11_173 C ⟨Nat.le_of_ble_eq_true rfl, Nat.le_of_ble_eq_true rfl⟩ (m_X11_entryOf _ _ _ M x2 (0 : Int32) hc_4) (Nat.le_of_ble_eq_true rfl) dX11_again_25 ?_
    refine r_iconst (v := 1) C.1 dX11_again_28 rfl ?_
    refine r_icmp_ne C.1 69 dX11_again_29 (by decide) (fun c_5 => ?_) (fun c_5 => ?_)
    · replace h := ite_F c_5 h
      exact r_sub [0, 1, 2] rfl (w_X11_again_69 C M x1 x2 _ h kh ke_0)
    · replace h := ite_T c_5 h
      refine r_aload_n C.1 0 dX11_again_32 rfl rfl ?_
      refine r_iload_n C.1 2 dX11_again_33 rfl rfl ?_
      refine r_iconst (v := 5) C.1 dX11_again_34 rfl ?_
      obtain ⟨r_6, hc_7, h⟩ := bd_E h
      refine cl_X11_173 C ⟨Nat.le_of_ble_eq_true rfl, Nat.le_of_ble_eq_true rfl⟩ (m_X11_entryOf _ _ _ M x2 (5 : Int32) hc_7) (Nat.le_of_ble_eq_true rfl) dX11_again_35 ?_
      refine r_if_eq C.1 69 dX11_again_38 (by decide) (fun c_8 => ?_) (fun c_8 => ?_)
      · replace h := ite_T c_8 h
        exact r_sub [0, 1, 2] rfl (w_X11_again_69 C M x1 x2 _ h kh ke_0)
      · replace h := ite_F c_8 h
        refine r_aload_n C.1 0 dX11_again_41 rfl rfl ?_
        refine r_iload_n C.1 2 dX11_again_42 rfl rfl ?_
        obtain ⟨r_9, hc_10, h⟩ := bd_E h
        refine cl_X11_179 C ⟨Nat.le_of_ble_eq_true rfl, Nat.le_of_ble_eq_true rfl⟩ (m_X11_isGood _ _ _ M x2 hc_10) (Nat.le_of_ble_eq_true rfl) dX11_again_43 ?_
        refine r_if_ne C.1 69 dX11_again_46 (by decide) (fun c_11 => ?_) (fun c_11 => ?_)
        · replace h := ite_F c_11 h
          exact r_sub [0, 1, 2] rfl (w_X11_again_69 C M x1 x2 _ h kh ke_0)
        · replace h := ite_T c_11 h
          refine r_aload_n C.1 0 dX11_again_49 rfl rfl ?_
          refine gf_X11_46 C dX11_again_50 ?_
          refine r_aload_n C.1 0 dX11_again_53 rfl rfl ?_
          refine gf_X11_355 C dX11_again_54 ?_
          refine r_iload_n C.1 2 dX11_again_57 rfl rfl ?_
          obtain ⟨q_12, h⟩ := gd_E h
          obtain ⟨M_13, eM_13, h⟩ := lt_E h
          refine r_iast C.1 (mK C (by decide)) (mS C (shm_13)) 0 (mT0 C) q_12 eM_13 dX11_again_58 ?_
          refine r_aload_n C.1 0 dX11_again_59 rfl rfl ?_
          refine r_dup C.1 rfl dX11_again_60 ?_
          refine gf_X11_355 C dX11_again_61 ?_
          refine r_iconst (v := 1) C.1 dX11_again_64 rfl ?_
          refine r_iadd C.1 dX11_again_65 ?_
          obtain ⟨M_14, eM_14, h⟩ := lt_E h
          refine pf_X11_355 C eM_14 dX11_again_66 ?_
          exact r_sub [0, 1, 2] rfl (w_X11_again_69 C M_14 x1 x2 _ h kh ke_0)

def b_X11_again_12 (M : xM) (x1 : Int32) (x2 : Int32) : Option (Int32 × xM) :=
  bd (loopN (fun s : xM × Int32 => bl_X11_again_12 s.1 x1 s.2) BG (M, x2)) (fun v => bd (f_X11_told v x1) (fun r_1 => some (r_1, v)))
set_option maxRecDepth 20000 in
set_option maxHeartbeats 2000000 in
theorem w_X11_again_12 {x : xC} (C : CtM x RX11 cX11_again 3 ({ frames := 2, cells := 0, slots := 0, locals := 46 } : Room)) (M : xM) (x1 : Int32) (x2 : Int32)  (o : Int32 × xM) (h : b_X11_again_12 M x1 x2 = some o) (hr : (x_me x).sig.returnType = some .int) (ev : x_rv x = some (.int o.1)) (eM : x_M x = o.2) : J x M 12 [(0, .ref (x_ad x 0)), (1, .int x1), (2, .int x2)] [] := by
  unfold b_X11_again_12 at h
  obtain ⟨r_0, hr_0, h⟩ := bd_E h
  refine loopN_ind (JJ := fun s => J x s.1 12 [(0, .ref (x_ad x 0)), (1, .int x1), (2, .int s.2)] []) (KX := fun q => q = r_0) ?_ BG (M, x2) r_0 hr_0 rfl
  intro s o1 hb kk1 kk2
  refine wl_X11_again_12 C s.1 x1 s.2 _ hb kk1 ?_
  · intro v e0
    have e1 := kk2 _ e0
    subst e1
    refine r_aload_n C.1 0 dX11_again_75 rfl rfl ?_
    refine r_iload_n C.1 1 dX11_again_76 rfl rfl ?_
    obtain ⟨r_1, hc_2, h⟩ := bd_E h
    refine cl_X11_361 C ⟨Nat.le_of_ble_eq_true rfl, Nat.le_of_ble_eq_true rfl⟩ (m_X11_told _ _ _ v x1 hc_2) (Nat.le_of_ble_eq_true rfl) dX11_again_77 ?_
    obtain rfl := Option.some.inj h
    exact r_iret C.1 hr ev eM dX11_again_80

def b_X11_again_0 (M : xM) (x1 : Int32) : Option (Int32 × xM) :=
  lt (uM M 0 0 (0 : Int32)) (fun M_1 => lt (uM M_1 0 25 (0 : Int32)) (fun M_2 => b_X11_again_12 M_2 x1 (0 : Int32)))
set_option maxRecDepth 20000 in
set_option maxHeartbeats 2000000 in
theorem w_X11_again_0 {x : xC} (C : CtM x RX11 cX11_again 3 ({ frames := 2, cells := 0, slots := 0, locals := 46 } : Room)) (M : xM) (x1 : Int32)  (o : Int32 × xM) (h : b_X11_again_0 M x1 = some o) (hr : (x_me x).sig.returnType = some .int) (ev : x_rv x = some (.int o.1)) (eM : x_M x = o.2) : J x M 0 [(0, .ref (x_ad x 0)), (1, .int x1)] [] := by
  unfold b_X11_again_0 at h
  refine r_aload_n C.1 0 dX11_again_0 rfl rfl ?_
  refine r_iconst (v := 0) C.1 dX11_again_1 rfl ?_
  obtain ⟨M_1, eM_1, h⟩ := lt_E h
  refine pf_X11_56 C eM_1 dX11_again_2 ?_
  refine r_aload_n C.1 0 dX11_again_5 rfl rfl ?_
  refine r_iconst (v := 0) C.1 dX11_again_6 rfl ?_
  obtain ⟨M_2, eM_2, h⟩ := lt_E h
  refine pf_X11_355 C eM_2 dX11_again_7 ?_
  refine r_iconst (v := 0) C.1 dX11_again_10 rfl ?_
  refine r_istore_n C.1 [(2, .int (0 : Int32)), (0, .ref (x_ad x 0)), (1, .int x1)] dX11_again_11 rfl (by decide) rfl rfl ?_
  exact r_sub [1, 2, 0] rfl (w_X11_again_12 C M_2 x1 (0 : Int32) _ h hr ev eM)
def f_X11_again (M : xM) (x1 : Int32) : Option (Int32 × xM) := b_X11_again_0 M x1
set_option maxRecDepth 20000 in
theorem m_X11_again (l : Launch) (D : va_G) (ad : Nat → Nat) (M : xM) (x1 : Int32)  {r : Int32} {M1 : xM} (h : f_X11_again M x1 = some (r, M1)) : xMetM l yX11_again cX11_again 3 (some .int) ({ frames := 2, cells := 0, slots := 0, locals := 46 } : Room) [.ref (ad 0), .int x1] D ad M (some (.int r)) M1 := by
  refine xMetM_of (own := RX11) (by decide) rfl (Nat.le_of_ble_eq_true rfl) ?_
  intro x C e1 e2 e3 ev eM hr
  subst e1; subst e2; subst e3
  refine r_sub (L := [(0, .ref (x_ad x 0)), (1, .int x1)]) (L' := [(0, .ref (x_ad x 0)), (1, .int x1)]) [0, 1] rfl ?_
  exact w_X11_again_0 C M x1 _ h hr ev eM

def b_X11_needed_25 (M : xM)  : Option (Int32 × xM) :=
  some ((-1000000000 : Int32), M)
set_option maxRecDepth 20000 in
set_option maxHeartbeats 2000000 in
theorem w_X11_needed_25 {x : xC} (C : CtM x RX11 cX11_needed 5 ({ frames := 7, cells := 0, slots := 0, locals := 157 } : Room)) (M : xM)   (o : Int32 × xM) (h : b_X11_needed_25 M = some o) (hr : (x_me x).sig.returnType = some .int) (ev : x_rv x = some (.int o.1)) (eM : x_M x = o.2) : J x M 25 [] [] := by
  unfold b_X11_needed_25 at h
  refine r_ldcw (v := -1000000000) C.1 kw_1631 dX11_needed_25 ?_
  obtain rfl := Option.some.inj h
  exact r_iret C.1 hr ev eM dX11_needed_28

def bl_X11_needed_71 (M : xM) (x2 : Int32) (x3 : Int32) (x4 : Int32) : Option ((Int32 × Int32) ⊕ (Int32)) :=
  if x3 ≤ x2 then some (.inr x4) else gd x4 1000 (bd (f_X11_disallowed M (M 13 x4.toNatClampNeg)) (fun r_3 => lt (x3 - r_3) (fun y_5 => lt (x4 + (1 : Int32)) (fun y_6 => some (.inl (y_5, y_6))))))
set_option maxRecDepth 20000 in
set_option maxHeartbeats 2000000 in
theorem wl_X11_needed_71 {x : xC} (C : CtM x RX11 cX11_needed 5 ({ frames := 7, cells := 0, slots := 0, locals := 157 } : Room)) (M : xM) (x2 : Int32) (x3 : Int32) (x4 : Int32)  (o : (Int32 × Int32) ⊕ (Int32)) (h : bl_X11_needed_71 M x2 x3 x4 = some o) (kh : ∀ s : Int32 × Int32, o = .inl s → J x M 71 [(0, .ref (x_ad x 0)), (2, .int x2), (3, .int s.1), (4, .int s.2)] []) (ke_0 : ∀ v : Int32, o = .inr v → J x M 96 [(4, .int v)] []) : J x M 71 [(0, .ref (x_ad x 0)), (2, .int x2), (3, .int x3), (4, .int x4)] [] := by
  unfold bl_X11_needed_71 at h
  refine r_iload_n C.1 2 dX11_needed_71 rfl rfl ?_
  refine r_iload_n C.1 1 dX11_needed_72 rfl rfl ?_
  refine r_icmp_le C.1 96 dX11_needed_73 (by decide) (fun c_1 => ?_) (fun c_1 => ?_)
  · replace h := ite_T c_1 h
    exact r_sub [3] rfl (ke_0 _ (Option.some.inj h).symm)
  · replace h := ite_F c_1 h
    refine r_iload_n C.1 2 dX11_needed_76 rfl rfl ?_
    refine r_aload_n C.1 0 dX11_needed_77 rfl rfl ?_
    refine r_aload_n C.1 0 dX11_needed_78 rfl rfl ?_
    refine gf_X11_46 C dX11_needed_79 ?_
    refine r_iload C.1 3 dX11_needed_82 rfl ?_
    obtain ⟨q_2, h⟩ := gd_E h
    refine r_iald C.1 (mK C (by decide)) (mS C (shm_13)) 0 (mT0 C) q_2 dX11_needed_84 ?_
    obtain ⟨r_3, hc_4, h⟩ := bd_E h
    refine cl_X11_237 C ⟨Nat.le_of_ble_eq_true rfl, Nat.le_of_ble_eq_true rfl⟩ (m_X11_disallowed _ _ _ M (M 13 x4.toNatClampNeg) hc_4) (Nat.le_of_ble_eq_true rfl) dX11_needed_85 ?_
    refine r_isub C.1 dX11_needed_88 ?_
    obtain ⟨y_5, ey_5, h⟩ := lt_E h
    refine r_istore_n C.1 [(3, .int y_5), (0, .ref (x_ad x 0)), (2, .int x2), (4, .int x4)] dX11_needed_89 rfl (by decide) ey_5 rfl ?_
    obtain ⟨y_6, ey_6, h⟩ := lt_E h
    refine r_iinc C.1 3 [(4, .int y_6), (3, .int y_5), (0, .ref (x_ad x 0)), (2, .int x2)] dX11_needed_90 rfl ey_6 (by decide) rfl ?_
    refine r_goto C.1 71 dX11_needed_93 (by decide) ?_
    exact r_sub [2, 3, 1, 0] rfl (kh _ (Option.some.inj h).symm)

def b_X11_needed_71 (M : xM) (x2 : Int32) (x3 : Int32) (x4 : Int32) : Option (Int32 × xM) :=
  bd (loopN (fun s : Int32 × Int32 => bl_X11_needed_71 M x2 s.1 s.2) BG (x3, x4)) (fun v => some (v, M))
set_option maxRecDepth 20000 in
set_option maxHeartbeats 2000000 in
theorem w_X11_needed_71 {x : xC} (C : CtM x RX11 cX11_needed 5 ({ frames := 7, cells := 0, slots := 0, locals := 157 } : Room)) (M : xM) (x2 : Int32) (x3 : Int32) (x4 : Int32)  (o : Int32 × xM) (h : b_X11_needed_71 M x2 x3 x4 = some o) (hr : (x_me x).sig.returnType = some .int) (ev : x_rv x = some (.int o.1)) (eM : x_M x = o.2) : J x M 71 [(0, .ref (x_ad x 0)), (2, .int x2), (3, .int x3), (4, .int x4)] [] := by
  unfold b_X11_needed_71 at h
  obtain ⟨r_0, hr_0, h⟩ := bd_E h
  refine loopN_ind (JJ := fun s => J x M 71 [(0, .ref (x_ad x 0)), (2, .int x2), (3, .int s.1), (4, .int s.2)] []) (KX := fun q => q = r_0) ?_ BG (x3, x4) r_0 hr_0 rfl
  intro s o1 hb kk1 kk2
  refine wl_X11_needed_71 C M x2 s.1 s.2 _ hb kk1 ?_
  · intro v e0
    have e1 := kk2 _ e0
    subst e1
    refine r_iload C.1 0 dX11_needed_96 rfl ?_
    obtain rfl := Option.some.inj h
    exact r_iret C.1 hr ev eM dX11_needed_98

def bl_X11_needed_39 (M : xM) (x2 : Int32) (x3 : Int32) (x4 : Int32) : Option ((Int32 × Int32) ⊕ (Int32)) :=
  if (M 0 25) ≤ x4 then some (.inr x3) else gd x4 1000 (bd (f_X11_disallowed M (M 13 x4.toNatClampNeg)) (fun r_3 => lt (x3 + r_3) (fun y_5 => lt (x4 + (1 : Int32)) (fun y_6 => some (.inl (y_5, y_6))))))
set_option maxRecDepth 20000 in
set_option maxHeartbeats 2000000 in
theorem wl_X11_needed_39 {x : xC} (C : CtM x RX11 cX11_needed 5 ({ frames := 7, cells := 0, slots := 0, locals := 157 } : Room)) (M : xM) (x2 : Int32) (x3 : Int32) (x4 : Int32)  (o : (Int32 × Int32) ⊕ (Int32)) (h : bl_X11_needed_39 M x2 x3 x4 = some o) (kh : ∀ s : Int32 × Int32, o = .inl s → J x M 39 [(0, .ref (x_ad x 0)), (2, .int x2), (3, .int s.1), (4, .int s.2)] []) (ke_0 : ∀ v : Int32, o = .inr v → J x M 68 [(0, .ref (x_ad x 0)), (2, .int x2), (3, .int v)] []) : J x M 39 [(0, .ref (x_ad x 0)), (2, .int x2), (3, .int x3), (4, .int x4)] [] := by
  unfold bl_X11_needed_39 at h
  refine r_iload C.1 3 dX11_needed_39 rfl ?_
  refine r_aload_n C.1 0 dX11_needed_41 rfl rfl ?_
  refine gf_X11_355 C dX11_needed_42 ?_
  refine r_icmp_ge C.1 68 dX11_needed_45 (by decide) (fun c_1 => ?_) (fun c_1 => ?_)
  · replace h := ite_T c_1 h
    exact r_sub [0, 1, 2] rfl (ke_0 _ (Option.some.inj h).symm)
  · replace h := ite_F c_1 h
    refine r_iload_n C.1 2 dX11_needed_48 rfl rfl ?_
    refine r_aload_n C.1 0 dX11_needed_49 rfl rfl ?_
    refine r_aload_n C.1 0 dX11_needed_50 rfl rfl ?_
    refine gf_X11_46 C dX11_needed_51 ?_
    refine r_iload C.1 3 dX11_needed_54 rfl ?_
    obtain ⟨q_2, h⟩ := gd_E h
    refine r_iald C.1 (mK C (by decide)) (mS C (shm_13)) 0 (mT0 C) q_2 dX11_needed_56 ?_
    obtain ⟨r_3, hc_4, h⟩ := bd_E h
    refine cl_X11_237 C ⟨Nat.le_of_ble_eq_true rfl, Nat.le_of_ble_eq_true rfl⟩ (m_X11_disallowed _ _ _ M (M 13 x4.toNatClampNeg) hc_4) (Nat.le_of_ble_eq_true rfl) dX11_needed_57 ?_
    refine r_iadd C.1 dX11_needed_60 ?_
    obtain ⟨y_5, ey_5, h⟩ := lt_E h
    refine r_istore_n C.1 [(3, .int y_5), (0, .ref (x_ad x 0)), (2, .int x2), (4, .int x4)] dX11_needed_61 rfl (by decide) ey_5 rfl ?_
    obtain ⟨y_6, ey_6, h⟩ := lt_E h
    refine r_iinc C.1 3 [(4, .int y_6), (3, .int y_5), (0, .ref (x_ad x 0)), (2, .int x2)] dX11_needed_62 rfl ey_6 (by decide) rfl ?_
    refine r_goto C.1 39 dX11_needed_65 (by decide) ?_
    exact r_sub [2, 3, 1, 0] rfl (kh _ (Option.some.inj h).symm)

def b_X11_needed_39 (M : xM) (x2 : Int32) (x3 : Int32) (x4 : Int32) : Option (Int32 × xM) :=
  bd (loopN (fun s : Int32 × Int32 => bl_X11_needed_39 M x2 s.1 s.2) BG (x3, x4)) (fun v => b_X11_needed_71 M x2 v (0 : Int32))
set_option maxRecDepth 20000 in
set_option maxHeartbeats 2000000 in
theorem w_X11_needed_39 {x : xC} (C : CtM x RX11 cX11_needed 5 ({ frames := 7, cells := 0, slots := 0, locals := 157 } : Room)) (M : xM) (x2 : Int32) (x3 : Int32) (x4 : Int32)  (o : Int32 × xM) (h : b_X11_needed_39 M x2 x3 x4 = some o) (hr : (x_me x).sig.returnType = some .int) (ev : x_rv x = some (.int o.1)) (eM : x_M x = o.2) : J x M 39 [(0, .ref (x_ad x 0)), (2, .int x2), (3, .int x3), (4, .int x4)] [] := by
  unfold b_X11_needed_39 at h
  obtain ⟨r_0, hr_0, h⟩ := bd_E h
  refine loopN_ind (JJ := fun s => J x M 39 [(0, .ref (x_ad x 0)), (2, .int x2), (3, .int s.1), (4, .int s.2)] []) (KX := fun q => q = r_0) ?_ BG (x3, x4) r_0 hr_0 rfl
  intro s o1 hb kk1 kk2
  refine wl_X11_needed_39 C M x2 s.1 s.2 _ hb kk1 ?_
  · intro v e0
    have e1 := kk2 _ e0
    subst e1
    refine r_iconst (v := 0) C.1 dX11_needed_68 rfl ?_
    refine r_istore C.1 [(4, .int (0 : Int32)), (0, .ref (x_ad x 0)), (2, .int x2), (3, .int v)] dX11_needed_69 (by decide) rfl rfl ?_
    exact r_sub [1, 2, 3, 0] rfl (w_X11_needed_71 C M x2 v (0 : Int32) _ h hr ev eM)

def b_X11_needed_0 (M : xM) (x1 : Int32) (x2 : Int32) : Option (Int32 × xM) :=
  lt (uM M 0 0 (0 : Int32)) (fun M_1 => bd (f_X11_isWard M_1 x1) (fun r_2 => if r_2 = 0 then b_X11_needed_25 M_1 else bd (f_X11_in M_1 x2.toInt64 (0 : Int64) (9999999 : Int64)) (fun r_5 => if r_5 = 0 then b_X11_needed_25 M_1 else bd (f_X11_laysDisputes M_1 x1) (fun M_10 => b_X11_needed_39 M_10 x2 (0 : Int32) (0 : Int32)))))
set_option maxRecDepth 20000 in
set_option maxHeartbeats 2000000 in
theorem w_X11_needed_0 {x : xC} (C : CtM x RX11 cX11_needed 5 ({ frames := 7, cells := 0, slots := 0, locals := 157 } : Room)) (M : xM) (x1 : Int32) (x2 : Int32)  (o : Int32 × xM) (h : b_X11_needed_0 M x1 x2 = some o) (hr : (x_me x).sig.returnType = some .int) (ev : x_rv x = some (.int o.1)) (eM : x_M x = o.2) : J x M 0 [(0, .ref (x_ad x 0)), (1, .int x1), (2, .int x2)] [] := by
  unfold b_X11_needed_0 at h
  refine r_aload_n C.1 0 dX11_needed_0 rfl rfl ?_
  refine r_iconst (v := 0) C.1 dX11_needed_1 rfl ?_
  obtain ⟨M_1, eM_1, h⟩ := lt_E h
  refine pf_X11_56 C eM_1 dX11_needed_2 ?_
  refine r_aload_n C.1 0 dX11_needed_5 rfl rfl ?_
  refine r_iload_n C.1 1 dX11_needed_6 rfl rfl ?_
  obtain ⟨r_2, hc_3, h⟩ := bd_E h
  refine cl_X11_262 C ⟨Nat.le_of_ble_eq_true rfl, Nat.le_of_ble_eq_true rfl⟩ (m_X11_isWard _ _ _ M_1 x1 hc_3) (Nat.le_of_ble_eq_true rfl) dX11_needed_7 ?_
  refine r_if_eq C.1 25 dX11_needed_10 (by decide) (fun c_4 => ?_) (fun c_4 => ?_)
  · replace h := ite_T c_4 h
    exact r_sub [] rfl (w_X11_needed_25 C M_1 _ h hr ev eM)
  · replace h := ite_F c_4 h
    refine r_iload_n C.1 2 dX11_needed_13 rfl rfl ?_
    refine r_i2l C.1 dX11_needed_14 ?_
    refine r_lconst (v := 0) C.1 dX11_needed_15 rfl ?_
    refine r_ldc2 (v := 9999999) C.1 kw_1757 dX11_needed_16 ?_
    obtain ⟨r_5, hc_6, h⟩ := bd_E h
    refine cl_X11_67 C ⟨Nat.le_of_ble_eq_true rfl, Nat.le_of_ble_eq_true rfl⟩ (m_X11_in _ _ _ M_1 x2.toInt64 (0 : Int64) (9999999 : Int64) hc_6) (Nat.le_of_ble_eq_true rfl) dX11_needed_19 ?_
    refine r_if_ne C.1 29 dX11_needed_22 (by decide) (fun c_7 => ?_) (fun c_7 => ?_)
    · replace h := ite_F c_7 h
      refine r_aload_n C.1 0 dX11_needed_29 rfl rfl ?_
      refine r_iload_n C.1 1 dX11_needed_30 rfl rfl ?_
      obtain ⟨M_10, hc_9, h⟩ := bd_E h
      refine cl_X11_358 C ⟨Nat.le_of_ble_eq_true rfl, Nat.le_of_ble_eq_true rfl⟩ (m_X11_laysDisputes _ _ _ M_1 x1 hc_9) (Nat.le_of_ble_eq_true rfl) dX11_needed_31 ?_
      refine r_iconst (v := 0) C.1 dX11_needed_34 rfl ?_
      refine r_istore_n C.1 [(3, .int (0 : Int32)), (0, .ref (x_ad x 0)), (1, .int x1), (2, .int x2)] dX11_needed_35 rfl (by decide) rfl rfl ?_
      refine r_iconst (v := 0) C.1 dX11_needed_36 rfl ?_
      refine r_istore C.1 [(4, .int (0 : Int32)), (3, .int (0 : Int32)), (0, .ref (x_ad x 0)), (1, .int x1), (2, .int x2)] dX11_needed_37 (by decide) rfl rfl ?_
      exact r_sub [2, 4, 1, 0] rfl (w_X11_needed_39 C M_10 x2 (0 : Int32) (0 : Int32) _ h hr ev eM)
    · replace h := ite_T c_7 h
      exact r_sub [] rfl (w_X11_needed_25 C M_1 _ h hr ev eM)
def f_X11_needed (M : xM) (x1 : Int32) (x2 : Int32) : Option (Int32 × xM) := b_X11_needed_0 M x1 x2
set_option maxRecDepth 20000 in
theorem m_X11_needed (l : Launch) (D : va_G) (ad : Nat → Nat) (M : xM) (x1 : Int32) (x2 : Int32)  {r : Int32} {M1 : xM} (h : f_X11_needed M x1 x2 = some (r, M1)) : xMetM l yX11_needed cX11_needed 5 (some .int) ({ frames := 7, cells := 0, slots := 0, locals := 157 } : Room) [.ref (ad 0), .int x1, .int x2] D ad M (some (.int r)) M1 := by
  refine xMetM_of (own := RX11) (by decide) rfl (Nat.le_of_ble_eq_true rfl) ?_
  intro x C e1 e2 e3 ev eM hr
  subst e1; subst e2; subst e3
  refine r_sub (L := [(0, .ref (x_ad x 0)), (1, .int x1), (2, .int x2)]) (L' := [(0, .ref (x_ad x 0)), (1, .int x1), (2, .int x2)]) [0, 1, 2] rfl ?_
  exact w_X11_needed_0 C M x1 x2 _ h hr ev eM

def b_X11_isWorse_35 (M : xM) (s0 : Int32) : Option (Int32) :=
  gz s0 (some s0)
set_option maxRecDepth 20000 in
set_option maxHeartbeats 2000000 in
theorem w_X11_isWorse_35 {x : xC} (C : CtM x RX11 cX11_isWorse 3 ({ frames := 0, cells := 0, slots := 0, locals := 0 } : Room)) (M : xM) (s0 : Int32)  (o : Int32) (h : b_X11_isWorse_35 M s0 = some o) (hr : (x_me x).sig.returnType = some .boolean) (ev : x_rv x = some (.int o)) (eM : x_M x = M) : J x M 35 [] [.int s0] := by
  unfold b_X11_isWorse_35 at h
  obtain ⟨z_1, h⟩ := gz_E h
  obtain rfl := Option.some.inj h
  exact r_zret C.1 hr (nz_n z_1) ev eM dX11_isWorse_35

def b_X11_isWorse_92 (M : xM) (s0 : Int32) : Option (Int32) :=
  gz s0 (some s0)
set_option maxRecDepth 20000 in
set_option maxHeartbeats 2000000 in
theorem w_X11_isWorse_92 {x : xC} (C : CtM x RX11 cX11_isWorse 3 ({ frames := 0, cells := 0, slots := 0, locals := 0 } : Room)) (M : xM) (s0 : Int32)  (o : Int32) (h : b_X11_isWorse_92 M s0 = some o) (hr : (x_me x).sig.returnType = some .boolean) (ev : x_rv x = some (.int o)) (eM : x_M x = M) : J x M 92 [] [.int s0] := by
  unfold b_X11_isWorse_92 at h
  obtain ⟨z_1, h⟩ := gz_E h
  obtain rfl := Option.some.inj h
  exact r_zret C.1 hr (nz_n z_1) ev eM dX11_isWorse_92

def b_X11_isWorse_0 (M : xM) (x1 : Int32) (x2 : Int32) : Option (Int32) :=
  gd x1 3 (gd x2 3 (if (M 14 x1.toNatClampNeg) = (M 14 x2.toNatClampNeg) then gd ((4 : Int32) + x1) 495 (gd ((4 : Int32) + x2) 495 (if (M 4 ((4 : Int32) + x1).toNatClampNeg) = (M 4 ((4 : Int32) + x2).toNatClampNeg) then if x2 ≤ x1 then b_X11_isWorse_92 M (0 : Int32) else b_X11_isWorse_92 M (1 : Int32) else gd ((4 : Int32) + x1) 495 (gd ((4 : Int32) + x2) 495 (if (M 4 ((4 : Int32) + x2).toNatClampNeg) ≤ (M 4 ((4 : Int32) + x1).toNatClampNeg) then b_X11_isWorse_92 M (0 : Int32) else b_X11_isWorse_92 M (1 : Int32))))) else gd x1 3 (gd x2 3 (if (M 14 x1.toNatClampNeg) ≤ (M 14 x2.toNatClampNeg) then b_X11_isWorse_35 M (0 : Int32) else b_X11_isWorse_35 M (1 : Int32)))))
set_option maxRecDepth 20000 in
set_option maxHeartbeats 2000000 in
theorem w_X11_isWorse_0 {x : xC} (C : CtM x RX11 cX11_isWorse 3 ({ frames := 0, cells := 0, slots := 0, locals := 0 } : Room)) (M : xM) (x1 : Int32) (x2 : Int32)  (o : Int32) (h : b_X11_isWorse_0 M x1 x2 = some o) (hr : (x_me x).sig.returnType = some .boolean) (ev : x_rv x = some (.int o)) (eM : x_M x = M) : J x M 0 [(0, .ref (x_ad x 0)), (1, .int x1), (2, .int x2)] [] := by
  unfold b_X11_isWorse_0 at h
  refine r_aload_n C.1 0 dX11_isWorse_0 rfl rfl ?_
  refine gf_X11_49 C dX11_isWorse_1 ?_
  refine r_iload_n C.1 1 dX11_isWorse_4 rfl rfl ?_
  obtain ⟨q_1, h⟩ := gd_E h
  refine r_iald C.1 (mK C (by decide)) (mS C (shm_14)) 0 (mT0 C) q_1 dX11_isWorse_5 ?_
  refine r_aload_n C.1 0 dX11_isWorse_6 rfl rfl ?_
  refine gf_X11_49 C dX11_isWorse_7 ?_
  refine r_iload_n C.1 2 dX11_isWorse_10 rfl rfl ?_
  obtain ⟨q_2, h⟩ := gd_E h
  refine r_iald C.1 (mK C (by decide)) (mS C (shm_14)) 0 (mT0 C) q_2 dX11_isWorse_11 ?_
  refine r_icmp_eq C.1 36 dX11_isWorse_12 (by decide) (fun c_3 => ?_) (fun c_3 => ?_)
  · replace h := ite_T c_3 h
    refine r_aload_n C.1 0 dX11_isWorse_36 rfl rfl ?_
    refine gf_X11_19 C dX11_isWorse_37 ?_
    refine r_iconst (v := 4) C.1 dX11_isWorse_40 rfl ?_
    refine r_iload_n C.1 1 dX11_isWorse_41 rfl rfl ?_
    refine r_iadd C.1 dX11_isWorse_42 ?_
    obtain ⟨q_4, h⟩ := gd_E h
    refine r_iald C.1 (mK C (by decide)) (mS C (shm_4)) 0 (mT0 C) q_4 dX11_isWorse_43 ?_
    refine r_aload_n C.1 0 dX11_isWorse_44 rfl rfl ?_
    refine gf_X11_19 C dX11_isWorse_45 ?_
    refine r_iconst (v := 4) C.1 dX11_isWorse_48 rfl ?_
    refine r_iload_n C.1 2 dX11_isWorse_49 rfl rfl ?_
    refine r_iadd C.1 dX11_isWorse_50 ?_
    obtain ⟨q_5, h⟩ := gd_E h
    refine r_iald C.1 (mK C (by decide)) (mS C (shm_4)) 0 (mT0 C) q_5 dX11_isWorse_51 ?_
    refine r_icmp_eq C.1 82 dX11_isWorse_52 (by decide) (fun c_6 => ?_) (fun c_6 => ?_)
    · replace h := ite_T c_6 h
      refine r_iload_n C.1 1 dX11_isWorse_82 rfl rfl ?_
      refine r_iload_n C.1 2 dX11_isWorse_83 rfl rfl ?_
      refine r_icmp_ge C.1 91 dX11_isWorse_84 (by decide) (fun c_7 => ?_) (fun c_7 => ?_)
      · replace h := ite_T c_7 h
        refine r_iconst (v := 0) C.1 dX11_isWorse_91 rfl ?_
        exact r_sub [] rfl (w_X11_isWorse_92 C M (0 : Int32) _ h hr ev eM)
      · replace h := ite_F c_7 h
        refine r_iconst (v := 1) C.1 dX11_isWorse_87 rfl ?_
        refine r_goto C.1 92 dX11_isWorse_88 (by decide) ?_
        exact r_sub [] rfl (w_X11_isWorse_92 C M (1 : Int32) _ h hr ev eM)
    · replace h := ite_F c_6 h
      refine r_aload_n C.1 0 dX11_isWorse_55 rfl rfl ?_
      refine gf_X11_19 C dX11_isWorse_56 ?_
      refine r_iconst (v := 4) C.1 dX11_isWorse_59 rfl ?_
      refine r_iload_n C.1 1 dX11_isWorse_60 rfl rfl ?_
      refine r_iadd C.1 dX11_isWorse_61 ?_
      obtain ⟨q_8, h⟩ := gd_E h
      refine r_iald C.1 (mK C (by decide)) (mS C (shm_4)) 0 (mT0 C) q_8 dX11_isWorse_62 ?_
      refine r_aload_n C.1 0 dX11_isWorse_63 rfl rfl ?_
      refine gf_X11_19 C dX11_isWorse_64 ?_
      refine r_iconst (v := 4) C.1 dX11_isWorse_67 rfl ?_
      refine r_iload_n C.1 2 dX11_isWorse_68 rfl rfl ?_
      refine r_iadd C.1 dX11_isWorse_69 ?_
      obtain ⟨q_9, h⟩ := gd_E h
      refine r_iald C.1 (mK C (by decide)) (mS C (shm_4)) 0 (mT0 C) q_9 dX11_isWorse_70 ?_
      refine r_icmp_ge C.1 78 dX11_isWorse_71 (by decide) (fun c_10 => ?_) (fun c_10 => ?_)
      · replace h := ite_T c_10 h
        refine r_iconst (v := 0) C.1 dX11_isWorse_78 rfl ?_
        refine r_goto C.1 92 dX11_isWorse_79 (by decide) ?_
        exact r_sub [] rfl (w_X11_isWorse_92 C M (0 : Int32) _ h hr ev eM)
      · replace h := ite_F c_10 h
        refine r_iconst (v := 1) C.1 dX11_isWorse_74 rfl ?_
        refine r_goto C.1 92 dX11_isWorse_75 (by decide) ?_
        exact r_sub [] rfl (w_X11_isWorse_92 C M (1 : Int32) _ h hr ev eM)
  · replace h := ite_F c_3 h
    refine r_aload_n C.1 0 dX11_isWorse_15 rfl rfl ?_
    refine gf_X11_49 C dX11_isWorse_16 ?_
    refine r_iload_n C.1 1 dX11_isWorse_19 rfl rfl ?_
    obtain ⟨q_11, h⟩ := gd_E h
    refine r_iald C.1 (mK C (by decide)) (mS C (shm_14)) 0 (mT0 C) q_11 dX11_isWorse_20 ?_
    refine r_aload_n C.1 0 dX11_isWorse_21 rfl rfl ?_
    refine gf_X11_49 C dX11_isWorse_22 ?_
    refine r_iload_n C.1 2 dX11_isWorse_25 rfl rfl ?_
    obtain ⟨q_12, h⟩ := gd_E h
    refine r_iald C.1 (mK C (by decide)) (mS C (shm_14)) 0 (mT0 C) q_12 dX11_isWorse_26 ?_
    refine r_icmp_le C.1 34 dX11_isWorse_27 (by decide) (fun c_13 => ?_) (fun c_13 => ?_)
    · replace h := ite_T c_13 h
      refine r_iconst (v := 0) C.1 dX11_isWorse_34 rfl ?_
      exact r_sub [] rfl (w_X11_isWorse_35 C M (0 : Int32) _ h hr ev eM)
    · replace h := ite_F c_13 h
      refine r_iconst (v := 1) C.1 dX11_isWorse_30 rfl ?_
      refine r_goto C.1 35 dX11_isWorse_31 (by decide) ?_
      exact r_sub [] rfl (w_X11_isWorse_35 C M (1 : Int32) _ h hr ev eM)
def f_X11_isWorse (M : xM) (x1 : Int32) (x2 : Int32) : Option (Int32) := b_X11_isWorse_0 M x1 x2
set_option maxRecDepth 20000 in
theorem m_X11_isWorse (l : Launch) (D : va_G) (ad : Nat → Nat) (M : xM) (x1 : Int32) (x2 : Int32)  {o : Int32} (h : f_X11_isWorse M x1 x2 = some o) : xMetM l yX11_isWorse cX11_isWorse 3 (some .boolean) ({ frames := 0, cells := 0, slots := 0, locals := 0 } : Room) [.ref (ad 0), .int x1, .int x2] D ad M (some (.int o)) M := by
  refine xMetM_of (own := RX11) (by decide) rfl (Nat.le_of_ble_eq_true rfl) ?_
  intro x C e1 e2 e3 ev eM hr
  subst e1; subst e2; subst e3
  refine r_sub (L := [(0, .ref (x_ad x 0)), (1, .int x1), (2, .int x2)]) (L' := [(0, .ref (x_ad x 0)), (1, .int x1), (2, .int x2)]) [0, 1, 2] rfl ?_
  exact w_X11_isWorse_0 C M x1 x2 _ h hr ev eM

def b_X11_ranked_90 (M : xM) (x2 : Int32) (x3 : Int32) (x5 : Int32) (s0 : Int32) (s1 : Int32) : Option ((Int32 × Int32) ⊕ (Int32)) :=
  lt (s1 + s0) (fun y_1 => lt (x5 + (1 : Int32)) (fun y_2 => some (.inl (y_1, y_2))))
set_option maxRecDepth 20000 in
set_option maxHeartbeats 2000000 in
theorem w_X11_ranked_90 {x : xC} (C : CtM x RX11 cX11_ranked 6 ({ frames := 10, cells := 0, slots := 0, locals := 223 } : Room)) (M : xM) (x2 : Int32) (x3 : Int32) (x5 : Int32) (s0 : Int32) (s1 : Int32)  (o : (Int32 × Int32) ⊕ (Int32)) (h : b_X11_ranked_90 M x2 x3 x5 s0 s1 = some o) (kh : ∀ s : Int32 × Int32, o = .inl s → J x M 62 [(0, .ref (x_ad x 0)), (2, .int x2), (3, .int x3), (4, .int s.1), (5, .int s.2)] []) (ke_0 : ∀ v : Int32, o = .inr v → J x M 99 [(0, .ref (x_ad x 0)), (2, .int x2), (3, .int x3), (4, .int v)] []) : J x M 90 [(0, .ref (x_ad x 0)), (2, .int x2), (3, .int x3), (5, .int x5)] [.int s0, .int s1] := by
  unfold b_X11_ranked_90 at h
  refine r_iadd C.1 dX11_ranked_90 ?_
  obtain ⟨y_1, ey_1, h⟩ := lt_E h
  refine r_istore C.1 [(4, .int y_1), (0, .ref (x_ad x 0)), (2, .int x2), (3, .int x3), (5, .int x5)] dX11_ranked_91 (by decide) ey_1 rfl ?_
  obtain ⟨y_2, ey_2, h⟩ := lt_E h
  refine r_iinc C.1 4 [(5, .int y_2), (4, .int y_1), (0, .ref (x_ad x 0)), (2, .int x2), (3, .int x3)] dX11_ranked_93 rfl ey_2 (by decide) rfl ?_
  refine r_goto C.1 62 dX11_ranked_96 (by decide) ?_
  exact r_sub [2, 3, 4, 1, 0] rfl (kh _ (Option.some.inj h).symm)

def bl_X11_ranked_62 (M : xM) (x2 : Int32) (x3 : Int32) (x4 : Int32) (x5 : Int32) : Option ((Int32 × Int32) ⊕ (Int32)) :=
  gd (0 : Int32) 495 (if (M 4 (0 : Int32).toNatClampNeg) ≤ x5 then some (.inr x4) else bd (f_X11_isWorse M x5 x3) (fun r_3 => if r_3 = 0 then b_X11_ranked_90 M x2 x3 x5 (0 : Int32) x4 else b_X11_ranked_90 M x2 x3 x5 (1 : Int32) x4))
set_option maxRecDepth 20000 in
set_option maxHeartbeats 2000000 in
theorem wl_X11_ranked_62 {x : xC} (C : CtM x RX11 cX11_ranked 6 ({ frames := 10, cells := 0, slots := 0, locals := 223 } : Room)) (M : xM) (x2 : Int32) (x3 : Int32) (x4 : Int32) (x5 : Int32)  (o : (Int32 × Int32) ⊕ (Int32)) (h : bl_X11_ranked_62 M x2 x3 x4 x5 = some o) (kh : ∀ s : Int32 × Int32, o = .inl s → J x M 62 [(0, .ref (x_ad x 0)), (2, .int x2), (3, .int x3), (4, .int s.1), (5, .int s.2)] []) (ke_0 : ∀ v : Int32, o = .inr v → J x M 99 [(0, .ref (x_ad x 0)), (2, .int x2), (3, .int x3), (4, .int v)] []) : J x M 62 [(0, .ref (x_ad x 0)), (2, .int x2), (3, .int x3), (4, .int x4), (5, .int x5)] [] := by
  unfold bl_X11_ranked_62 at h
  refine r_iload C.1 4 dX11_ranked_62 rfl ?_
  refine r_aload_n C.1 0 dX11_ranked_64 rfl rfl ?_
  refine gf_X11_19 C dX11_ranked_65 ?_
  refine r_iconst (v := 0) C.1 dX11_ranked_68 rfl ?_
  obtain ⟨q_1, h⟩ := gd_E h
  refine r_iald C.1 (mK C (by decide)) (mS C (shm_4)) 0 (mT0 C) q_1 dX11_ranked_69 ?_
  refine r_icmp_ge C.1 99 dX11_ranked_70 (by decide) (fun c_2 => ?_) (fun c_2 => ?_)
  · replace h := ite_T c_2 h
    exact r_sub [0, 1, 2, 3] rfl (ke_0 _ (Option.some.inj h).symm)
  · replace h := ite_F c_2 h
    refine r_iload C.1 3 dX11_ranked_73 rfl ?_
    refine r_aload_n C.1 0 dX11_ranked_75 rfl rfl ?_
    refine r_iload C.1 4 dX11_ranked_76 rfl ?_
    refine r_iload_n C.1 2 dX11_ranked_78 rfl rfl ?_
    obtain ⟨r_3, hc_4, h⟩ := bd_E h
    refine cl_X11_369 C ⟨Nat.le_of_ble_eq_true rfl, Nat.le_of_ble_eq_true rfl⟩ (m_X11_isWorse _ _ _ M x5 x3 hc_4) (Nat.le_of_ble_eq_true rfl) dX11_ranked_79 ?_
    refine r_if_eq C.1 89 dX11_ranked_82 (by decide) (fun c_5 => ?_) (fun c_5 => ?_)
    · replace h := ite_T c_5 h
      refine r_iconst (v := 0) C.1 dX11_ranked_89 rfl ?_
      exact r_sub [0, 1, 2, 4] rfl (w_X11_ranked_90 C M x2 x3 x5 (0 : Int32) x4 _ h kh ke_0)
    · replace h := ite_F c_5 h
      refine r_iconst (v := 1) C.1 dX11_ranked_85 rfl ?_
      refine r_goto C.1 90 dX11_ranked_86 (by decide) ?_
      exact r_sub [0, 1, 2, 4] rfl (w_X11_ranked_90 C M x2 x3 x5 (1 : Int32) x4 _ h kh ke_0)

def b_X11_ranked_62 (M : xM) (x2 : Int32) (x3 : Int32) (x4 : Int32) (x5 : Int32) : Option ((Int32) ⊕ ((Int32) ⊕ (Unit))) :=
  bd (loopN (fun s : Int32 × Int32 => bl_X11_ranked_62 M x2 x3 s.1 s.2) BG (x4, x5)) (fun v => if v = x2 then some (.inr (.inl x3)) else lt (x3 + (1 : Int32)) (fun y_2 => some (.inl y_2)))
set_option maxRecDepth 20000 in
set_option maxHeartbeats 2000000 in
theorem w_X11_ranked_62 {x : xC} (C : CtM x RX11 cX11_ranked 6 ({ frames := 10, cells := 0, slots := 0, locals := 223 } : Room)) (M : xM) (x2 : Int32) (x3 : Int32) (x4 : Int32) (x5 : Int32)  (o : (Int32) ⊕ ((Int32) ⊕ (Unit))) (h : b_X11_ranked_62 M x2 x3 x4 x5 = some o) (kh : ∀ s : Int32, o = .inl s → J x M 46 [(0, .ref (x_ad x 0)), (2, .int x2), (3, .int s)] []) (ke_0 : ∀ v : Int32, o = .inr (.inl v) → J x M 105 [(3, .int v)] []) (ke_1 : ∀ v : Unit, o = .inr (.inr v) → J x M 113 [] []) : J x M 62 [(0, .ref (x_ad x 0)), (2, .int x2), (3, .int x3), (4, .int x4), (5, .int x5)] [] := by
  unfold b_X11_ranked_62 at h
  obtain ⟨r_0, hr_0, h⟩ := bd_E h
  refine loopN_ind (JJ := fun s => J x M 62 [(0, .ref (x_ad x 0)), (2, .int x2), (3, .int x3), (4, .int s.1), (5, .int s.2)] []) (KX := fun q => q = r_0) ?_ BG (x4, x5) r_0 hr_0 rfl
  intro s o1 hb kk1 kk2
  refine wl_X11_ranked_62 C M x2 x3 s.1 s.2 _ hb kk1 ?_
  · intro v e0
    have e1 := kk2 _ e0
    subst e1
    refine r_iload C.1 3 dX11_ranked_99 rfl ?_
    refine r_iload_n C.1 1 dX11_ranked_101 rfl rfl ?_
    refine r_icmp_ne C.1 107 dX11_ranked_102 (by decide) (fun c_1 => ?_) (fun c_1 => ?_)
    · replace h := ite_F c_1 h
      obtain ⟨y_2, ey_2, h⟩ := lt_E h
      refine r_iinc C.1 2 [(3, .int y_2), (0, .ref (x_ad x 0)), (2, .int x2), (4, .int v)] dX11_ranked_107 rfl ey_2 (by decide) rfl ?_
      refine r_goto C.1 46 dX11_ranked_110 (by decide) ?_
      exact r_sub [1, 2, 0] rfl (kh _ (Option.some.inj h).symm)
    · replace h := ite_T c_1 h
      exact r_sub [2] rfl (ke_0 _ (Option.some.inj h).symm)

def bl_X11_ranked_46 (M : xM) (x2 : Int32) (x3 : Int32) : Option ((Int32) ⊕ ((Int32) ⊕ (Unit))) :=
  gd (0 : Int32) 495 (if (M 4 (0 : Int32).toNatClampNeg) ≤ x3 then some (.inr (.inr ())) else b_X11_ranked_62 M x2 x3 (0 : Int32) (0 : Int32))
set_option maxRecDepth 20000 in
set_option maxHeartbeats 2000000 in
theorem wl_X11_ranked_46 {x : xC} (C : CtM x RX11 cX11_ranked 6 ({ frames := 10, cells := 0, slots := 0, locals := 223 } : Room)) (M : xM) (x2 : Int32) (x3 : Int32)  (o : (Int32) ⊕ ((Int32) ⊕ (Unit))) (h : bl_X11_ranked_46 M x2 x3 = some o) (kh : ∀ s : Int32, o = .inl s → J x M 46 [(0, .ref (x_ad x 0)), (2, .int x2), (3, .int s)] []) (ke_0 : ∀ v : Int32, o = .inr (.inl v) → J x M 105 [(3, .int v)] []) (ke_1 : ∀ v : Unit, o = .inr (.inr v) → J x M 113 [] []) : J x M 46 [(0, .ref (x_ad x 0)), (2, .int x2), (3, .int x3)] [] := by
  unfold bl_X11_ranked_46 at h
  refine r_iload_n C.1 2 dX11_ranked_46 rfl rfl ?_
  refine r_aload_n C.1 0 dX11_ranked_47 rfl rfl ?_
  refine gf_X11_19 C dX11_ranked_48 ?_
  refine r_iconst (v := 0) C.1 dX11_ranked_51 rfl ?_
  obtain ⟨q_1, h⟩ := gd_E h
  refine r_iald C.1 (mK C (by decide)) (mS C (shm_4)) 0 (mT0 C) q_1 dX11_ranked_52 ?_
  refine r_icmp_ge C.1 113 dX11_ranked_53 (by decide) (fun c_2 => ?_) (fun c_2 => ?_)
  · replace h := ite_T c_2 h
    exact r_sub [] rfl (ke_1 _ (Option.some.inj h).symm)
  · replace h := ite_F c_2 h
    refine r_iconst (v := 0) C.1 dX11_ranked_56 rfl ?_
    refine r_istore C.1 [(4, .int (0 : Int32)), (0, .ref (x_ad x 0)), (2, .int x2), (3, .int x3)] dX11_ranked_57 (by decide) rfl rfl ?_
    refine r_iconst (v := 0) C.1 dX11_ranked_59 rfl ?_
    refine r_istore C.1 [(5, .int (0 : Int32)), (4, .int (0 : Int32)), (0, .ref (x_ad x 0)), (2, .int x2), (3, .int x3)] dX11_ranked_60 (by decide) rfl rfl ?_
    exact r_sub [2, 3, 4, 1, 0] rfl (w_X11_ranked_62 C M x2 x3 (0 : Int32) (0 : Int32) _ h kh ke_0 ke_1)

def b_X11_ranked_46 (M : xM) (x2 : Int32) (x3 : Int32) : Option (Int32 × xM) :=
  bd (loopN (fun s : Int32 => bl_X11_ranked_46 M x2 s) BG x3) (fun r => sm r (fun v => some (v, M)) (fun v => some ((-1 : Int32), M)))
set_option maxRecDepth 20000 in
set_option maxHeartbeats 2000000 in
theorem w_X11_ranked_46 {x : xC} (C : CtM x RX11 cX11_ranked 6 ({ frames := 10, cells := 0, slots := 0, locals := 223 } : Room)) (M : xM) (x2 : Int32) (x3 : Int32)  (o : Int32 × xM) (h : b_X11_ranked_46 M x2 x3 = some o) (hr : (x_me x).sig.returnType = some .int) (ev : x_rv x = some (.int o.1)) (eM : x_M x = o.2) : J x M 46 [(0, .ref (x_ad x 0)), (2, .int x2), (3, .int x3)] [] := by
  unfold b_X11_ranked_46 at h
  obtain ⟨r_0, hr_0, h⟩ := bd_E h
  refine loopN_ind (JJ := fun s => J x M 46 [(0, .ref (x_ad x 0)), (2, .int x2), (3, .int s)] []) (KX := fun q => q = r_0) ?_ BG x3 r_0 hr_0 rfl
  intro s o1 hb kk1 kk2
  refine wl_X11_ranked_46 C M x2 s _ hb kk1 ?_ ?_
  · intro v e0
    have e1 := kk2 _ e0
    subst e1
    replace h := sm_l h
    refine r_iload_n C.1 0 dX11_ranked_105 rfl rfl ?_
    obtain rfl := Option.some.inj h
    exact r_iret C.1 hr ev eM dX11_ranked_106
  · intro v e0
    have e1 := kk2 _ e0
    subst e1
    replace h := sm_r h
    refine r_iconst (v := -1) C.1 dX11_ranked_113 rfl ?_
    obtain rfl := Option.some.inj h
    exact r_iret C.1 hr ev eM dX11_ranked_114

def bl_X11_ranked_16 (M : xM) (x1 : Int32) (x2 : Int32) (x3 : Int32) : Option ((xM × Int32) ⊕ (xM)) :=
  gd (0 : Int32) 495 (if (M 4 (0 : Int32).toNatClampNeg) ≤ x3 then some (.inr M) else bd2 (f_X11_shortOf M x3 x1) (fun r_3 M_5 => gd x3 3 (lt (uM M_5 14 x3.toNatClampNeg r_3) (fun M_7 => lt (x3 + (1 : Int32)) (fun y_8 => some (.inl (M_7, y_8)))))))
set_option maxRecDepth 20000 in
set_option maxHeartbeats 2000000 in
theorem wl_X11_ranked_16 {x : xC} (C : CtM x RX11 cX11_ranked 6 ({ frames := 10, cells := 0, slots := 0, locals := 223 } : Room)) (M : xM) (x1 : Int32) (x2 : Int32) (x3 : Int32)  (o : (xM × Int32) ⊕ (xM)) (h : bl_X11_ranked_16 M x1 x2 x3 = some o) (kh : ∀ s : xM × Int32, o = .inl s → J x s.1 16 [(0, .ref (x_ad x 0)), (1, .int x1), (2, .int x2), (3, .int s.2)] []) (ke_0 : ∀ v : xM, o = .inr v → J x v 44 [(0, .ref (x_ad x 0)), (2, .int x2)] []) : J x M 16 [(0, .ref (x_ad x 0)), (1, .int x1), (2, .int x2), (3, .int x3)] [] := by
  unfold bl_X11_ranked_16 at h
  refine r_iload_n C.1 3 dX11_ranked_16 rfl rfl ?_
  refine r_aload_n C.1 0 dX11_ranked_17 rfl rfl ?_
  refine gf_X11_19 C dX11_ranked_18 ?_
  refine r_iconst (v := 0) C.1 dX11_ranked_21 rfl ?_
  obtain ⟨q_1, h⟩ := gd_E h
  refine r_iald C.1 (mK C (by decide)) (mS C (shm_4)) 0 (mT0 C) q_1 dX11_ranked_22 ?_
  refine r_icmp_ge C.1 44 dX11_ranked_23 (by decide) (fun c_2 => ?_) (fun c_2 => ?_)
  · replace h := ite_T c_2 h
    exact r_sub [0, 2] rfl (ke_0 _ (Option.some.inj h).symm)
  · replace h := ite_F c_2 h
    refine r_aload_n C.1 0 dX11_ranked_26 rfl rfl ?_
    refine gf_X11_49 C dX11_ranked_27 ?_
    refine r_iload_n C.1 3 dX11_ranked_30 rfl rfl ?_
    refine r_aload_n C.1 0 dX11_ranked_31 rfl rfl ?_
    refine r_iload_n C.1 3 dX11_ranked_32 rfl rfl ?_
    refine r_iload_n C.1 1 dX11_ranked_33 rfl rfl ?_
    obtain ⟨r_3, M_5, hc_4, h⟩ := bd2_E h
    refine cl_X11_366 C ⟨Nat.le_of_ble_eq_true rfl, Nat.le_of_ble_eq_true rfl⟩ (m_X11_shortOf _ _ _ M x3 x1 hc_4) (Nat.le_of_ble_eq_true rfl) dX11_ranked_34 ?_
    obtain ⟨q_6, h⟩ := gd_E h
    obtain ⟨M_7, eM_7, h⟩ := lt_E h
    refine r_iast C.1 (mK C (by decide)) (mS C (shm_14)) 0 (mT0 C) q_6 eM_7 dX11_ranked_37 ?_
    obtain ⟨y_8, ey_8, h⟩ := lt_E h
    refine r_iinc C.1 3 [(3, .int y_8), (0, .ref (x_ad x 0)), (1, .int x1), (2, .int x2)] dX11_ranked_38 rfl ey_8 (by decide) rfl ?_
    refine r_goto C.1 16 dX11_ranked_41 (by decide) ?_
    exact r_sub [1, 2, 3, 0] rfl (kh _ (Option.some.inj h).symm)

def b_X11_ranked_16 (M : xM) (x1 : Int32) (x2 : Int32) (x3 : Int32) : Option (Int32 × xM) :=
  bd (loopN (fun s : xM × Int32 => bl_X11_ranked_16 s.1 x1 x2 s.2) BG (M, x3)) (fun v => b_X11_ranked_46 v x2 (0 : Int32))
set_option maxRecDepth 20000 in
set_option maxHeartbeats 2000000 in
theorem w_X11_ranked_16 {x : xC} (C : CtM x RX11 cX11_ranked 6 ({ frames := 10, cells := 0, slots := 0, locals := 223 } : Room)) (M : xM) (x1 : Int32) (x2 : Int32) (x3 : Int32)  (o : Int32 × xM) (h : b_X11_ranked_16 M x1 x2 x3 = some o) (hr : (x_me x).sig.returnType = some .int) (ev : x_rv x = some (.int o.1)) (eM : x_M x = o.2) : J x M 16 [(0, .ref (x_ad x 0)), (1, .int x1), (2, .int x2), (3, .int x3)] [] := by
  unfold b_X11_ranked_16 at h
  obtain ⟨r_0, hr_0, h⟩ := bd_E h
  refine loopN_ind (JJ := fun s => J x s.1 16 [(0, .ref (x_ad x 0)), (1, .int x1), (2, .int x2), (3, .int s.2)] []) (KX := fun q => q = r_0) ?_ BG (M, x3) r_0 hr_0 rfl
  intro s o1 hb kk1 kk2
  refine wl_X11_ranked_16 C s.1 x1 x2 s.2 _ hb kk1 ?_
  · intro v e0
    have e1 := kk2 _ e0
    subst e1
    refine r_iconst (v := 0) C.1 dX11_ranked_44 rfl ?_
    refine r_istore_n C.1 [(3, .int (0 : Int32)), (0, .ref (x_ad x 0)), (2, .int x2)] dX11_ranked_45 rfl (by decide) rfl rfl ?_
    exact r_sub [1, 2, 0] rfl (w_X11_ranked_46 C v x2 (0 : Int32) _ h hr ev eM)

def b_X11_ranked_0 (M : xM) (x1 : Int32) (x2 : Int32) : Option (Int32 × xM) :=
  lt (uM M 0 0 (0 : Int32)) (fun M_1 => bd (f_X11_isDay M_1 x1) (fun r_2 => if r_2 = 0 then some ((-1 : Int32), M_1) else b_X11_ranked_16 M_1 x1 x2 (0 : Int32)))
set_option maxRecDepth 20000 in
set_option maxHeartbeats 2000000 in
theorem w_X11_ranked_0 {x : xC} (C : CtM x RX11 cX11_ranked 6 ({ frames := 10, cells := 0, slots := 0, locals := 223 } : Room)) (M : xM) (x1 : Int32) (x2 : Int32)  (o : Int32 × xM) (h : b_X11_ranked_0 M x1 x2 = some o) (hr : (x_me x).sig.returnType = some .int) (ev : x_rv x = some (.int o.1)) (eM : x_M x = o.2) : J x M 0 [(0, .ref (x_ad x 0)), (1, .int x1), (2, .int x2)] [] := by
  unfold b_X11_ranked_0 at h
  refine r_aload_n C.1 0 dX11_ranked_0 rfl rfl ?_
  refine r_iconst (v := 0) C.1 dX11_ranked_1 rfl ?_
  obtain ⟨M_1, eM_1, h⟩ := lt_E h
  refine pf_X11_56 C eM_1 dX11_ranked_2 ?_
  refine r_iload_n C.1 1 dX11_ranked_5 rfl rfl ?_
  obtain ⟨r_2, hc_3, h⟩ := bd_E h
  refine cl_X11_265 C ⟨Nat.le_of_ble_eq_true rfl, Nat.le_of_ble_eq_true rfl⟩ (m_X11_isDay _ _ _ M_1 x1 hc_3) (Nat.le_of_ble_eq_true rfl) dX11_ranked_6 ?_
  refine r_if_ne C.1 14 dX11_ranked_9 (by decide) (fun c_4 => ?_) (fun c_4 => ?_)
  · replace h := ite_F c_4 h
    refine r_iconst (v := 0) C.1 dX11_ranked_14 rfl ?_
    refine r_istore_n C.1 [(3, .int (0 : Int32)), (0, .ref (x_ad x 0)), (1, .int x1), (2, .int x2)] dX11_ranked_15 rfl (by decide) rfl rfl ?_
    exact r_sub [1, 2, 3, 0] rfl (w_X11_ranked_16 C M_1 x1 x2 (0 : Int32) _ h hr ev eM)
  · replace h := ite_T c_4 h
    refine r_iconst (v := -1) C.1 dX11_ranked_12 rfl ?_
    obtain rfl := Option.some.inj h
    exact r_iret C.1 hr ev eM dX11_ranked_13
def f_X11_ranked (M : xM) (x1 : Int32) (x2 : Int32) : Option (Int32 × xM) := b_X11_ranked_0 M x1 x2
set_option maxRecDepth 20000 in
theorem m_X11_ranked (l : Launch) (D : va_G) (ad : Nat → Nat) (M : xM) (x1 : Int32) (x2 : Int32)  {r : Int32} {M1 : xM} (h : f_X11_ranked M x1 x2 = some (r, M1)) : xMetM l yX11_ranked cX11_ranked 6 (some .int) ({ frames := 10, cells := 0, slots := 0, locals := 223 } : Room) [.ref (ad 0), .int x1, .int x2] D ad M (some (.int r)) M1 := by
  refine xMetM_of (own := RX11) (by decide) rfl (Nat.le_of_ble_eq_true rfl) ?_
  intro x C e1 e2 e3 ev eM hr
  subst e1; subst e2; subst e3
  refine r_sub (L := [(0, .ref (x_ad x 0)), (1, .int x1), (2, .int x2)]) (L' := [(0, .ref (x_ad x 0)), (1, .int x1), (2, .int x2)]) [0, 1, 2] rfl ?_
  exact w_X11_ranked_0 C M x1 x2 _ h hr ev eM

def b_X11_missing_91 (M : xM) (x1 : Int32) (x2 : Int32) (x3 : Int32) : Option ((xM × Int32) ⊕ (xM)) :=
  lt (x3 + (1 : Int32)) (fun y_1 => some (.inl (M, y_1)))
set_option maxRecDepth 20000 in
set_option maxHeartbeats 2000000 in
theorem w_X11_missing_91 {x : xC} (C : CtM x RX11 cX11_missing 4 ({ frames := 2, cells := 0, slots := 0, locals := 46 } : Room)) (M : xM) (x1 : Int32) (x2 : Int32) (x3 : Int32)  (o : (xM × Int32) ⊕ (xM)) (h : b_X11_missing_91 M x1 x2 x3 = some o) (kh : ∀ s : xM × Int32, o = .inl s → J x s.1 57 [(0, .ref (x_ad x 0)), (1, .int x1), (2, .int x2), (3, .int s.2)] []) (ke_0 : ∀ v : xM, o = .inr v → J x v 97 [(0, .ref (x_ad x 0)), (1, .int x1)] []) : J x M 91 [(0, .ref (x_ad x 0)), (1, .int x1), (2, .int x2), (3, .int x3)] [] := by
  unfold b_X11_missing_91 at h
  obtain ⟨y_1, ey_1, h⟩ := lt_E h
  refine r_iinc C.1 3 [(3, .int y_1), (0, .ref (x_ad x 0)), (1, .int x1), (2, .int x2)] dX11_missing_91 rfl ey_1 (by decide) rfl ?_
  refine r_goto C.1 57 dX11_missing_94 (by decide) ?_
  exact r_sub [1, 2, 3, 0] rfl (kh _ (Option.some.inj h).symm)

def bl_X11_missing_57 (M : xM) (x1 : Int32) (x2 : Int32) (x3 : Int32) : Option ((xM × Int32) ⊕ (xM)) :=
  if x2 ≤ x3 then some (.inr M) else bd2 (f_X11_holder M x3) (fun r_2 M_4 => if r_2 = (-1 : Int32) then gd (M_4 0 25) 1000 (lt (uM M_4 13 (M_4 0 25).toNatClampNeg x3) (fun M_7 => lt (uM M_7 0 25 ((M_7 0 25) + (1 : Int32))) (fun M_8 => b_X11_missing_91 M_8 x1 x2 x3))) else b_X11_missing_91 M_4 x1 x2 x3)
set_option maxRecDepth 20000 in
set_option maxHeartbeats 2000000 in
theorem wl_X11_missing_57 {x : xC} (C : CtM x RX11 cX11_missing 4 ({ frames := 2, cells := 0, slots := 0, locals := 46 } : Room)) (M : xM) (x1 : Int32) (x2 : Int32) (x3 : Int32)  (o : (xM × Int32) ⊕ (xM)) (h : bl_X11_missing_57 M x1 x2 x3 = some o) (kh : ∀ s : xM × Int32, o = .inl s → J x s.1 57 [(0, .ref (x_ad x 0)), (1, .int x1), (2, .int x2), (3, .int s.2)] []) (ke_0 : ∀ v : xM, o = .inr v → J x v 97 [(0, .ref (x_ad x 0)), (1, .int x1)] []) : J x M 57 [(0, .ref (x_ad x 0)), (1, .int x1), (2, .int x2), (3, .int x3)] [] := by
  unfold bl_X11_missing_57 at h
  refine r_iload_n C.1 3 dX11_missing_57 rfl rfl ?_
  refine r_iload_n C.1 2 dX11_missing_58 rfl rfl ?_
  refine r_icmp_ge C.1 97 dX11_missing_59 (by decide) (fun c_1 => ?_) (fun c_1 => ?_)
  · replace h := ite_T c_1 h
    exact r_sub [0, 1] rfl (ke_0 _ (Option.some.inj h).symm)
  · replace h := ite_F c_1 h
    refine r_aload_n C.1 0 dX11_missing_62 rfl rfl ?_
    refine r_iload_n C.1 3 dX11_missing_63 rfl rfl ?_
    obtain ⟨r_2, M_4, hc_3, h⟩ := bd2_E h
    refine cl_X11_372 C ⟨Nat.le_of_ble_eq_true rfl, Nat.le_of_ble_eq_true rfl⟩ (m_X11_holder _ _ _ M x3 hc_3) (Nat.le_of_ble_eq_true rfl) dX11_missing_64 ?_
    refine r_iconst (v := -1) C.1 dX11_missing_67 rfl ?_
    refine r_icmp_ne C.1 91 dX11_missing_68 (by decide) (fun c_5 => ?_) (fun c_5 => ?_)
    · replace h := ite_F c_5 h
      exact r_sub [0, 1, 2, 3] rfl (w_X11_missing_91 C M_4 x1 x2 x3 _ h kh ke_0)
    · replace h := ite_T c_5 h
      refine r_aload_n C.1 0 dX11_missing_71 rfl rfl ?_
      refine gf_X11_46 C dX11_missing_72 ?_
      refine r_aload_n C.1 0 dX11_missing_75 rfl rfl ?_
      refine gf_X11_355 C dX11_missing_76 ?_
      refine r_iload_n C.1 3 dX11_missing_79 rfl rfl ?_
      obtain ⟨q_6, h⟩ := gd_E h
      obtain ⟨M_7, eM_7, h⟩ := lt_E h
      refine r_iast C.1 (mK C (by decide)) (mS C (shm_13)) 0 (mT0 C) q_6 eM_7 dX11_missing_80 ?_
      refine r_aload_n C.1 0 dX11_missing_81 rfl rfl ?_
      refine r_dup C.1 rfl dX11_missing_82 ?_
      refine gf_X11_355 C dX11_missing_83 ?_
      refine r_iconst (v := 1) C.1 dX11_missing_86 rfl ?_
      refine r_iadd C.1 dX11_missing_87 ?_
      obtain ⟨M_8, eM_8, h⟩ := lt_E h
      refine pf_X11_355 C eM_8 dX11_missing_88 ?_
      exact r_sub [0, 1, 2, 3] rfl (w_X11_missing_91 C M_8 x1 x2 x3 _ h kh ke_0)

def b_X11_missing_57 (M : xM) (x1 : Int32) (x2 : Int32) (x3 : Int32) : Option (Int32 × xM) :=
  bd (loopN (fun s : xM × Int32 => bl_X11_missing_57 s.1 x1 x2 s.2) BG (M, x3)) (fun v => bd (f_X11_told v x1) (fun r_1 => some (r_1, v)))
set_option maxRecDepth 20000 in
set_option maxHeartbeats 2000000 in
theorem w_X11_missing_57 {x : xC} (C : CtM x RX11 cX11_missing 4 ({ frames := 2, cells := 0, slots := 0, locals := 46 } : Room)) (M : xM) (x1 : Int32) (x2 : Int32) (x3 : Int32)  (o : Int32 × xM) (h : b_X11_missing_57 M x1 x2 x3 = some o) (hr : (x_me x).sig.returnType = some .int) (ev : x_rv x = some (.int o.1)) (eM : x_M x = o.2) : J x M 57 [(0, .ref (x_ad x 0)), (1, .int x1), (2, .int x2), (3, .int x3)] [] := by
  unfold b_X11_missing_57 at h
  obtain ⟨r_0, hr_0, h⟩ := bd_E h
  refine loopN_ind (JJ := fun s => J x s.1 57 [(0, .ref (x_ad x 0)), (1, .int x1), (2, .int x2), (3, .int s.2)] []) (KX := fun q => q = r_0) ?_ BG (M, x3) r_0 hr_0 rfl
  intro s o1 hb kk1 kk2
  refine wl_X11_missing_57 C s.1 x1 x2 s.2 _ hb kk1 ?_
  · intro v e0
    have e1 := kk2 _ e0
    subst e1
    refine r_aload_n C.1 0 dX11_missing_97 rfl rfl ?_
    refine r_iload_n C.1 1 dX11_missing_98 rfl rfl ?_
    obtain ⟨r_1, hc_2, h⟩ := bd_E h
    refine cl_X11_361 C ⟨Nat.le_of_ble_eq_true rfl, Nat.le_of_ble_eq_true rfl⟩ (m_X11_told _ _ _ v x1 hc_2) (Nat.le_of_ble_eq_true rfl) dX11_missing_99 ?_
    obtain rfl := Option.some.inj h
    exact r_iret C.1 hr ev eM dX11_missing_102

def b_X11_missing_43 (M : xM) (x1 : Int32) (x3 : Int32) (s0 : Int32) : Option ((Int32 × Int32) ⊕ (Int32)) :=
  lt (x3 + (1 : Int32)) (fun y_1 => some (.inl (s0, y_1)))
set_option maxRecDepth 20000 in
set_option maxHeartbeats 2000000 in
theorem w_X11_missing_43 {x : xC} (C : CtM x RX11 cX11_missing 4 ({ frames := 2, cells := 0, slots := 0, locals := 46 } : Room)) (M : xM) (x1 : Int32) (x3 : Int32) (s0 : Int32)  (o : (Int32 × Int32) ⊕ (Int32)) (h : b_X11_missing_43 M x1 x3 s0 = some o) (kh : ∀ s : Int32 × Int32, o = .inl s → J x M 9 [(0, .ref (x_ad x 0)), (1, .int x1), (2, .int s.1), (3, .int s.2)] []) (ke_0 : ∀ v : Int32, o = .inr v → J x M 50 [(0, .ref (x_ad x 0)), (1, .int x1), (2, .int v)] []) : J x M 43 [(0, .ref (x_ad x 0)), (1, .int x1), (3, .int x3)] [.int s0] := by
  unfold b_X11_missing_43 at h
  refine r_istore_n C.1 [(2, .int s0), (0, .ref (x_ad x 0)), (1, .int x1), (3, .int x3)] dX11_missing_43 rfl (by decide) rfl rfl ?_
  obtain ⟨y_1, ey_1, h⟩ := lt_E h
  refine r_iinc C.1 3 [(3, .int y_1), (2, .int s0), (0, .ref (x_ad x 0)), (1, .int x1)] dX11_missing_44 rfl ey_1 (by decide) rfl ?_
  refine r_goto C.1 9 dX11_missing_47 (by decide) ?_
  exact r_sub [2, 3, 1, 0] rfl (kh _ (Option.some.inj h).symm)

def bl_X11_missing_9 (M : xM) (x1 : Int32) (x2 : Int32) (x3 : Int32) : Option ((Int32 × Int32) ⊕ (Int32)) :=
  gd (2 : Int32) 495 (if (M 4 (2 : Int32).toNatClampNeg) ≤ x3 then some (.inr x2) else bd (f_X11_entryOf M x3 (0 : Int32)) (fun r_3 => if r_3 = (1 : Int32) then bd (f_X11_entryOf M x3 (5 : Int32)) (fun r_6 => b_X11_missing_43 M x1 x3 (imax x2 r_6)) else b_X11_missing_43 M x1 x3 x2))
set_option maxRecDepth 20000 in
set_option maxHeartbeats 2000000 in
theorem wl_X11_missing_9 {x : xC} (C : CtM x RX11 cX11_missing 4 ({ frames := 2, cells := 0, slots := 0, locals := 46 } : Room)) (M : xM) (x1 : Int32) (x2 : Int32) (x3 : Int32)  (o : (Int32 × Int32) ⊕ (Int32)) (h : bl_X11_missing_9 M x1 x2 x3 = some o) (kh : ∀ s : Int32 × Int32, o = .inl s → J x M 9 [(0, .ref (x_ad x 0)), (1, .int x1), (2, .int s.1), (3, .int s.2)] []) (ke_0 : ∀ v : Int32, o = .inr v → J x M 50 [(0, .ref (x_ad x 0)), (1, .int x1), (2, .int v)] []) : J x M 9 [(0, .ref (x_ad x 0)), (1, .int x1), (2, .int x2), (3, .int x3)] [] := by
  unfold bl_X11_missing_9 at h
  refine r_iload_n C.1 3 dX11_missing_9 rfl rfl ?_
  refine r_aload_n C.1 0 dX11_missing_10 rfl rfl ?_
  refine gf_X11_19 C dX11_missing_11 ?_
  refine r_iconst (v := 2) C.1 dX11_missing_14 rfl ?_
  obtain ⟨q_1, h⟩ := gd_E h
  refine r_iald C.1 (mK C (by decide)) (mS C (shm_4)) 0 (mT0 C) q_1 dX11_missing_15 ?_
  refine r_icmp_ge C.1 50 dX11_missing_16 (by decide) (fun c_2 => ?_) (fun c_2 => ?_)
  · replace h := ite_T c_2 h
    exact r_sub [0, 1, 2] rfl (ke_0 _ (Option.some.inj h).symm)
  · replace h := ite_F c_2 h
    refine r_aload_n C.1 0 dX11_missing_19 rfl rfl ?_
    refine r_iload_n C.1 3 dX11_missing_20 rfl rfl ?_
    refine r_iconst (v := 0) C.1 dX11_missing_21 rfl ?_
    obtain ⟨r_3, hc_4, h⟩ := bd_E h
    refine cl_X11_173 C ⟨Nat.le_of_ble_eq_true rfl, Nat.le_of_ble_eq_true rfl⟩ (m_X11_entryOf _ _ _ M x3 (0 : Int32) hc_4) (Nat.le_of_ble_eq_true rfl) dX11_missing_22 ?_
    refine r_iconst (v := 1) C.1 dX11_missing_25 rfl ?_
    refine r_icmp_ne C.1 42 dX11_missing_26 (by decide) (fun c_5 => ?_) (fun c_5 => ?_)
    · replace h := ite_F c_5 h
      refine r_iload_n C.1 2 dX11_missing_42 rfl rfl ?_
      exact r_sub [0, 1, 3] rfl (w_X11_missing_43 C M x1 x3 x2 _ h kh ke_0)
    · replace h := ite_T c_5 h
      refine r_iload_n C.1 2 dX11_missing_29 rfl rfl ?_
      refine r_aload_n C.1 0 dX11_missing_30 rfl rfl ?_
      refine r_iload_n C.1 3 dX11_missing_31 rfl rfl ?_
      refine r_iconst (v := 5) C.1 dX11_missing_32 rfl ?_
      obtain ⟨r_6, hc_7, h⟩ := bd_E h
      refine cl_X11_173 C ⟨Nat.le_of_ble_eq_true rfl, Nat.le_of_ble_eq_true rfl⟩ (m_X11_entryOf _ _ _ M x3 (5 : Int32) hc_7) (Nat.le_of_ble_eq_true rfl) dX11_missing_33 ?_
      refine cm_X11_185 C.1 (by decide) (by decide) (Nat.le_of_ble_eq_true rfl) dX11_missing_36 ?_
      refine r_goto C.1 43 dX11_missing_39 (by decide) ?_
      exact r_sub [0, 1, 3] rfl (w_X11_missing_43 C M x1 x3 (imax x2 r_6) _ h kh ke_0)

def b_X11_missing_9 (M : xM) (x1 : Int32) (x2 : Int32) (x3 : Int32) : Option (Int32 × xM) :=
  bd (loopN (fun s : Int32 × Int32 => bl_X11_missing_9 M x1 s.1 s.2) BG (x2, x3)) (fun v => lt (uM M 0 25 (0 : Int32)) (fun M_1 => b_X11_missing_57 M_1 x1 v (1 : Int32)))
set_option maxRecDepth 20000 in
set_option maxHeartbeats 2000000 in
theorem w_X11_missing_9 {x : xC} (C : CtM x RX11 cX11_missing 4 ({ frames := 2, cells := 0, slots := 0, locals := 46 } : Room)) (M : xM) (x1 : Int32) (x2 : Int32) (x3 : Int32)  (o : Int32 × xM) (h : b_X11_missing_9 M x1 x2 x3 = some o) (hr : (x_me x).sig.returnType = some .int) (ev : x_rv x = some (.int o.1)) (eM : x_M x = o.2) : J x M 9 [(0, .ref (x_ad x 0)), (1, .int x1), (2, .int x2), (3, .int x3)] [] := by
  unfold b_X11_missing_9 at h
  obtain ⟨r_0, hr_0, h⟩ := bd_E h
  refine loopN_ind (JJ := fun s => J x M 9 [(0, .ref (x_ad x 0)), (1, .int x1), (2, .int s.1), (3, .int s.2)] []) (KX := fun q => q = r_0) ?_ BG (x2, x3) r_0 hr_0 rfl
  intro s o1 hb kk1 kk2
  refine wl_X11_missing_9 C M x1 s.1 s.2 _ hb kk1 ?_
  · intro v e0
    have e1 := kk2 _ e0
    subst e1
    refine r_aload_n C.1 0 dX11_missing_50 rfl rfl ?_
    refine r_iconst (v := 0) C.1 dX11_missing_51 rfl ?_
    obtain ⟨M_1, eM_1, h⟩ := lt_E h
    refine pf_X11_355 C eM_1 dX11_missing_52 ?_
    refine r_iconst (v := 1) C.1 dX11_missing_55 rfl ?_
    refine r_istore_n C.1 [(3, .int (1 : Int32)), (0, .ref (x_ad x 0)), (1, .int x1), (2, .int v)] dX11_missing_56 rfl (by decide) rfl rfl ?_
    exact r_sub [1, 2, 3, 0] rfl (w_X11_missing_57 C M_1 x1 v (1 : Int32) _ h hr ev eM)

def b_X11_missing_0 (M : xM) (x1 : Int32) : Option (Int32 × xM) :=
  lt (uM M 0 0 (0 : Int32)) (fun M_1 => b_X11_missing_9 M_1 x1 (0 : Int32) (0 : Int32))
set_option maxRecDepth 20000 in
set_option maxHeartbeats 2000000 in
theorem w_X11_missing_0 {x : xC} (C : CtM x RX11 cX11_missing 4 ({ frames := 2, cells := 0, slots := 0, locals := 46 } : Room)) (M : xM) (x1 : Int32)  (o : Int32 × xM) (h : b_X11_missing_0 M x1 = some o) (hr : (x_me x).sig.returnType = some .int) (ev : x_rv x = some (.int o.1)) (eM : x_M x = o.2) : J x M 0 [(0, .ref (x_ad x 0)), (1, .int x1)] [] := by
  unfold b_X11_missing_0 at h
  refine r_aload_n C.1 0 dX11_missing_0 rfl rfl ?_
  refine r_iconst (v := 0) C.1 dX11_missing_1 rfl ?_
  obtain ⟨M_1, eM_1, h⟩ := lt_E h
  refine pf_X11_56 C eM_1 dX11_missing_2 ?_
  refine r_iconst (v := 0) C.1 dX11_missing_5 rfl ?_
  refine r_istore_n C.1 [(2, .int (0 : Int32)), (0, .ref (x_ad x 0)), (1, .int x1)] dX11_missing_6 rfl (by decide) rfl rfl ?_
  refine r_iconst (v := 0) C.1 dX11_missing_7 rfl ?_
  refine r_istore_n C.1 [(3, .int (0 : Int32)), (2, .int (0 : Int32)), (0, .ref (x_ad x 0)), (1, .int x1)] dX11_missing_8 rfl (by decide) rfl rfl ?_
  exact r_sub [2, 3, 1, 0] rfl (w_X11_missing_9 C M_1 x1 (0 : Int32) (0 : Int32) _ h hr ev eM)
def f_X11_missing (M : xM) (x1 : Int32) : Option (Int32 × xM) := b_X11_missing_0 M x1
set_option maxRecDepth 20000 in
theorem m_X11_missing (l : Launch) (D : va_G) (ad : Nat → Nat) (M : xM) (x1 : Int32)  {r : Int32} {M1 : xM} (h : f_X11_missing M x1 = some (r, M1)) : xMetM l yX11_missing cX11_missing 4 (some .int) ({ frames := 2, cells := 0, slots := 0, locals := 46 } : Room) [.ref (ad 0), .int x1] D ad M (some (.int r)) M1 := by
  refine xMetM_of (own := RX11) (by decide) rfl (Nat.le_of_ble_eq_true rfl) ?_
  intro x C e1 e2 e3 ev eM hr
  subst e1; subst e2; subst e3
  refine r_sub (L := [(0, .ref (x_ad x 0)), (1, .int x1)]) (L' := [(0, .ref (x_ad x 0)), (1, .int x1)]) [0, 1] rfl ?_
  exact w_X11_missing_0 C M x1 _ h hr ev eM

def bl_X11_savedOn_64 (M : xM) (x2 : Int32) (x4 : Int32) (x5 : Int32) (x6 : Int32) : Option ((xM × Int32) ⊕ (xM)) :=
  if x4 < x6 then some (.inr M) else gd ((360 : Int32) + x6) 3960 (gd ((360 : Int32) + x6) 3960 (lt (uM M 9 ((360 : Int32) + x6).toNatClampNeg ((M 9 ((360 : Int32) + x6).toNatClampNeg) + x2)) (fun M_4 => lt (x6 + (1 : Int32)) (fun y_5 => some (.inl (M_4, y_5))))))
set_option maxRecDepth 20000 in
set_option maxHeartbeats 2000000 in
theorem wl_X11_savedOn_64 {x : xC} (C : CtM x RX11 cX11_savedOn 7 ({ frames := 3, cells := 0, slots := 0, locals := 73 } : Room)) (M : xM) (x2 : Int32) (x4 : Int32) (x5 : Int32) (x6 : Int32)  (o : (xM × Int32) ⊕ (xM)) (h : bl_X11_savedOn_64 M x2 x4 x5 x6 = some o) (kh : ∀ s : xM × Int32, o = .inl s → J x s.1 64 [(0, .ref (x_ad x 0)), (2, .int x2), (4, .int x4), (5, .int x5), (6, .int s.2)] []) (ke_0 : ∀ v : xM, o = .inr v → J x v 92 [(5, .int x5)] []) : J x M 64 [(0, .ref (x_ad x 0)), (2, .int x2), (4, .int x4), (5, .int x5), (6, .int x6)] [] := by
  unfold bl_X11_savedOn_64 at h
  refine r_iload C.1 4 dX11_savedOn_64 rfl ?_
  refine r_iload C.1 2 dX11_savedOn_66 rfl ?_
  refine r_icmp_gt C.1 92 dX11_savedOn_68 (by decide) (fun c_1 => ?_) (fun c_1 => ?_)
  · replace h := ite_T c_1 h
    exact r_sub [3] rfl (ke_0 _ (Option.some.inj h).symm)
  · replace h := ite_F c_1 h
    refine r_aload_n C.1 0 dX11_savedOn_71 rfl rfl ?_
    refine gf_X11_34 C dX11_savedOn_72 ?_
    refine r_sipush (v := 360) C.1 dX11_savedOn_75 (by decide) ?_
    refine r_iload C.1 4 dX11_savedOn_78 rfl ?_
    refine r_iadd C.1 dX11_savedOn_80 ?_
    refine r_dup2 C.1 rfl rfl dX11_savedOn_81 ?_
    obtain ⟨q_2, h⟩ := gd_E h
    refine r_iald C.1 (mK C (by decide)) (mS C (shm_9)) 0 (mT0 C) q_2 dX11_savedOn_82 ?_
    refine r_iload_n C.1 1 dX11_savedOn_83 rfl rfl ?_
    refine r_iadd C.1 dX11_savedOn_84 ?_
    obtain ⟨q_3, h⟩ := gd_E h
    obtain ⟨M_4, eM_4, h⟩ := lt_E h
    refine r_iast C.1 (mK C (by decide)) (mS C (shm_9)) 0 (mT0 C) q_3 eM_4 dX11_savedOn_85 ?_
    obtain ⟨y_5, ey_5, h⟩ := lt_E h
    refine r_iinc C.1 4 [(6, .int y_5), (0, .ref (x_ad x 0)), (2, .int x2), (4, .int x4), (5, .int x5)] dX11_savedOn_86 rfl ey_5 (by decide) rfl ?_
    refine r_goto C.1 64 dX11_savedOn_89 (by decide) ?_
    exact r_sub [1, 2, 3, 4, 0] rfl (kh _ (Option.some.inj h).symm)

def b_X11_savedOn_64 (M : xM) (x2 : Int32) (x4 : Int32) (x5 : Int32) (x6 : Int32) : Option (Int32 × xM) :=
  bd (loopN (fun s : xM × Int32 => bl_X11_savedOn_64 s.1 x2 x4 x5 s.2) BG (M, x6)) (fun v => some (x5, v))
set_option maxRecDepth 20000 in
set_option maxHeartbeats 2000000 in
theorem w_X11_savedOn_64 {x : xC} (C : CtM x RX11 cX11_savedOn 7 ({ frames := 3, cells := 0, slots := 0, locals := 73 } : Room)) (M : xM) (x2 : Int32) (x4 : Int32) (x5 : Int32) (x6 : Int32)  (o : Int32 × xM) (h : b_X11_savedOn_64 M x2 x4 x5 x6 = some o) (hr : (x_me x).sig.returnType = some .int) (ev : x_rv x = some (.int o.1)) (eM : x_M x = o.2) : J x M 64 [(0, .ref (x_ad x 0)), (2, .int x2), (4, .int x4), (5, .int x5), (6, .int x6)] [] := by
  unfold b_X11_savedOn_64 at h
  obtain ⟨r_0, hr_0, h⟩ := bd_E h
  refine loopN_ind (JJ := fun s => J x s.1 64 [(0, .ref (x_ad x 0)), (2, .int x2), (4, .int x4), (5, .int x5), (6, .int s.2)] []) (KX := fun q => q = r_0) ?_ BG (M, x6) r_0 hr_0 rfl
  intro s o1 hb kk1 kk2
  refine wl_X11_savedOn_64 C s.1 x2 x4 x5 s.2 _ hb kk1 ?_
  · intro v e0
    have e1 := kk2 _ e0
    subst e1
    refine r_iload C.1 0 dX11_savedOn_92 rfl ?_
    obtain rfl := Option.some.inj h
    exact r_iret C.1 hr ev eM dX11_savedOn_94

def bl_X11_savedOn_20 (M : xM) (x1 : Int32) (x2 : Int32) (x3 : Int32) (x4 : Int32) (x5 : Int32) : Option ((xM × Int32) ⊕ (xM)) :=
  if x4 < x5 then some (.inr M) else gd ((360 : Int32) + x5) 3960 (gd ((360 : Int32) + x5) 3960 (lt (uM M 9 ((360 : Int32) + x5).toNatClampNeg ((M 9 ((360 : Int32) + x5).toNatClampNeg) - x2)) (fun M_4 => lt (x5 + (1 : Int32)) (fun y_5 => some (.inl (M_4, y_5))))))
set_option maxRecDepth 20000 in
set_option maxHeartbeats 2000000 in
theorem wl_X11_savedOn_20 {x : xC} (C : CtM x RX11 cX11_savedOn 7 ({ frames := 3, cells := 0, slots := 0, locals := 73 } : Room)) (M : xM) (x1 : Int32) (x2 : Int32) (x3 : Int32) (x4 : Int32) (x5 : Int32)  (o : (xM × Int32) ⊕ (xM)) (h : bl_X11_savedOn_20 M x1 x2 x3 x4 x5 = some o) (kh : ∀ s : xM × Int32, o = .inl s → J x s.1 20 [(0, .ref (x_ad x 0)), (1, .int x1), (2, .int x2), (3, .int x3), (4, .int x4), (5, .int s.2)] []) (ke_0 : ∀ v : xM, o = .inr v → J x v 48 [(0, .ref (x_ad x 0)), (1, .int x1), (2, .int x2), (3, .int x3), (4, .int x4)] []) : J x M 20 [(0, .ref (x_ad x 0)), (1, .int x1), (2, .int x2), (3, .int x3), (4, .int x4), (5, .int x5)] [] := by
  unfold bl_X11_savedOn_20 at h
  refine r_iload C.1 5 dX11_savedOn_20 rfl ?_
  refine r_iload C.1 4 dX11_savedOn_22 rfl ?_
  refine r_icmp_gt C.1 48 dX11_savedOn_24 (by decide) (fun c_1 => ?_) (fun c_1 => ?_)
  · replace h := ite_T c_1 h
    exact r_sub [0, 1, 2, 3, 4] rfl (ke_0 _ (Option.some.inj h).symm)
  · replace h := ite_F c_1 h
    refine r_aload_n C.1 0 dX11_savedOn_27 rfl rfl ?_
    refine gf_X11_34 C dX11_savedOn_28 ?_
    refine r_sipush (v := 360) C.1 dX11_savedOn_31 (by decide) ?_
    refine r_iload C.1 5 dX11_savedOn_34 rfl ?_
    refine r_iadd C.1 dX11_savedOn_36 ?_
    refine r_dup2 C.1 rfl rfl dX11_savedOn_37 ?_
    obtain ⟨q_2, h⟩ := gd_E h
    refine r_iald C.1 (mK C (by decide)) (mS C (shm_9)) 0 (mT0 C) q_2 dX11_savedOn_38 ?_
    refine r_iload_n C.1 2 dX11_savedOn_39 rfl rfl ?_
    refine r_isub C.1 dX11_savedOn_40 ?_
    obtain ⟨q_3, h⟩ := gd_E h
    obtain ⟨M_4, eM_4, h⟩ := lt_E h
    refine r_iast C.1 (mK C (by decide)) (mS C (shm_9)) 0 (mT0 C) q_3 eM_4 dX11_savedOn_41 ?_
    obtain ⟨y_5, ey_5, h⟩ := lt_E h
    refine r_iinc C.1 5 [(5, .int y_5), (0, .ref (x_ad x 0)), (1, .int x1), (2, .int x2), (3, .int x3), (4, .int x4)] dX11_savedOn_42 rfl ey_5 (by decide) rfl ?_
    refine r_goto C.1 20 dX11_savedOn_45 (by decide) ?_
    exact r_sub [1, 2, 3, 4, 5, 0] rfl (kh _ (Option.some.inj h).symm)

def b_X11_savedOn_20 (M : xM) (x1 : Int32) (x2 : Int32) (x3 : Int32) (x4 : Int32) (x5 : Int32) : Option (Int32 × xM) :=
  bd (loopN (fun s : xM × Int32 => bl_X11_savedOn_20 s.1 x1 x2 x3 x4 s.2) BG (M, x5)) (fun v => bd2 (f_X11_chargeBy v (x1 / (360 : Int32))) (fun r_1 M_3 => lt (x3 - r_1) (fun y_4 => b_X11_savedOn_64 M_3 x2 x4 y_4 x1)))
set_option maxRecDepth 20000 in
set_option maxHeartbeats 2000000 in
theorem w_X11_savedOn_20 {x : xC} (C : CtM x RX11 cX11_savedOn 7 ({ frames := 3, cells := 0, slots := 0, locals := 73 } : Room)) (M : xM) (x1 : Int32) (x2 : Int32) (x3 : Int32) (x4 : Int32) (x5 : Int32)  (o : Int32 × xM) (h : b_X11_savedOn_20 M x1 x2 x3 x4 x5 = some o) (hr : (x_me x).sig.returnType = some .int) (ev : x_rv x = some (.int o.1)) (eM : x_M x = o.2) : J x M 20 [(0, .ref (x_ad x 0)), (1, .int x1), (2, .int x2), (3, .int x3), (4, .int x4), (5, .int x5)] [] := by
  unfold b_X11_savedOn_20 at h
  obtain ⟨r_0, hr_0, h⟩ := bd_E h
  refine loopN_ind (JJ := fun s => J x s.1 20 [(0, .ref (x_ad x 0)), (1, .int x1), (2, .int x2), (3, .int x3), (4, .int x4), (5, .int s.2)] []) (KX := fun q => q = r_0) ?_ BG (M, x5) r_0 hr_0 rfl
  intro s o1 hb kk1 kk2
  refine wl_X11_savedOn_20 C s.1 x1 x2 x3 x4 s.2 _ hb kk1 ?_
  · intro v e0
    have e1 := kk2 _ e0
    subst e1
    refine r_iload_n C.1 3 dX11_savedOn_48 rfl rfl ?_
    refine r_aload_n C.1 0 dX11_savedOn_49 rfl rfl ?_
    refine r_iload_n C.1 1 dX11_savedOn_50 rfl rfl ?_
    refine r_sipush (v := 360) C.1 dX11_savedOn_51 (by decide) ?_
    refine r_idiv C.1 (by decide) dX11_savedOn_54 ?_
    obtain ⟨r_1, M_3, hc_2, h⟩ := bd2_E h
    refine cl_X11_234 C ⟨Nat.le_of_ble_eq_true rfl, Nat.le_of_ble_eq_true rfl⟩ (m_X11_chargeBy _ _ _ v (x1 / (360 : Int32)) hc_2) (Nat.le_of_ble_eq_true rfl) dX11_savedOn_55 ?_
    refine r_isub C.1 dX11_savedOn_58 ?_
    obtain ⟨y_4, ey_4, h⟩ := lt_E h
    refine r_istore C.1 [(5, .int y_4), (0, .ref (x_ad x 0)), (1, .int x1), (2, .int x2), (3, .int x3), (4, .int x4)] dX11_savedOn_59 (by decide) ey_4 rfl ?_
    refine r_iload_n C.1 2 dX11_savedOn_61 rfl rfl ?_
    refine r_istore C.1 [(6, .int x1), (5, .int y_4), (0, .ref (x_ad x 0)), (1, .int x1), (2, .int x2), (3, .int x3), (4, .int x4)] dX11_savedOn_62 (by decide) rfl rfl ?_
    exact r_sub [2, 4, 6, 1, 0] rfl (w_X11_savedOn_64 C M_3 x2 x4 y_4 x1 _ h hr ev eM)

def b_X11_savedOn_0 (M : xM) (x1 : Int32) (x2 : Int32) (x3 : Int32) : Option (Int32 × xM) :=
  lt ((((360 : Int32) * (x1 / (360 : Int32))) + (360 : Int32)) - (1 : Int32)) (fun y_1 => b_X11_savedOn_20 M x1 x2 x3 y_1 x1)
set_option maxRecDepth 20000 in
set_option maxHeartbeats 2000000 in
theorem w_X11_savedOn_0 {x : xC} (C : CtM x RX11 cX11_savedOn 7 ({ frames := 3, cells := 0, slots := 0, locals := 73 } : Room)) (M : xM) (x1 : Int32) (x2 : Int32) (x3 : Int32)  (o : Int32 × xM) (h : b_X11_savedOn_0 M x1 x2 x3 = some o) (hr : (x_me x).sig.returnType = some .int) (ev : x_rv x = some (.int o.1)) (eM : x_M x = o.2) : J x M 0 [(0, .ref (x_ad x 0)), (1, .int x1), (2, .int x2), (3, .int x3)] [] := by
  unfold b_X11_savedOn_0 at h
  refine r_sipush (v := 360) C.1 dX11_savedOn_0 (by decide) ?_
  refine r_iload_n C.1 1 dX11_savedOn_3 rfl rfl ?_
  refine r_sipush (v := 360) C.1 dX11_savedOn_4 (by decide) ?_
  refine r_idiv C.1 (by decide) dX11_savedOn_7 ?_
  refine r_imul C.1 dX11_savedOn_8 ?_
  refine r_sipush (v := 360) C.1 dX11_savedOn_9 (by decide) ?_
  refine r_iadd C.1 dX11_savedOn_12 ?_
  refine r_iconst (v := 1) C.1 dX11_savedOn_13 rfl ?_
  refine r_isub C.1 dX11_savedOn_14 ?_
  obtain ⟨y_1, ey_1, h⟩ := lt_E h
  refine r_istore C.1 [(4, .int y_1), (0, .ref (x_ad x 0)), (1, .int x1), (2, .int x2), (3, .int x3)] dX11_savedOn_15 (by decide) ey_1 rfl ?_
  refine r_iload_n C.1 2 dX11_savedOn_17 rfl rfl ?_
  refine r_istore C.1 [(5, .int x1), (4, .int y_1), (0, .ref (x_ad x 0)), (1, .int x1), (2, .int x2), (3, .int x3)] dX11_savedOn_18 (by decide) rfl rfl ?_
  exact r_sub [2, 3, 4, 5, 1, 0] rfl (w_X11_savedOn_20 C M x1 x2 x3 y_1 x1 _ h hr ev eM)
def f_X11_savedOn (M : xM) (x1 : Int32) (x2 : Int32) (x3 : Int32) : Option (Int32 × xM) := b_X11_savedOn_0 M x1 x2 x3
set_option maxRecDepth 20000 in
theorem m_X11_savedOn (l : Launch) (D : va_G) (ad : Nat → Nat) (M : xM) (x1 : Int32) (x2 : Int32) (x3 : Int32)  {r : Int32} {M1 : xM} (h : f_X11_savedOn M x1 x2 x3 = some (r, M1)) : xMetM l yX11_savedOn cX11_savedOn 7 (some .int) ({ frames := 3, cells := 0, slots := 0, locals := 73 } : Room) [.ref (ad 0), .int x1, .int x2, .int x3] D ad M (some (.int r)) M1 := by
  refine xMetM_of (own := RX11) (by decide) rfl (Nat.le_of_ble_eq_true rfl) ?_
  intro x C e1 e2 e3 ev eM hr
  subst e1; subst e2; subst e3
  refine r_sub (L := [(0, .ref (x_ad x 0)), (1, .int x1), (2, .int x2), (3, .int x3)]) (L' := [(0, .ref (x_ad x 0)), (1, .int x1), (2, .int x2), (3, .int x3)]) [0, 1, 2, 3] rfl ?_
  exact w_X11_savedOn_0 C M x1 x2 x3 _ h hr ev eM

def b_X11_saved_42 (M : xM)  : Option (Int32 × xM) :=
  some ((-1000000000 : Int32), M)
set_option maxRecDepth 20000 in
set_option maxHeartbeats 2000000 in
theorem w_X11_saved_42 {x : xC} (C : CtM x RX11 cX11_saved 4 ({ frames := 7, cells := 0, slots := 0, locals := 155 } : Room)) (M : xM)   (o : Int32 × xM) (h : b_X11_saved_42 M = some o) (hr : (x_me x).sig.returnType = some .int) (ev : x_rv x = some (.int o.1)) (eM : x_M x = o.2) : J x M 42 [] [] := by
  unfold b_X11_saved_42 at h
  refine r_ldcw (v := -1000000000) C.1 kw_1631 dX11_saved_42 ?_
  obtain rfl := Option.some.inj h
  exact r_iret C.1 hr ev eM dX11_saved_45

def b_X11_saved_0 (M : xM) (x1 : Int32) (x2 : Int32) (x3 : Int32) : Option (Int32 × xM) :=
  lt (uM M 0 0 (0 : Int32)) (fun M_1 => bd (f_X11_isWard M_1 x1) (fun r_2 => if r_2 = 0 then b_X11_saved_42 M_1 else bd (f_X11_isDay M_1 x2) (fun r_5 => if r_5 = 0 then b_X11_saved_42 M_1 else bd (f_X11_isAmount M_1 x3) (fun r_8 => if r_8 = 0 then b_X11_saved_42 M_1 else bd (f_X11_its M_1 x1 (15 : Int32)) (fun r_11 => if r_11 ≤ (x2 / (360 : Int32)) then bd (f_X11_laysMoney M_1 x1) (fun M_16 => bd2 (f_X11_chargeBy M_16 (x2 / (360 : Int32))) (fun r_17 M_19 => bd2 (f_X11_savedOn M_19 x2 x3 r_17) (fun r_20 M_22 => some (r_20, M_22)))) else b_X11_saved_42 M_1)))))
set_option maxRecDepth 20000 in
set_option maxHeartbeats 2000000 in
theorem w_X11_saved_0 {x : xC} (C : CtM x RX11 cX11_saved 4 ({ frames := 7, cells := 0, slots := 0, locals := 155 } : Room)) (M : xM) (x1 : Int32) (x2 : Int32) (x3 : Int32)  (o : Int32 × xM) (h : b_X11_saved_0 M x1 x2 x3 = some o) (hr : (x_me x).sig.returnType = some .int) (ev : x_rv x = some (.int o.1)) (eM : x_M x = o.2) : J x M 0 [(0, .ref (x_ad x 0)), (1, .int x1), (2, .int x2), (3, .int x3)] [] := by
  unfold b_X11_saved_0 at h
  refine r_aload_n C.1 0 dX11_saved_0 rfl rfl ?_
  refine r_iconst (v := 0) C.1 dX11_saved_1 rfl ?_
  obtain ⟨M_1, eM_1, h⟩ := lt_E h
  refine pf_X11_56 C eM_1 dX11_saved_2 ?_
  refine r_aload_n C.1 0 dX11_saved_5 rfl rfl ?_
  refine r_iload_n C.1 1 dX11_saved_6 rfl rfl ?_
  obtain ⟨r_2, hc_3, h⟩ := bd_E h
  refine cl_X11_262 C ⟨Nat.le_of_ble_eq_true rfl, Nat.le_of_ble_eq_true rfl⟩ (m_X11_isWard _ _ _ M_1 x1 hc_3) (Nat.le_of_ble_eq_true rfl) dX11_saved_7 ?_
  refine r_if_eq C.1 42 dX11_saved_10 (by decide) (fun c_4 => ?_) (fun c_4 => ?_)
  · replace h := ite_T c_4 h
    exact r_sub [] rfl (w_X11_saved_42 C M_1 _ h hr ev eM)
  · replace h := ite_F c_4 h
    refine r_iload_n C.1 2 dX11_saved_13 rfl rfl ?_
    obtain ⟨r_5, hc_6, h⟩ := bd_E h
    refine cl_X11_265 C ⟨Nat.le_of_ble_eq_true rfl, Nat.le_of_ble_eq_true rfl⟩ (m_X11_isDay _ _ _ M_1 x2 hc_6) (Nat.le_of_ble_eq_true rfl) dX11_saved_14 ?_
    refine r_if_eq C.1 42 dX11_saved_17 (by decide) (fun c_7 => ?_) (fun c_7 => ?_)
    · replace h := ite_T c_7 h
      exact r_sub [] rfl (w_X11_saved_42 C M_1 _ h hr ev eM)
    · replace h := ite_F c_7 h
      refine r_iload_n C.1 3 dX11_saved_20 rfl rfl ?_
      obtain ⟨r_8, hc_9, h⟩ := bd_E h
      refine cl_X11_276 C ⟨Nat.le_of_ble_eq_true rfl, Nat.le_of_ble_eq_true rfl⟩ (m_X11_isAmount _ _ _ M_1 x3 hc_9) (Nat.le_of_ble_eq_true rfl) dX11_saved_21 ?_
      refine r_if_eq C.1 42 dX11_saved_24 (by decide) (fun c_10 => ?_) (fun c_10 => ?_)
      · replace h := ite_T c_10 h
        exact r_sub [] rfl (w_X11_saved_42 C M_1 _ h hr ev eM)
      · replace h := ite_F c_10 h
        refine r_iload_n C.1 2 dX11_saved_27 rfl rfl ?_
        refine r_sipush (v := 360) C.1 dX11_saved_28 (by decide) ?_
        refine r_idiv C.1 (by decide) dX11_saved_31 ?_
        refine r_aload_n C.1 0 dX11_saved_32 rfl rfl ?_
        refine r_iload_n C.1 1 dX11_saved_33 rfl rfl ?_
        refine r_bipush (v := 15) C.1 dX11_saved_34 (by decide) ?_
        obtain ⟨r_11, hc_12, h⟩ := bd_E h
        refine cl_X11_176 C ⟨Nat.le_of_ble_eq_true rfl, Nat.le_of_ble_eq_true rfl⟩ (m_X11_its _ _ _ M_1 x1 (15 : Int32) hc_12) (Nat.le_of_ble_eq_true rfl) dX11_saved_36 ?_
        refine r_icmp_ge C.1 46 dX11_saved_39 (by decide) (fun c_13 => ?_) (fun c_13 => ?_)
        · replace h := ite_T c_13 h
          refine r_aload_n C.1 0 dX11_saved_46 rfl rfl ?_
          refine r_iload_n C.1 1 dX11_saved_47 rfl rfl ?_
          obtain ⟨M_16, hc_15, h⟩ := bd_E h
          refine cl_X11_230 C ⟨Nat.le_of_ble_eq_true rfl, Nat.le_of_ble_eq_true rfl⟩ (m_X11_laysMoney _ _ _ M_1 x1 hc_15) (Nat.le_of_ble_eq_true rfl) dX11_saved_48 ?_
          refine r_aload_n C.1 0 dX11_saved_51 rfl rfl ?_
          refine r_iload_n C.1 2 dX11_saved_52 rfl rfl ?_
          refine r_iload_n C.1 3 dX11_saved_53 rfl rfl ?_
          refine r_aload_n C.1 0 dX11_saved_54 rfl rfl ?_
          refine r_iload_n C.1 2 dX11_saved_55 rfl rfl ?_
          refine r_sipush (v := 360) C.1 dX11_saved_56 (by decide) ?_
          refine r_idiv C.1 (by decide) dX11_saved_59 ?_
          obtain ⟨r_17, M_19, hc_18, h⟩ := bd2_E h
          refine cl_X11_234 C ⟨Nat.le_of_ble_eq_true rfl, Nat.le_of_ble_eq_true rfl⟩ (m_X11_chargeBy _ _ _ M_16 (x2 / (360 : Int32)) hc_18) (Nat.le_of_ble_eq_true rfl) dX11_saved_60 ?_
          obtain ⟨r_20, M_22, hc_21, h⟩ := bd2_E h
          refine cl_X11_375 C ⟨Nat.le_of_ble_eq_true rfl, Nat.le_of_ble_eq_true rfl⟩ (m_X11_savedOn _ _ _ M_19 x2 x3 r_17 hc_21) (Nat.le_of_ble_eq_true rfl) dX11_saved_63 ?_
          obtain rfl := Option.some.inj h
          exact r_iret C.1 hr ev eM dX11_saved_66
        · replace h := ite_F c_13 h
          exact r_sub [] rfl (w_X11_saved_42 C M_1 _ h hr ev eM)
def f_X11_saved (M : xM) (x1 : Int32) (x2 : Int32) (x3 : Int32) : Option (Int32 × xM) := b_X11_saved_0 M x1 x2 x3
set_option maxRecDepth 20000 in
theorem m_X11_saved (l : Launch) (D : va_G) (ad : Nat → Nat) (M : xM) (x1 : Int32) (x2 : Int32) (x3 : Int32)  {r : Int32} {M1 : xM} (h : f_X11_saved M x1 x2 x3 = some (r, M1)) : xMetM l yX11_saved cX11_saved 4 (some .int) ({ frames := 7, cells := 0, slots := 0, locals := 155 } : Room) [.ref (ad 0), .int x1, .int x2, .int x3] D ad M (some (.int r)) M1 := by
  refine xMetM_of (own := RX11) (by decide) rfl (Nat.le_of_ble_eq_true rfl) ?_
  intro x C e1 e2 e3 ev eM hr
  subst e1; subst e2; subst e3
  refine r_sub (L := [(0, .ref (x_ad x 0)), (1, .int x1), (2, .int x2), (3, .int x3)]) (L' := [(0, .ref (x_ad x 0)), (1, .int x1), (2, .int x2), (3, .int x3)]) [0, 1, 2, 3] rfl ?_
  exact w_X11_saved_0 C M x1 x2 x3 _ h hr ev eM

def b_X11_bestDay_49 (M : xM)  : Option (Int32 × xM) :=
  some ((-1000000000 : Int32), M)
set_option maxRecDepth 20000 in
set_option maxHeartbeats 2000000 in
theorem w_X11_bestDay_49 {x : xC} (C : CtM x RX11 cX11_bestDay 10 ({ frames := 7, cells := 0, slots := 0, locals := 155 } : Room)) (M : xM)   (o : Int32 × xM) (h : b_X11_bestDay_49 M = some o) (hr : (x_me x).sig.returnType = some .int) (ev : x_rv x = some (.int o.1)) (eM : x_M x = o.2) : J x M 49 [] [] := by
  unfold b_X11_bestDay_49 at h
  refine r_ldcw (v := -1000000000) C.1 kw_1631 dX11_bestDay_49 ?_
  obtain rfl := Option.some.inj h
  exact r_iret C.1 hr ev eM dX11_bestDay_52

def b_X11_bestDay_148 (M : xM) (s0 : Int32) : Option (Int32 × xM) :=
  some (s0, M)
set_option maxRecDepth 20000 in
set_option maxHeartbeats 2000000 in
theorem w_X11_bestDay_148 {x : xC} (C : CtM x RX11 cX11_bestDay 10 ({ frames := 7, cells := 0, slots := 0, locals := 155 } : Room)) (M : xM) (s0 : Int32)  (o : Int32 × xM) (h : b_X11_bestDay_148 M s0 = some o) (hr : (x_me x).sig.returnType = some .int) (ev : x_rv x = some (.int o.1)) (eM : x_M x = o.2) : J x M 148 [] [.int s0] := by
  unfold b_X11_bestDay_148 at h
  obtain rfl := Option.some.inj h
  exact r_iret C.1 hr ev eM dX11_bestDay_148

def b_X11_bestDay_119 (M : xM) (x2 : Int32) (x3 : Int32) (x4 : Int32) (x5 : Int32) (x7 : Int32) (x8 : Int32) (x9 : Int32) (s0 : Int32) : Option ((xM × Int32 × Int32 × Int32) ⊕ (xM × Int32 × Int32)) :=
  lt (imax x7 x9) (fun y_1 => lt (x8 + (1 : Int32)) (fun y_2 => some (.inl (M, s0, y_1, y_2))))
set_option maxRecDepth 20000 in
set_option maxHeartbeats 2000000 in
theorem w_X11_bestDay_119 {x : xC} (C : CtM x RX11 cX11_bestDay 10 ({ frames := 7, cells := 0, slots := 0, locals := 155 } : Room)) (M : xM) (x2 : Int32) (x3 : Int32) (x4 : Int32) (x5 : Int32) (x7 : Int32) (x8 : Int32) (x9 : Int32) (s0 : Int32)  (o : (xM × Int32 × Int32 × Int32) ⊕ (xM × Int32 × Int32)) (h : b_X11_bestDay_119 M x2 x3 x4 x5 x7 x8 x9 s0 = some o) (kh : ∀ s : xM × Int32 × Int32 × Int32, o = .inl s → J x s.1 80 [(0, .ref (x_ad x 0)), (2, .int x2), (3, .int x3), (4, .int x4), (5, .int x5), (6, .int s.2.1), (7, .int s.2.2.1), (8, .int s.2.2.2)] []) (ke_0 : ∀ v : xM × Int32 × Int32, o = .inr v → J x v.1 136 [(4, .int x4), (6, .int v.2.1), (7, .int v.2.2)] []) : J x M 119 [(0, .ref (x_ad x 0)), (2, .int x2), (3, .int x3), (4, .int x4), (5, .int x5), (7, .int x7), (8, .int x8), (9, .int x9)] [.int s0] := by
  unfold b_X11_bestDay_119 at h
  refine r_istore C.1 [(6, .int s0), (0, .ref (x_ad x 0)), (2, .int x2), (3, .int x3), (4, .int x4), (5, .int x5), (7, .int x7), (8, .int x8), (9, .int x9)] dX11_bestDay_119 (by decide) rfl rfl ?_
  refine r_iload C.1 6 dX11_bestDay_121 rfl ?_
  refine r_iload C.1 8 dX11_bestDay_123 rfl ?_
  refine cm_X11_185 C.1 (by decide) (by decide) (Nat.le_of_ble_eq_true rfl) dX11_bestDay_125 ?_
  obtain ⟨y_1, ey_1, h⟩ := lt_E h
  refine r_istore C.1 [(7, .int y_1), (6, .int s0), (0, .ref (x_ad x 0)), (2, .int x2), (3, .int x3), (4, .int x4), (5, .int x5), (8, .int x8), (9, .int x9)] dX11_bestDay_128 (by decide) ey_1 rfl ?_
  obtain ⟨y_2, ey_2, h⟩ := lt_E h
  refine r_iinc C.1 7 [(8, .int y_2), (7, .int y_1), (6, .int s0), (0, .ref (x_ad x 0)), (2, .int x2), (3, .int x3), (4, .int x4), (5, .int x5), (9, .int x9)] dX11_bestDay_130 rfl ey_2 (by decide) rfl ?_
  refine r_goto C.1 80 dX11_bestDay_133 (by decide) ?_
  exact r_sub [3, 4, 5, 6, 7, 2, 1, 0] rfl (kh _ (Option.some.inj h).symm)

def bl_X11_bestDay_80 (M : xM) (x2 : Int32) (x3 : Int32) (x4 : Int32) (x5 : Int32) (x6 : Int32) (x7 : Int32) (x8 : Int32) : Option ((xM × Int32 × Int32 × Int32) ⊕ (xM × Int32 × Int32)) :=
  if (((360 : Int32) * x2) + (360 : Int32)) ≤ x8 then some (.inr (M, x6, x7)) else bd2 (f_X11_savedOn M x8 x3 x5) (fun r_2 M_4 => if r_2 ≤ x7 then b_X11_bestDay_119 M_4 x2 x3 x4 x5 x7 x8 r_2 x6 else b_X11_bestDay_119 M_4 x2 x3 x4 x5 x7 x8 r_2 x8)
set_option maxRecDepth 20000 in
set_option maxHeartbeats 2000000 in
theorem wl_X11_bestDay_80 {x : xC} (C : CtM x RX11 cX11_bestDay 10 ({ frames := 7, cells := 0, slots := 0, locals := 155 } : Room)) (M : xM) (x2 : Int32) (x3 : Int32) (x4 : Int32) (x5 : Int32) (x6 : Int32) (x7 : Int32) (x8 : Int32)  (o : (xM × Int32 × Int32 × Int32) ⊕ (xM × Int32 × Int32)) (h : bl_X11_bestDay_80 M x2 x3 x4 x5 x6 x7 x8 = some o) (kh : ∀ s : xM × Int32 × Int32 × Int32, o = .inl s → J x s.1 80 [(0, .ref (x_ad x 0)), (2, .int x2), (3, .int x3), (4, .int x4), (5, .int x5), (6, .int s.2.1), (7, .int s.2.2.1), (8, .int s.2.2.2)] []) (ke_0 : ∀ v : xM × Int32 × Int32, o = .inr v → J x v.1 136 [(4, .int x4), (6, .int v.2.1), (7, .int v.2.2)] []) : J x M 80 [(0, .ref (x_ad x 0)), (2, .int x2), (3, .int x3), (4, .int x4), (5, .int x5), (6, .int x6), (7, .int x7), (8, .int x8)] [] := by
  unfold bl_X11_bestDay_80 at h
  refine r_iload C.1 7 dX11_bestDay_80 rfl ?_
  refine r_sipush (v := 360) C.1 dX11_bestDay_82 (by decide) ?_
  refine r_iload_n C.1 1 dX11_bestDay_85 rfl rfl ?_
  refine r_imul C.1 dX11_bestDay_86 ?_
  refine r_sipush (v := 360) C.1 dX11_bestDay_87 (by decide) ?_
  refine r_iadd C.1 dX11_bestDay_90 ?_
  refine r_icmp_ge C.1 136 dX11_bestDay_91 (by decide) (fun c_1 => ?_) (fun c_1 => ?_)
  · replace h := ite_T c_1 h
    exact r_sub [3, 5, 6] rfl (ke_0 _ (Option.some.inj h).symm)
  · replace h := ite_F c_1 h
    refine r_aload_n C.1 0 dX11_bestDay_94 rfl rfl ?_
    refine r_iload C.1 7 dX11_bestDay_95 rfl ?_
    refine r_iload_n C.1 2 dX11_bestDay_97 rfl rfl ?_
    refine r_iload C.1 4 dX11_bestDay_98 rfl ?_
    obtain ⟨r_2, M_4, hc_3, h⟩ := bd2_E h
    refine cl_X11_375 C ⟨Nat.le_of_ble_eq_true rfl, Nat.le_of_ble_eq_true rfl⟩ (m_X11_savedOn _ _ _ M x8 x3 x5 hc_3) (Nat.le_of_ble_eq_true rfl) dX11_bestDay_100 ?_
    refine r_istore C.1 [(9, .int r_2), (0, .ref (x_ad x 0)), (2, .int x2), (3, .int x3), (4, .int x4), (5, .int x5), (6, .int x6), (7, .int x7), (8, .int x8)] dX11_bestDay_103 (by decide) rfl rfl ?_
    refine r_iload C.1 0 dX11_bestDay_105 rfl ?_
    refine r_iload C.1 7 dX11_bestDay_107 rfl ?_
    refine r_icmp_le C.1 117 dX11_bestDay_109 (by decide) (fun c_5 => ?_) (fun c_5 => ?_)
    · replace h := ite_T c_5 h
      refine r_iload C.1 6 dX11_bestDay_117 rfl ?_
      exact r_sub [1, 2, 3, 4, 5, 7, 8, 0] rfl (w_X11_bestDay_119 C M_4 x2 x3 x4 x5 x7 x8 r_2 x6 _ h kh ke_0)
    · replace h := ite_F c_5 h
      refine r_iload C.1 8 dX11_bestDay_112 rfl ?_
      refine r_goto C.1 119 dX11_bestDay_114 (by decide) ?_
      exact r_sub [1, 2, 3, 4, 5, 7, 8, 0] rfl (w_X11_bestDay_119 C M_4 x2 x3 x4 x5 x7 x8 r_2 x8 _ h kh ke_0)

def b_X11_bestDay_80 (M : xM) (x2 : Int32) (x3 : Int32) (x4 : Int32) (x5 : Int32) (x6 : Int32) (x7 : Int32) (x8 : Int32) : Option (Int32 × xM) :=
  bd (loopN (fun s : xM × Int32 × Int32 × Int32 => bl_X11_bestDay_80 s.1 x2 x3 x4 x5 s.2.1 s.2.2.1 s.2.2.2) BG (M, x6, x7, x8)) (fun v => if x4 = 0 then b_X11_bestDay_148 v.1 v.2.1 else b_X11_bestDay_148 v.1 v.2.2)
set_option maxRecDepth 20000 in
set_option maxHeartbeats 2000000 in
theorem w_X11_bestDay_80 {x : xC} (C : CtM x RX11 cX11_bestDay 10 ({ frames := 7, cells := 0, slots := 0, locals := 155 } : Room)) (M : xM) (x2 : Int32) (x3 : Int32) (x4 : Int32) (x5 : Int32) (x6 : Int32) (x7 : Int32) (x8 : Int32)  (o : Int32 × xM) (h : b_X11_bestDay_80 M x2 x3 x4 x5 x6 x7 x8 = some o) (hr : (x_me x).sig.returnType = some .int) (ev : x_rv x = some (.int o.1)) (eM : x_M x = o.2) : J x M 80 [(0, .ref (x_ad x 0)), (2, .int x2), (3, .int x3), (4, .int x4), (5, .int x5), (6, .int x6), (7, .int x7), (8, .int x8)] [] := by
  unfold b_X11_bestDay_80 at h
  obtain ⟨r_0, hr_0, h⟩ := bd_E h
  refine loopN_ind (JJ := fun s => J x s.1 80 [(0, .ref (x_ad x 0)), (2, .int x2), (3, .int x3), (4, .int x4), (5, .int x5), (6, .int s.2.1), (7, .int s.2.2.1), (8, .int s.2.2.2)] []) (KX := fun q => q = r_0) ?_ BG (M, x6, x7, x8) r_0 hr_0 rfl
  intro s o1 hb kk1 kk2
  refine wl_X11_bestDay_80 C s.1 x2 x3 x4 x5 s.2.1 s.2.2.1 s.2.2.2 _ hb kk1 ?_
  · intro v e0
    have e1 := kk2 _ e0
    subst e1
    refine r_iload C.1 0 dX11_bestDay_136 rfl ?_
    refine r_if_ne C.1 146 dX11_bestDay_138 (by decide) (fun c_1 => ?_) (fun c_1 => ?_)
    · replace h := ite_F c_1 h
      refine r_iload C.1 2 dX11_bestDay_146 rfl ?_
      exact r_sub [] rfl (w_X11_bestDay_148 C v.1 v.2.2 _ h hr ev eM)
    · replace h := ite_T c_1 h
      refine r_iload C.1 1 dX11_bestDay_141 rfl ?_
      refine r_goto C.1 148 dX11_bestDay_143 (by decide) ?_
      exact r_sub [] rfl (w_X11_bestDay_148 C v.1 v.2.1 _ h hr ev eM)

def b_X11_bestDay_0 (M : xM) (x1 : Int32) (x2 : Int32) (x3 : Int32) (x4 : Int32) : Option (Int32 × xM) :=
  lt (uM M 0 0 (0 : Int32)) (fun M_1 => bd (f_X11_isWard M_1 x1) (fun r_2 => if r_2 = 0 then b_X11_bestDay_49 M_1 else bd (f_X11_isYear M_1 x2) (fun r_5 => if r_5 = 0 then b_X11_bestDay_49 M_1 else bd (f_X11_isAmount M_1 x3) (fun r_8 => if r_8 = 0 then b_X11_bestDay_49 M_1 else bd (f_X11_in M_1 x4.toInt64 (0 : Int64) (1 : Int64)) (fun r_11 => if r_11 = 0 then b_X11_bestDay_49 M_1 else bd (f_X11_its M_1 x1 (15 : Int32)) (fun r_14 => if r_14 ≤ x2 then bd (f_X11_laysMoney M_1 x1) (fun M_19 => bd2 (f_X11_chargeBy M_19 x2) (fun r_20 M_22 => lt ((360 : Int32) * x2) (fun y_23 => b_X11_bestDay_80 M_22 x2 x3 x4 r_20 (-1 : Int32) (-1000000000 : Int32) y_23))) else b_X11_bestDay_49 M_1))))))
set_option maxRecDepth 20000 in
set_option maxHeartbeats 2000000 in
theorem w_X11_bestDay_0 {x : xC} (C : CtM x RX11 cX11_bestDay 10 ({ frames := 7, cells := 0, slots := 0, locals := 155 } : Room)) (M : xM) (x1 : Int32) (x2 : Int32) (x3 : Int32) (x4 : Int32)  (o : Int32 × xM) (h : b_X11_bestDay_0 M x1 x2 x3 x4 = some o) (hr : (x_me x).sig.returnType = some .int) (ev : x_rv x = some (.int o.1)) (eM : x_M x = o.2) : J x M 0 [(0, .ref (x_ad x 0)), (1, .int x1), (2, .int x2), (3, .int x3), (4, .int x4)] [] := by
  unfold b_X11_bestDay_0 at h
  refine r_aload_n C.1 0 dX11_bestDay_0 rfl rfl ?_
  refine r_iconst (v := 0) C.1 dX11_bestDay_1 rfl ?_
  obtain ⟨M_1, eM_1, h⟩ := lt_E h
  refine pf_X11_56 C eM_1 dX11_bestDay_2 ?_
  refine r_aload_n C.1 0 dX11_bestDay_5 rfl rfl ?_
  refine r_iload_n C.1 1 dX11_bestDay_6 rfl rfl ?_
  obtain ⟨r_2, hc_3, h⟩ := bd_E h
  refine cl_X11_262 C ⟨Nat.le_of_ble_eq_true rfl, Nat.le_of_ble_eq_true rfl⟩ (m_X11_isWard _ _ _ M_1 x1 hc_3) (Nat.le_of_ble_eq_true rfl) dX11_bestDay_7 ?_
  refine r_if_eq C.1 49 dX11_bestDay_10 (by decide) (fun c_4 => ?_) (fun c_4 => ?_)
  · replace h := ite_T c_4 h
    exact r_sub [] rfl (w_X11_bestDay_49 C M_1 _ h hr ev eM)
  · replace h := ite_F c_4 h
    refine r_iload_n C.1 2 dX11_bestDay_13 rfl rfl ?_
    obtain ⟨r_5, hc_6, h⟩ := bd_E h
    refine cl_X11_315 C ⟨Nat.le_of_ble_eq_true rfl, Nat.le_of_ble_eq_true rfl⟩ (m_X11_isYear _ _ _ M_1 x2 hc_6) (Nat.le_of_ble_eq_true rfl) dX11_bestDay_14 ?_
    refine r_if_eq C.1 49 dX11_bestDay_17 (by decide) (fun c_7 => ?_) (fun c_7 => ?_)
    · replace h := ite_T c_7 h
      exact r_sub [] rfl (w_X11_bestDay_49 C M_1 _ h hr ev eM)
    · replace h := ite_F c_7 h
      refine r_iload_n C.1 3 dX11_bestDay_20 rfl rfl ?_
      obtain ⟨r_8, hc_9, h⟩ := bd_E h
      refine cl_X11_276 C ⟨Nat.le_of_ble_eq_true rfl, Nat.le_of_ble_eq_true rfl⟩ (m_X11_isAmount _ _ _ M_1 x3 hc_9) (Nat.le_of_ble_eq_true rfl) dX11_bestDay_21 ?_
      refine r_if_eq C.1 49 dX11_bestDay_24 (by decide) (fun c_10 => ?_) (fun c_10 => ?_)
      · replace h := ite_T c_10 h
        exact r_sub [] rfl (w_X11_bestDay_49 C M_1 _ h hr ev eM)
      · replace h := ite_F c_10 h
        refine r_iload C.1 4 dX11_bestDay_27 rfl ?_
        refine r_i2l C.1 dX11_bestDay_29 ?_
        refine r_lconst (v := 0) C.1 dX11_bestDay_30 rfl ?_
        refine r_lconst (v := 1) C.1 dX11_bestDay_31 rfl ?_
        obtain ⟨r_11, hc_12, h⟩ := bd_E h
        refine cl_X11_67 C ⟨Nat.le_of_ble_eq_true rfl, Nat.le_of_ble_eq_true rfl⟩ (m_X11_in _ _ _ M_1 x4.toInt64 (0 : Int64) (1 : Int64) hc_12) (Nat.le_of_ble_eq_true rfl) dX11_bestDay_32 ?_
        refine r_if_eq C.1 49 dX11_bestDay_35 (by decide) (fun c_13 => ?_) (fun c_13 => ?_)
        · replace h := ite_T c_13 h
          exact r_sub [] rfl (w_X11_bestDay_49 C M_1 _ h hr ev eM)
        · replace h := ite_F c_13 h
          refine r_iload_n C.1 2 dX11_bestDay_38 rfl rfl ?_
          refine r_aload_n C.1 0 dX11_bestDay_39 rfl rfl ?_
          refine r_iload_n C.1 1 dX11_bestDay_40 rfl rfl ?_
          refine r_bipush (v := 15) C.1 dX11_bestDay_41 (by decide) ?_
          obtain ⟨r_14, hc_15, h⟩ := bd_E h
          refine cl_X11_176 C ⟨Nat.le_of_ble_eq_true rfl, Nat.le_of_ble_eq_true rfl⟩ (m_X11_its _ _ _ M_1 x1 (15 : Int32) hc_15) (Nat.le_of_ble_eq_true rfl) dX11_bestDay_43 ?_
          refine r_icmp_ge C.1 53 dX11_bestDay_46 (by decide) (fun c_16 => ?_) (fun c_16 => ?_)
          · replace h := ite_T c_16 h
            refine r_aload_n C.1 0 dX11_bestDay_53 rfl rfl ?_
            refine r_iload_n C.1 1 dX11_bestDay_54 rfl rfl ?_
            obtain ⟨M_19, hc_18, h⟩ := bd_E h
            refine cl_X11_230 C ⟨Nat.le_of_ble_eq_true rfl, Nat.le_of_ble_eq_true rfl⟩ (m_X11_laysMoney _ _ _ M_1 x1 hc_18) (Nat.le_of_ble_eq_true rfl) dX11_bestDay_55 ?_
            refine r_aload_n C.1 0 dX11_bestDay_58 rfl rfl ?_
            refine r_iload_n C.1 2 dX11_bestDay_59 rfl rfl ?_
            obtain ⟨r_20, M_22, hc_21, h⟩ := bd2_E h
            refine cl_X11_234 C ⟨Nat.le_of_ble_eq_true rfl, Nat.le_of_ble_eq_true rfl⟩ (m_X11_chargeBy _ _ _ M_19 x2 hc_21) (Nat.le_of_ble_eq_true rfl) dX11_bestDay_60 ?_
            refine r_istore C.1 [(5, .int r_20), (0, .ref (x_ad x 0)), (1, .int x1), (2, .int x2), (3, .int x3), (4, .int x4)] dX11_bestDay_63 (by decide) rfl rfl ?_
            refine r_iconst (v := -1) C.1 dX11_bestDay_65 rfl ?_
            refine r_istore C.1 [(6, .int (-1 : Int32)), (5, .int r_20), (0, .ref (x_ad x 0)), (1, .int x1), (2, .int x2), (3, .int x3), (4, .int x4)] dX11_bestDay_66 (by decide) rfl rfl ?_
            refine r_ldcw (v := -1000000000) C.1 kw_1631 dX11_bestDay_68 ?_
            refine r_istore C.1 [(7, .int (-1000000000 : Int32)), (6, .int (-1 : Int32)), (5, .int r_20), (0, .ref (x_ad x 0)), (1, .int x1), (2, .int x2), (3, .int x3), (4, .int x4)] dX11_bestDay_71 (by decide) rfl rfl ?_
            refine r_sipush (v := 360) C.1 dX11_bestDay_73 (by decide) ?_
            refine r_iload_n C.1 5 dX11_bestDay_76 rfl rfl ?_
            refine r_imul C.1 dX11_bestDay_77 ?_
            obtain ⟨y_23, ey_23, h⟩ := lt_E h
            refine r_istore C.1 [(8, .int y_23), (7, .int (-1000000000 : Int32)), (6, .int (-1 : Int32)), (5, .int r_20), (0, .ref (x_ad x 0)), (1, .int x1), (2, .int x2), (3, .int x3), (4, .int x4)] dX11_bestDay_78 (by decide) ey_23 rfl ?_
            exact r_sub [4, 6, 7, 8, 3, 2, 1, 0] rfl (w_X11_bestDay_80 C M_22 x2 x3 x4 r_20 (-1 : Int32) (-1000000000 : Int32) y_23 _ h hr ev eM)
          · replace h := ite_F c_16 h
            exact r_sub [] rfl (w_X11_bestDay_49 C M_1 _ h hr ev eM)
def f_X11_bestDay (M : xM) (x1 : Int32) (x2 : Int32) (x3 : Int32) (x4 : Int32) : Option (Int32 × xM) := b_X11_bestDay_0 M x1 x2 x3 x4
set_option maxRecDepth 20000 in
theorem m_X11_bestDay (l : Launch) (D : va_G) (ad : Nat → Nat) (M : xM) (x1 : Int32) (x2 : Int32) (x3 : Int32) (x4 : Int32)  {r : Int32} {M1 : xM} (h : f_X11_bestDay M x1 x2 x3 x4 = some (r, M1)) : xMetM l yX11_bestDay cX11_bestDay 10 (some .int) ({ frames := 7, cells := 0, slots := 0, locals := 155 } : Room) [.ref (ad 0), .int x1, .int x2, .int x3, .int x4] D ad M (some (.int r)) M1 := by
  refine xMetM_of (own := RX11) (by decide) rfl (Nat.le_of_ble_eq_true rfl) ?_
  intro x C e1 e2 e3 ev eM hr
  subst e1; subst e2; subst e3
  refine r_sub (L := [(0, .ref (x_ad x 0)), (1, .int x1), (2, .int x2), (3, .int x3), (4, .int x4)]) (L' := [(0, .ref (x_ad x 0)), (1, .int x1), (2, .int x2), (3, .int x3), (4, .int x4)]) [0, 1, 2, 3, 4] rfl ?_
  exact w_X11_bestDay_0 C M x1 x2 x3 x4 _ h hr ev eM

def b_X11_ofAge_24 (M : xM) (s0 : Int32) : Option (Int32 × xM) :=
  some (s0, M)
set_option maxRecDepth 20000 in
set_option maxHeartbeats 2000000 in
theorem w_X11_ofAge_24 {x : xC} (C : CtM x RX11 cX11_ofAge 2 ({ frames := 2, cells := 0, slots := 0, locals := 46 } : Room)) (M : xM) (s0 : Int32)  (o : Int32 × xM) (h : b_X11_ofAge_24 M s0 = some o) (hr : (x_me x).sig.returnType = some .int) (ev : x_rv x = some (.int o.1)) (eM : x_M x = o.2) : J x M 24 [] [.int s0] := by
  unfold b_X11_ofAge_24 at h
  obtain rfl := Option.some.inj h
  exact r_iret C.1 hr ev eM dX11_ofAge_24

def b_X11_ofAge_0 (M : xM) (x1 : Int32) : Option (Int32 × xM) :=
  lt (uM M 0 0 (0 : Int32)) (fun M_1 => bd (f_X11_isWard M_1 x1) (fun r_2 => if r_2 = 0 then b_X11_ofAge_24 M_1 (-1000000000 : Int32) else bd (f_X11_ageOf M_1 x1) (fun r_5 => b_X11_ofAge_24 M_1 r_5)))
set_option maxRecDepth 20000 in
set_option maxHeartbeats 2000000 in
theorem w_X11_ofAge_0 {x : xC} (C : CtM x RX11 cX11_ofAge 2 ({ frames := 2, cells := 0, slots := 0, locals := 46 } : Room)) (M : xM) (x1 : Int32)  (o : Int32 × xM) (h : b_X11_ofAge_0 M x1 = some o) (hr : (x_me x).sig.returnType = some .int) (ev : x_rv x = some (.int o.1)) (eM : x_M x = o.2) : J x M 0 [(0, .ref (x_ad x 0)), (1, .int x1)] [] := by
  unfold b_X11_ofAge_0 at h
  refine r_aload_n C.1 0 dX11_ofAge_0 rfl rfl ?_
  refine r_iconst (v := 0) C.1 dX11_ofAge_1 rfl ?_
  obtain ⟨M_1, eM_1, h⟩ := lt_E h
  refine pf_X11_56 C eM_1 dX11_ofAge_2 ?_
  refine r_aload_n C.1 0 dX11_ofAge_5 rfl rfl ?_
  refine r_iload_n C.1 1 dX11_ofAge_6 rfl rfl ?_
  obtain ⟨r_2, hc_3, h⟩ := bd_E h
  refine cl_X11_262 C ⟨Nat.le_of_ble_eq_true rfl, Nat.le_of_ble_eq_true rfl⟩ (m_X11_isWard _ _ _ M_1 x1 hc_3) (Nat.le_of_ble_eq_true rfl) dX11_ofAge_7 ?_
  refine r_if_eq C.1 21 dX11_ofAge_10 (by decide) (fun c_4 => ?_) (fun c_4 => ?_)
  · replace h := ite_T c_4 h
    refine r_ldcw (v := -1000000000) C.1 kw_1631 dX11_ofAge_21 ?_
    exact r_sub [] rfl (w_X11_ofAge_24 C M_1 (-1000000000 : Int32) _ h hr ev eM)
  · replace h := ite_F c_4 h
    refine r_aload_n C.1 0 dX11_ofAge_13 rfl rfl ?_
    refine r_iload_n C.1 1 dX11_ofAge_14 rfl rfl ?_
    obtain ⟨r_5, hc_6, h⟩ := bd_E h
    refine cl_X11_305 C ⟨Nat.le_of_ble_eq_true rfl, Nat.le_of_ble_eq_true rfl⟩ (m_X11_ageOf _ _ _ M_1 x1 hc_6) (Nat.le_of_ble_eq_true rfl) dX11_ofAge_15 ?_
    refine r_goto C.1 24 dX11_ofAge_18 (by decide) ?_
    exact r_sub [] rfl (w_X11_ofAge_24 C M_1 r_5 _ h hr ev eM)
def f_X11_ofAge (M : xM) (x1 : Int32) : Option (Int32 × xM) := b_X11_ofAge_0 M x1
set_option maxRecDepth 20000 in
theorem m_X11_ofAge (l : Launch) (D : va_G) (ad : Nat → Nat) (M : xM) (x1 : Int32)  {r : Int32} {M1 : xM} (h : f_X11_ofAge M x1 = some (r, M1)) : xMetM l yX11_ofAge cX11_ofAge 2 (some .int) ({ frames := 2, cells := 0, slots := 0, locals := 46 } : Room) [.ref (ad 0), .int x1] D ad M (some (.int r)) M1 := by
  refine xMetM_of (own := RX11) (by decide) rfl (Nat.le_of_ble_eq_true rfl) ?_
  intro x C e1 e2 e3 ev eM hr
  subst e1; subst e2; subst e3
  refine r_sub (L := [(0, .ref (x_ad x 0)), (1, .int x1)]) (L' := [(0, .ref (x_ad x 0)), (1, .int x1)]) [0, 1] rfl ?_
  exact w_X11_ofAge_0 C M x1 _ h hr ev eM

def b_X11_due_24 (M : xM) (s0 : Int32) : Option (Int32 × xM) :=
  some (s0, M)
set_option maxRecDepth 20000 in
set_option maxHeartbeats 2000000 in
theorem w_X11_due_24 {x : xC} (C : CtM x RX11 cX11_due 2 ({ frames := 7, cells := 0, slots := 0, locals := 154 } : Room)) (M : xM) (s0 : Int32)  (o : Int32 × xM) (h : b_X11_due_24 M s0 = some o) (hr : (x_me x).sig.returnType = some .int) (ev : x_rv x = some (.int o.1)) (eM : x_M x = o.2) : J x M 24 [] [.int s0] := by
  unfold b_X11_due_24 at h
  obtain rfl := Option.some.inj h
  exact r_iret C.1 hr ev eM dX11_due_24

def b_X11_due_0 (M : xM) (x1 : Int32) : Option (Int32 × xM) :=
  lt (uM M 0 0 (0 : Int32)) (fun M_1 => bd (f_X11_isWard M_1 x1) (fun r_2 => if r_2 = 0 then b_X11_due_24 M_1 (-1000000000 : Int32) else bd2 (f_X11_dueOf M_1 x1) (fun r_5 M_7 => b_X11_due_24 M_7 r_5)))
set_option maxRecDepth 20000 in
set_option maxHeartbeats 2000000 in
theorem w_X11_due_0 {x : xC} (C : CtM x RX11 cX11_due 2 ({ frames := 7, cells := 0, slots := 0, locals := 154 } : Room)) (M : xM) (x1 : Int32)  (o : Int32 × xM) (h : b_X11_due_0 M x1 = some o) (hr : (x_me x).sig.returnType = some .int) (ev : x_rv x = some (.int o.1)) (eM : x_M x = o.2) : J x M 0 [(0, .ref (x_ad x 0)), (1, .int x1)] [] := by
  unfold b_X11_due_0 at h
  refine r_aload_n C.1 0 dX11_due_0 rfl rfl ?_
  refine r_iconst (v := 0) C.1 dX11_due_1 rfl ?_
  obtain ⟨M_1, eM_1, h⟩ := lt_E h
  refine pf_X11_56 C eM_1 dX11_due_2 ?_
  refine r_aload_n C.1 0 dX11_due_5 rfl rfl ?_
  refine r_iload_n C.1 1 dX11_due_6 rfl rfl ?_
  obtain ⟨r_2, hc_3, h⟩ := bd_E h
  refine cl_X11_262 C ⟨Nat.le_of_ble_eq_true rfl, Nat.le_of_ble_eq_true rfl⟩ (m_X11_isWard _ _ _ M_1 x1 hc_3) (Nat.le_of_ble_eq_true rfl) dX11_due_7 ?_
  refine r_if_eq C.1 21 dX11_due_10 (by decide) (fun c_4 => ?_) (fun c_4 => ?_)
  · replace h := ite_T c_4 h
    refine r_ldcw (v := -1000000000) C.1 kw_1631 dX11_due_21 ?_
    exact r_sub [] rfl (w_X11_due_24 C M_1 (-1000000000 : Int32) _ h hr ev eM)
  · replace h := ite_F c_4 h
    refine r_aload_n C.1 0 dX11_due_13 rfl rfl ?_
    refine r_iload_n C.1 1 dX11_due_14 rfl rfl ?_
    obtain ⟨r_5, M_7, hc_6, h⟩ := bd2_E h
    refine cl_X11_308 C ⟨Nat.le_of_ble_eq_true rfl, Nat.le_of_ble_eq_true rfl⟩ (m_X11_dueOf _ _ _ M_1 x1 hc_6) (Nat.le_of_ble_eq_true rfl) dX11_due_15 ?_
    refine r_goto C.1 24 dX11_due_18 (by decide) ?_
    exact r_sub [] rfl (w_X11_due_24 C M_7 r_5 _ h hr ev eM)
def f_X11_due (M : xM) (x1 : Int32) : Option (Int32 × xM) := b_X11_due_0 M x1
set_option maxRecDepth 20000 in
theorem m_X11_due (l : Launch) (D : va_G) (ad : Nat → Nat) (M : xM) (x1 : Int32)  {r : Int32} {M1 : xM} (h : f_X11_due M x1 = some (r, M1)) : xMetM l yX11_due cX11_due 2 (some .int) ({ frames := 7, cells := 0, slots := 0, locals := 154 } : Room) [.ref (ad 0), .int x1] D ad M (some (.int r)) M1 := by
  refine xMetM_of (own := RX11) (by decide) rfl (Nat.le_of_ble_eq_true rfl) ?_
  intro x C e1 e2 e3 ev eM hr
  subst e1; subst e2; subst e3
  refine r_sub (L := [(0, .ref (x_ad x 0)), (1, .int x1)]) (L' := [(0, .ref (x_ad x 0)), (1, .int x1)]) [0, 1] rfl ?_
  exact w_X11_due_0 C M x1 _ h hr ev eM

def b_X11_wardOf_0 (M : xM) (x1 : Int32) (x2 : Int32) : Option (Int32 × xM) :=
  lt (uM M 0 0 (0 : Int32)) (fun M_1 => bd (f_X11_isWard M_1 x1) (fun r_2 => if r_2 = 0 then some ((-1000000000 : Int32), M_1) else if x2 = (0 : Int32) then bd (f_X11_its M_1 x1 (0 : Int32)) (fun r_6 => some (r_6, M_1)) else (if x2 = (1 : Int32) then bd (f_X11_its M_1 x1 (15 : Int32)) (fun r_8 => some (r_8, M_1)) else (if x2 = (2 : Int32) then bd (f_X11_its M_1 x1 (36 : Int32)) (fun r_10 => some (r_10, M_1)) else (if x2 = (3 : Int32) then bd (f_X11_its M_1 x1 (2 : Int32)) (fun r_12 => some (r_12, M_1)) else (some ((-1000000000 : Int32), M_1)))))))
set_option maxRecDepth 20000 in
set_option maxHeartbeats 2000000 in
theorem w_X11_wardOf_0 {x : xC} (C : CtM x RX11 cX11_wardOf 3 ({ frames := 2, cells := 0, slots := 0, locals := 46 } : Room)) (M : xM) (x1 : Int32) (x2 : Int32)  (o : Int32 × xM) (h : b_X11_wardOf_0 M x1 x2 = some o) (hr : (x_me x).sig.returnType = some .int) (ev : x_rv x = some (.int o.1)) (eM : x_M x = o.2) : J x M 0 [(0, .ref (x_ad x 0)), (1, .int x1), (2, .int x2)] [] := by
  unfold b_X11_wardOf_0 at h
  refine r_aload_n C.1 0 dX11_wardOf_0 rfl rfl ?_
  refine r_iconst (v := 0) C.1 dX11_wardOf_1 rfl ?_
  obtain ⟨M_1, eM_1, h⟩ := lt_E h
  refine pf_X11_56 C eM_1 dX11_wardOf_2 ?_
  refine r_aload_n C.1 0 dX11_wardOf_5 rfl rfl ?_
  refine r_iload_n C.1 1 dX11_wardOf_6 rfl rfl ?_
  obtain ⟨r_2, hc_3, h⟩ := bd_E h
  refine cl_X11_262 C ⟨Nat.le_of_ble_eq_true rfl, Nat.le_of_ble_eq_true rfl⟩ (m_X11_isWard _ _ _ M_1 x1 hc_3) (Nat.le_of_ble_eq_true rfl) dX11_wardOf_7 ?_
  refine r_if_ne C.1 17 dX11_wardOf_10 (by decide) (fun c_4 => ?_) (fun c_4 => ?_)
  · replace h := ite_F c_4 h
    refine r_iload_n C.1 2 dX11_wardOf_17 rfl rfl ?_
    by_cases c_50 : x2 = (0 : Int32)
    · replace h := ite_T c_50 h
      refine r_tin C.1 c_50 48 dX11_wardOf_18 (by decide) (by decide) rfl (by decide) ?_
      refine r_aload_n C.1 0 dX11_wardOf_48 rfl rfl ?_
      refine r_iload_n C.1 1 dX11_wardOf_49 rfl rfl ?_
      refine r_iconst (v := 0) C.1 dX11_wardOf_50 rfl ?_
      obtain ⟨r_6, hc_7, h⟩ := bd_E h
      refine cl_X11_176 C ⟨Nat.le_of_ble_eq_true rfl, Nat.le_of_ble_eq_true rfl⟩ (m_X11_its _ _ _ M_1 x1 (0 : Int32) hc_7) (Nat.le_of_ble_eq_true rfl) dX11_wardOf_51 ?_
      obtain rfl := Option.some.inj h
      exact r_iret C.1 hr ev eM dX11_wardOf_54
    · replace h := ite_F c_50 h
      by_cases c_51 : x2 = (1 : Int32)
      · replace h := ite_T c_51 h
        refine r_tin C.1 c_51 55 dX11_wardOf_18 (by decide) (by decide) rfl (by decide) ?_
        refine r_aload_n C.1 0 dX11_wardOf_55 rfl rfl ?_
        refine r_iload_n C.1 1 dX11_wardOf_56 rfl rfl ?_
        refine r_bipush (v := 15) C.1 dX11_wardOf_57 (by decide) ?_
        obtain ⟨r_8, hc_9, h⟩ := bd_E h
        refine cl_X11_176 C ⟨Nat.le_of_ble_eq_true rfl, Nat.le_of_ble_eq_true rfl⟩ (m_X11_its _ _ _ M_1 x1 (15 : Int32) hc_9) (Nat.le_of_ble_eq_true rfl) dX11_wardOf_59 ?_
        obtain rfl := Option.some.inj h
        exact r_iret C.1 hr ev eM dX11_wardOf_62
      · replace h := ite_F c_51 h
        by_cases c_52 : x2 = (2 : Int32)
        · replace h := ite_T c_52 h
          refine r_tin C.1 c_52 63 dX11_wardOf_18 (by decide) (by decide) rfl (by decide) ?_
          refine r_aload_n C.1 0 dX11_wardOf_63 rfl rfl ?_
          refine r_iload_n C.1 1 dX11_wardOf_64 rfl rfl ?_
          refine r_bipush (v := 36) C.1 dX11_wardOf_65 (by decide) ?_
          obtain ⟨r_10, hc_11, h⟩ := bd_E h
          refine cl_X11_176 C ⟨Nat.le_of_ble_eq_true rfl, Nat.le_of_ble_eq_true rfl⟩ (m_X11_its _ _ _ M_1 x1 (36 : Int32) hc_11) (Nat.le_of_ble_eq_true rfl) dX11_wardOf_67 ?_
          obtain rfl := Option.some.inj h
          exact r_iret C.1 hr ev eM dX11_wardOf_70
        · replace h := ite_F c_52 h
          by_cases c_53 : x2 = (3 : Int32)
          · replace h := ite_T c_53 h
            refine r_tin C.1 c_53 71 dX11_wardOf_18 (by decide) (by decide) rfl (by decide) ?_
            refine r_aload_n C.1 0 dX11_wardOf_71 rfl rfl ?_
            refine r_iload_n C.1 1 dX11_wardOf_72 rfl rfl ?_
            refine r_iconst (v := 2) C.1 dX11_wardOf_73 rfl ?_
            obtain ⟨r_12, hc_13, h⟩ := bd_E h
            refine cl_X11_176 C ⟨Nat.le_of_ble_eq_true rfl, Nat.le_of_ble_eq_true rfl⟩ (m_X11_its _ _ _ M_1 x1 (2 : Int32) hc_13) (Nat.le_of_ble_eq_true rfl) dX11_wardOf_74 ?_
            obtain rfl := Option.some.inj h
            exact r_iret C.1 hr ev eM dX11_wardOf_77
          · replace h := ite_F c_53 h
            have qc_50 := ne_toInt c_50
            have qc_51 := ne_toInt c_51
            have qc_52 := ne_toInt c_52
            have qc_53 := ne_toInt c_53
            refine r_tout C.1 78 dX11_wardOf_18 (tout_0_3 qc_50 qc_51 qc_52 qc_53) (by decide) ?_
            refine r_ldcw (v := -1000000000) C.1 kw_1631 dX11_wardOf_78 ?_
            obtain rfl := Option.some.inj h
            exact r_iret C.1 hr ev eM dX11_wardOf_81
  · replace h := ite_T c_4 h
    refine r_ldcw (v := -1000000000) C.1 kw_1631 dX11_wardOf_13 ?_
    obtain rfl := Option.some.inj h
    exact r_iret C.1 hr ev eM dX11_wardOf_16
def f_X11_wardOf (M : xM) (x1 : Int32) (x2 : Int32) : Option (Int32 × xM) := b_X11_wardOf_0 M x1 x2
set_option maxRecDepth 20000 in
theorem m_X11_wardOf (l : Launch) (D : va_G) (ad : Nat → Nat) (M : xM) (x1 : Int32) (x2 : Int32)  {r : Int32} {M1 : xM} (h : f_X11_wardOf M x1 x2 = some (r, M1)) : xMetM l yX11_wardOf cX11_wardOf 3 (some .int) ({ frames := 2, cells := 0, slots := 0, locals := 46 } : Room) [.ref (ad 0), .int x1, .int x2] D ad M (some (.int r)) M1 := by
  refine xMetM_of (own := RX11) (by decide) rfl (Nat.le_of_ble_eq_true rfl) ?_
  intro x C e1 e2 e3 ev eM hr
  subst e1; subst e2; subst e3
  refine r_sub (L := [(0, .ref (x_ad x 0)), (1, .int x1), (2, .int x2)]) (L' := [(0, .ref (x_ad x 0)), (1, .int x1), (2, .int x2)]) [0, 1, 2] rfl ?_
  exact w_X11_wardOf_0 C M x1 x2 _ h hr ev eM

def b_X11_writes_20 (M : xM) (s0 : Int32) : Option (xM) :=
  lt (uM M 0 29 s0) (fun M_1 => lt (uM M_1 0 27 ((M_1 0 27) + (1 : Int32))) (fun M_2 => some M_2))
set_option maxRecDepth 20000 in
set_option maxHeartbeats 2000000 in
theorem w_X11_writes_20 {x : xC} (C : CtM x RX11 cX11_writes 2 ({ frames := 0, cells := 0, slots := 0, locals := 0 } : Room)) (M : xM) (s0 : Int32)  (o : xM) (h : b_X11_writes_20 M s0 = some o) (hr : (x_me x).sig.returnType = none) (ev : x_rv x = none) (eM : x_M x = o) : J x M 20 [(0, .ref (x_ad x 0))] [.int s0, .ref (x_ad x 0)] := by
  unfold b_X11_writes_20 at h
  obtain ⟨M_1, eM_1, h⟩ := lt_E h
  refine pf_X11_384 C eM_1 dX11_writes_20 ?_
  refine r_aload_n C.1 0 dX11_writes_23 rfl rfl ?_
  refine r_dup C.1 rfl dX11_writes_24 ?_
  refine gf_X11_378 C dX11_writes_25 ?_
  refine r_iconst (v := 1) C.1 dX11_writes_28 rfl ?_
  refine r_iadd C.1 dX11_writes_29 ?_
  obtain ⟨M_2, eM_2, h⟩ := lt_E h
  refine pf_X11_378 C eM_2 dX11_writes_30 ?_
  obtain rfl := Option.some.inj h
  exact r_vret C.1 hr ev eM dX11_writes_33

def b_X11_writes_0 (M : xM) (x1 : Int32) : Option (xM) :=
  if (M 0 27) = (M 0 28) then b_X11_writes_20 M x1 else b_X11_writes_20 M (M 0 29)
set_option maxRecDepth 20000 in
set_option maxHeartbeats 2000000 in
theorem w_X11_writes_0 {x : xC} (C : CtM x RX11 cX11_writes 2 ({ frames := 0, cells := 0, slots := 0, locals := 0 } : Room)) (M : xM) (x1 : Int32)  (o : xM) (h : b_X11_writes_0 M x1 = some o) (hr : (x_me x).sig.returnType = none) (ev : x_rv x = none) (eM : x_M x = o) : J x M 0 [(0, .ref (x_ad x 0)), (1, .int x1)] [] := by
  unfold b_X11_writes_0 at h
  refine r_aload_n C.1 0 dX11_writes_0 rfl rfl ?_
  refine r_aload_n C.1 0 dX11_writes_1 rfl rfl ?_
  refine gf_X11_378 C dX11_writes_2 ?_
  refine r_aload_n C.1 0 dX11_writes_5 rfl rfl ?_
  refine gf_X11_381 C dX11_writes_6 ?_
  refine r_icmp_ne C.1 16 dX11_writes_9 (by decide) (fun c_1 => ?_) (fun c_1 => ?_)
  · replace h := ite_F c_1 h
    refine r_aload_n C.1 0 dX11_writes_16 rfl rfl ?_
    refine gf_X11_384 C dX11_writes_17 ?_
    exact r_sub [0] rfl (w_X11_writes_20 C M (M 0 29) _ h hr ev eM)
  · replace h := ite_T c_1 h
    refine r_iload_n C.1 1 dX11_writes_12 rfl rfl ?_
    refine r_goto C.1 20 dX11_writes_13 (by decide) ?_
    exact r_sub [0] rfl (w_X11_writes_20 C M x1 _ h hr ev eM)
def f_X11_writes (M : xM) (x1 : Int32) : Option (xM) := b_X11_writes_0 M x1
set_option maxRecDepth 20000 in
theorem m_X11_writes (l : Launch) (D : va_G) (ad : Nat → Nat) (M : xM) (x1 : Int32)  {o : xM} (h : f_X11_writes M x1 = some o) : xMetM l yX11_writes cX11_writes 2 none ({ frames := 0, cells := 0, slots := 0, locals := 0 } : Room) [.ref (ad 0), .int x1] D ad M none o := by
  refine xMetM_of (own := RX11) (by decide) rfl (Nat.le_of_ble_eq_true rfl) ?_
  intro x C e1 e2 e3 ev eM hr
  subst e1; subst e2; subst e3
  refine r_sub (L := [(0, .ref (x_ad x 0)), (1, .int x1)]) (L' := [(0, .ref (x_ad x 0)), (1, .int x1)]) [0, 1] rfl ?_
  exact w_X11_writes_0 C M x1 _ h hr ev eM

def bl_X11_writesLine_59 (M : xM) (x1 : Int32) (x3 : Int32) : Option ((xM × Int32) ⊕ (xM)) :=
  if x3 ≤ 0 then some (.inr M) else gd x1 7 (g0 x3 (bd (f_X11_writes M ((48 : Int32) + (((M 3 x1.toNatClampNeg) / x3) - ((M 3 x1.toNatClampNeg) / x3) / (10 : Int32) * (10 : Int32)))) (fun M_6 => lt (x3 / (10 : Int32)) (fun y_7 => some (.inl (M_6, y_7))))))
set_option maxRecDepth 20000 in
set_option maxHeartbeats 2000000 in
theorem wl_X11_writesLine_59 {x : xC} (C : CtM x RX11 cX11_writesLine 4 ({ frames := 4, cells := 0, slots := 0, locals := 85 } : Room)) (M : xM) (x1 : Int32) (x3 : Int32)  (o : (xM × Int32) ⊕ (xM)) (h : bl_X11_writesLine_59 M x1 x3 = some o) (kh : ∀ s : xM × Int32, o = .inl s → J x s.1 59 [(0, .ref (x_ad x 0)), (1, .int x1), (3, .int s.2)] []) (ke_0 : ∀ v : xM, o = .inr v → J x v 89 [] []) : J x M 59 [(0, .ref (x_ad x 0)), (1, .int x1), (3, .int x3)] [] := by
  unfold bl_X11_writesLine_59 at h
  refine r_iload_n C.1 2 dX11_writesLine_59 rfl rfl ?_
  refine r_if_le C.1 89 dX11_writesLine_60 (by decide) (fun c_1 => ?_) (fun c_1 => ?_)
  · replace h := ite_T c_1 h
    exact r_sub [] rfl (ke_0 _ (Option.some.inj h).symm)
  · replace h := ite_F c_1 h
    refine r_aload_n C.1 0 dX11_writesLine_63 rfl rfl ?_
    refine r_bipush (v := 48) C.1 dX11_writesLine_64 (by decide) ?_
    refine r_aload_n C.1 0 dX11_writesLine_66 rfl rfl ?_
    refine gf_X11_16 C dX11_writesLine_67 ?_
    refine r_iload_n C.1 1 dX11_writesLine_70 rfl rfl ?_
    obtain ⟨q_2, h⟩ := gd_E h
    refine r_iald C.1 (mK C (by decide)) (mS C (shm_3)) 0 (mT0 C) q_2 dX11_writesLine_71 ?_
    refine r_iload_n C.1 2 dX11_writesLine_72 rfl rfl ?_
    obtain ⟨z_3, h⟩ := g0_E h
    refine r_idiv C.1 z_3 dX11_writesLine_73 ?_
    refine r_bipush (v := 10) C.1 dX11_writesLine_74 (by decide) ?_
    refine r_irem C.1 (by decide) dX11_writesLine_76 ?_
    refine r_iadd C.1 dX11_writesLine_77 ?_
    obtain ⟨M_6, hc_5, h⟩ := bd_E h
    refine cl_X11_387 C ⟨Nat.le_of_ble_eq_true rfl, Nat.le_of_ble_eq_true rfl⟩ (m_X11_writes _ _ _ M ((48 : Int32) + (((M 3 x1.toNatClampNeg) / x3) - ((M 3 x1.toNatClampNeg) / x3) / (10 : Int32) * (10 : Int32))) hc_5) (Nat.le_of_ble_eq_true rfl) dX11_writesLine_78 ?_
    refine r_iload_n C.1 2 dX11_writesLine_81 rfl rfl ?_
    refine r_bipush (v := 10) C.1 dX11_writesLine_82 (by decide) ?_
    refine r_idiv C.1 (by decide) dX11_writesLine_84 ?_
    obtain ⟨y_7, ey_7, h⟩ := lt_E h
    refine r_istore_n C.1 [(3, .int y_7), (0, .ref (x_ad x 0)), (1, .int x1)] dX11_writesLine_85 rfl (by decide) ey_7 rfl ?_
    refine r_goto C.1 59 dX11_writesLine_86 (by decide) ?_
    exact r_sub [1, 2, 0] rfl (kh _ (Option.some.inj h).symm)

def b_X11_writesLine_59 (M : xM) (x1 : Int32) (x3 : Int32) : Option (xM) :=
  bd (loopN (fun s : xM × Int32 => bl_X11_writesLine_59 s.1 x1 s.2) BG (M, x3)) (fun v => some v)
set_option maxRecDepth 20000 in
set_option maxHeartbeats 2000000 in
theorem w_X11_writesLine_59 {x : xC} (C : CtM x RX11 cX11_writesLine 4 ({ frames := 4, cells := 0, slots := 0, locals := 85 } : Room)) (M : xM) (x1 : Int32) (x3 : Int32)  (o : xM) (h : b_X11_writesLine_59 M x1 x3 = some o) (hr : (x_me x).sig.returnType = none) (ev : x_rv x = none) (eM : x_M x = o) : J x M 59 [(0, .ref (x_ad x 0)), (1, .int x1), (3, .int x3)] [] := by
  unfold b_X11_writesLine_59 at h
  obtain ⟨r_0, hr_0, h⟩ := bd_E h
  refine loopN_ind (JJ := fun s => J x s.1 59 [(0, .ref (x_ad x 0)), (1, .int x1), (3, .int s.2)] []) (KX := fun q => q = r_0) ?_ BG (M, x3) r_0 hr_0 rfl
  intro s o1 hb kk1 kk2
  refine wl_X11_writesLine_59 C s.1 x1 s.2 _ hb kk1 ?_
  · intro v e0
    have e1 := kk2 _ e0
    subst e1
    obtain rfl := Option.some.inj h
    exact r_vret C.1 hr ev eM dX11_writesLine_89

def bl_X11_writesLine_38 (M : xM) (x1 : Int32) (x3 : Int32) : Option ((Int32) ⊕ (Int32)) :=
  gd x1 7 (g0 x3 (if ((M 3 x1.toNatClampNeg) / x3) ≤ (9 : Int32) then some (.inr x3) else lt (x3 * (10 : Int32)) (fun y_4 => some (.inl y_4))))
set_option maxRecDepth 20000 in
set_option maxHeartbeats 2000000 in
theorem wl_X11_writesLine_38 {x : xC} (C : CtM x RX11 cX11_writesLine 4 ({ frames := 4, cells := 0, slots := 0, locals := 85 } : Room)) (M : xM) (x1 : Int32) (x3 : Int32)  (o : (Int32) ⊕ (Int32)) (h : bl_X11_writesLine_38 M x1 x3 = some o) (kh : ∀ s : Int32, o = .inl s → J x M 38 [(0, .ref (x_ad x 0)), (1, .int x1), (3, .int s)] []) (ke_0 : ∀ v : Int32, o = .inr v → J x M 59 [(0, .ref (x_ad x 0)), (1, .int x1), (3, .int v)] []) : J x M 38 [(0, .ref (x_ad x 0)), (1, .int x1), (3, .int x3)] [] := by
  unfold bl_X11_writesLine_38 at h
  refine r_aload_n C.1 0 dX11_writesLine_38 rfl rfl ?_
  refine gf_X11_16 C dX11_writesLine_39 ?_
  refine r_iload_n C.1 1 dX11_writesLine_42 rfl rfl ?_
  obtain ⟨q_1, h⟩ := gd_E h
  refine r_iald C.1 (mK C (by decide)) (mS C (shm_3)) 0 (mT0 C) q_1 dX11_writesLine_43 ?_
  refine r_iload_n C.1 2 dX11_writesLine_44 rfl rfl ?_
  obtain ⟨z_2, h⟩ := g0_E h
  refine r_idiv C.1 z_2 dX11_writesLine_45 ?_
  refine r_bipush (v := 9) C.1 dX11_writesLine_46 (by decide) ?_
  refine r_icmp_le C.1 59 dX11_writesLine_48 (by decide) (fun c_3 => ?_) (fun c_3 => ?_)
  · replace h := ite_T c_3 h
    exact r_sub [0, 1, 2] rfl (ke_0 _ (Option.some.inj h).symm)
  · replace h := ite_F c_3 h
    refine r_iload_n C.1 2 dX11_writesLine_51 rfl rfl ?_
    refine r_bipush (v := 10) C.1 dX11_writesLine_52 (by decide) ?_
    refine r_imul C.1 dX11_writesLine_54 ?_
    obtain ⟨y_4, ey_4, h⟩ := lt_E h
    refine r_istore_n C.1 [(3, .int y_4), (0, .ref (x_ad x 0)), (1, .int x1)] dX11_writesLine_55 rfl (by decide) ey_4 rfl ?_
    refine r_goto C.1 38 dX11_writesLine_56 (by decide) ?_
    exact r_sub [1, 2, 0] rfl (kh _ (Option.some.inj h).symm)

def b_X11_writesLine_38 (M : xM) (x1 : Int32) (x3 : Int32) : Option (xM) :=
  bd (loopN (fun s : Int32 => bl_X11_writesLine_38 M x1 s) BG x3) (fun v => b_X11_writesLine_59 M x1 v)
set_option maxRecDepth 20000 in
set_option maxHeartbeats 2000000 in
theorem w_X11_writesLine_38 {x : xC} (C : CtM x RX11 cX11_writesLine 4 ({ frames := 4, cells := 0, slots := 0, locals := 85 } : Room)) (M : xM) (x1 : Int32) (x3 : Int32)  (o : xM) (h : b_X11_writesLine_38 M x1 x3 = some o) (hr : (x_me x).sig.returnType = none) (ev : x_rv x = none) (eM : x_M x = o) : J x M 38 [(0, .ref (x_ad x 0)), (1, .int x1), (3, .int x3)] [] := by
  unfold b_X11_writesLine_38 at h
  obtain ⟨r_0, hr_0, h⟩ := bd_E h
  refine loopN_ind (JJ := fun s => J x M 38 [(0, .ref (x_ad x 0)), (1, .int x1), (3, .int s)] []) (KX := fun q => q = r_0) ?_ BG x3 r_0 hr_0 rfl
  intro s o1 hb kk1 kk2
  refine wl_X11_writesLine_38 C M x1 s _ hb kk1 ?_
  · intro v e0
    have e1 := kk2 _ e0
    subst e1
    exact r_sub [0, 1, 2] rfl (w_X11_writesLine_59 C M x1 v _ h hr ev eM)

def bl_X11_writesLine_7 (M : xM) (x1 : Int32) (k2 : Nat) (x3 : Int32) : Option ((xM × Int32) ⊕ (xM)) :=
  if (Int32.ofNat (sLen k2)) ≤ x3 then some (.inr M) else gd x3 (sLen k2) (bd (f_X11_writes M (sByt k2 x3.toNatClampNeg)) (fun M_5 => lt (x3 + (1 : Int32)) (fun y_6 => some (.inl (M_5, y_6)))))
set_option maxRecDepth 20000 in
set_option maxHeartbeats 2000000 in
theorem wl_X11_writesLine_7 {x : xC} (C : CtM x RX11 cX11_writesLine 4 ({ frames := 4, cells := 0, slots := 0, locals := 85 } : Room)) (M : xM) (x1 : Int32) (k2 : Nat) (x3 : Int32) (h2 : KS k2) (o : (xM × Int32) ⊕ (xM)) (h : bl_X11_writesLine_7 M x1 k2 x3 = some o) (kh : ∀ s : xM × Int32, o = .inl s → J x s.1 7 [(0, .ref (x_ad x 0)), (1, .int x1), (2, .ref (x_ad x (1020 + k2))), (3, .int s.2)] []) (ke_0 : ∀ v : xM, o = .inr v → J x v 30 [(0, .ref (x_ad x 0)), (1, .int x1)] []) : J x M 7 [(0, .ref (x_ad x 0)), (1, .int x1), (2, .ref (x_ad x (1020 + k2))), (3, .int x3)] [] := by
  unfold bl_X11_writesLine_7 at h
  refine r_iload_n C.1 3 dX11_writesLine_7 rfl rfl ?_
  refine r_aload_n C.1 2 dX11_writesLine_8 rfl rfl ?_
  refine r_callO C.1 C.2.2.2.2 (As := []) (nn := 0) (js_length _ _ _ _ _ _ M h2) ⟨kw_1402, kw_394, kw_395, kw_12, kw_396⟩ ⟨rfl, by decide +kernel, by decide +kernel, by decide +kernel⟩ ⟨rfl, rfl, Nat.le_of_ble_eq_true rfl, Nat.le_of_ble_eq_true rfl⟩ (cStr C.2.2.2.2 h2) rfl rfl (Nat.le_of_ble_eq_true rfl) dX11_writesLine_9 ?_
  refine r_icmp_ge C.1 30 dX11_writesLine_12 (by decide) (fun c_1 => ?_) (fun c_1 => ?_)
  · replace h := ite_T c_1 h
    exact r_sub [0, 1] rfl (ke_0 _ (Option.some.inj h).symm)
  · replace h := ite_F c_1 h
    refine r_aload_n C.1 0 dX11_writesLine_15 rfl rfl ?_
    refine r_aload_n C.1 2 dX11_writesLine_16 rfl rfl ?_
    refine r_iload_n C.1 3 dX11_writesLine_17 rfl rfl ?_
    obtain ⟨q_2, h⟩ := gd_E h
    refine r_callO C.1 C.2.2.2.2 (As := [.int x3]) (nn := 1) (js_charAt _ _ _ _ _ _ M h2 x3 q_2) ⟨kw_1403, kw_404, kw_405, kw_12, kw_406⟩ ⟨rfl, by decide +kernel, by decide +kernel, by decide +kernel⟩ ⟨rfl, rfl, Nat.le_of_ble_eq_true rfl, Nat.le_of_ble_eq_true rfl⟩ (cStr C.2.2.2.2 h2) rfl rfl (Nat.le_of_ble_eq_true rfl) dX11_writesLine_18 ?_
    obtain ⟨M_5, hc_4, h⟩ := bd_E h
    refine cl_X11_387 C ⟨Nat.le_of_ble_eq_true rfl, Nat.le_of_ble_eq_true rfl⟩ (m_X11_writes _ _ _ M (sByt k2 x3.toNatClampNeg) hc_4) (Nat.le_of_ble_eq_true rfl) dX11_writesLine_21 ?_
    obtain ⟨y_6, ey_6, h⟩ := lt_E h
    refine r_iinc C.1 3 [(3, .int y_6), (0, .ref (x_ad x 0)), (1, .int x1), (2, .ref (x_ad x (1020 + k2)))] dX11_writesLine_24 rfl ey_6 (by decide) rfl ?_
    refine r_goto C.1 7 dX11_writesLine_27 (by decide) ?_
    exact r_sub [1, 2, 3, 0] rfl (kh _ (Option.some.inj h).symm)

def b_X11_writesLine_7 (M : xM) (x1 : Int32) (k2 : Nat) (x3 : Int32) : Option (xM) :=
  bd (loopN (fun s : xM × Int32 => bl_X11_writesLine_7 s.1 x1 k2 s.2) BG (M, x3)) (fun v => bd (f_X11_writes v (32 : Int32)) (fun M_3 => b_X11_writesLine_38 M_3 x1 (1 : Int32)))
set_option maxRecDepth 20000 in
set_option maxHeartbeats 2000000 in
theorem w_X11_writesLine_7 {x : xC} (C : CtM x RX11 cX11_writesLine 4 ({ frames := 4, cells := 0, slots := 0, locals := 85 } : Room)) (M : xM) (x1 : Int32) (k2 : Nat) (x3 : Int32) (h2 : KS k2) (o : xM) (h : b_X11_writesLine_7 M x1 k2 x3 = some o) (hr : (x_me x).sig.returnType = none) (ev : x_rv x = none) (eM : x_M x = o) : J x M 7 [(0, .ref (x_ad x 0)), (1, .int x1), (2, .ref (x_ad x (1020 + k2))), (3, .int x3)] [] := by
  unfold b_X11_writesLine_7 at h
  obtain ⟨r_0, hr_0, h⟩ := bd_E h
  refine loopN_ind (JJ := fun s => J x s.1 7 [(0, .ref (x_ad x 0)), (1, .int x1), (2, .ref (x_ad x (1020 + k2))), (3, .int s.2)] []) (KX := fun q => q = r_0) ?_ BG (M, x3) r_0 hr_0 rfl
  intro s o1 hb kk1 kk2
  refine wl_X11_writesLine_7 C s.1 x1 k2 s.2 h2 _ hb kk1 ?_
  · intro v e0
    have e1 := kk2 _ e0
    subst e1
    refine r_aload_n C.1 0 dX11_writesLine_30 rfl rfl ?_
    refine r_bipush (v := 32) C.1 dX11_writesLine_31 (by decide) ?_
    obtain ⟨M_3, hc_2, h⟩ := bd_E h
    refine cl_X11_387 C ⟨Nat.le_of_ble_eq_true rfl, Nat.le_of_ble_eq_true rfl⟩ (m_X11_writes _ _ _ v (32 : Int32) hc_2) (Nat.le_of_ble_eq_true rfl) dX11_writesLine_33 ?_
    refine r_iconst (v := 1) C.1 dX11_writesLine_36 rfl ?_
    refine r_istore_n C.1 [(3, .int (1 : Int32)), (0, .ref (x_ad x 0)), (1, .int x1)] dX11_writesLine_37 rfl (by decide) rfl rfl ?_
    exact r_sub [1, 2, 0] rfl (w_X11_writesLine_38 C M_3 x1 (1 : Int32) _ h hr ev eM)

def b_X11_writesLine_0 (M : xM) (x1 : Int32) : Option (xM) :=
  bd (f_X11_wordOf M x1) (fun r_1 => b_X11_writesLine_7 M x1 r_1 (0 : Int32))
set_option maxRecDepth 20000 in
set_option maxHeartbeats 2000000 in
theorem w_X11_writesLine_0 {x : xC} (C : CtM x RX11 cX11_writesLine 4 ({ frames := 4, cells := 0, slots := 0, locals := 85 } : Room)) (M : xM) (x1 : Int32)  (o : xM) (h : b_X11_writesLine_0 M x1 = some o) (hr : (x_me x).sig.returnType = none) (ev : x_rv x = none) (eM : x_M x = o) : J x M 0 [(0, .ref (x_ad x 0)), (1, .int x1)] [] := by
  unfold b_X11_writesLine_0 at h
  refine r_iload_n C.1 1 dX11_writesLine_0 rfl rfl ?_
  obtain ⟨r_1, hc_2, h⟩ := bd_E h
  refine cl_X11_131 C ⟨Nat.le_of_ble_eq_true rfl, Nat.le_of_ble_eq_true rfl⟩ (m_X11_wordOf _ _ _ M x1 hc_2) (Nat.le_of_ble_eq_true rfl) dX11_writesLine_1 ?_
  refine r_astore_n C.1 [(2, .ref (x_ad x (1020 + r_1))), (0, .ref (x_ad x 0)), (1, .int x1)] dX11_writesLine_4 rfl (by decide) rfl ?_
  refine r_iconst (v := 0) C.1 dX11_writesLine_5 rfl ?_
  refine r_istore_n C.1 [(3, .int (0 : Int32)), (2, .ref (x_ad x (1020 + r_1))), (0, .ref (x_ad x 0)), (1, .int x1)] dX11_writesLine_6 rfl (by decide) rfl rfl ?_
  exact r_sub [2, 3, 1, 0] rfl (w_X11_writesLine_7 C M x1 r_1 (0 : Int32) (X11_wordOf_lt hc_2) _ h hr ev eM)
def f_X11_writesLine (M : xM) (x1 : Int32) : Option (xM) := b_X11_writesLine_0 M x1
set_option maxRecDepth 20000 in
theorem m_X11_writesLine (l : Launch) (D : va_G) (ad : Nat → Nat) (M : xM) (x1 : Int32)  {o : xM} (h : f_X11_writesLine M x1 = some o) : xMetM l yX11_writesLine cX11_writesLine 4 none ({ frames := 4, cells := 0, slots := 0, locals := 85 } : Room) [.ref (ad 0), .int x1] D ad M none o := by
  refine xMetM_of (own := RX11) (by decide) rfl (Nat.le_of_ble_eq_true rfl) ?_
  intro x C e1 e2 e3 ev eM hr
  subst e1; subst e2; subst e3
  refine r_sub (L := [(0, .ref (x_ad x 0)), (1, .int x1)]) (L' := [(0, .ref (x_ad x 0)), (1, .int x1)]) [0, 1] rfl ?_
  exact w_X11_writesLine_0 C M x1 _ h hr ev eM

def b_X11_written_85 (M : xM) (s0 : Int32) : Option (Int32 × xM) :=
  some (s0, M)
set_option maxRecDepth 20000 in
set_option maxHeartbeats 2000000 in
theorem w_X11_written_85 {x : xC} (C : CtM x RX11 cX11_written 3 ({ frames := 5, cells := 0, slots := 0, locals := 108 } : Room)) (M : xM) (s0 : Int32)  (o : Int32 × xM) (h : b_X11_written_85 M s0 = some o) (hr : (x_me x).sig.returnType = some .int) (ev : x_rv x = some (.int o.1)) (eM : x_M x = o.2) : J x M 85 [] [.int s0] := by
  unfold b_X11_written_85 at h
  obtain rfl := Option.some.inj h
  exact r_iret C.1 hr ev eM dX11_written_85

def b_X11_written_38 (M : xM) (x1 : Int32) (x2 : Int32) : Option ((xM × Int32) ⊕ (xM)) :=
  bd (f_X11_writesLine M x2) (fun M_3 => lt (x2 + (1 : Int32)) (fun y_4 => some (.inl (M_3, y_4))))
set_option maxRecDepth 20000 in
set_option maxHeartbeats 2000000 in
theorem w_X11_written_38 {x : xC} (C : CtM x RX11 cX11_written 3 ({ frames := 5, cells := 0, slots := 0, locals := 108 } : Room)) (M : xM) (x1 : Int32) (x2 : Int32)  (o : (xM × Int32) ⊕ (xM)) (h : b_X11_written_38 M x1 x2 = some o) (kh : ∀ s : xM × Int32, o = .inl s → J x s.1 22 [(0, .ref (x_ad x 0)), (1, .int x1), (2, .int s.2)] []) (ke_0 : ∀ v : xM, o = .inr v → J x v 49 [(0, .ref (x_ad x 0)), (1, .int x1)] []) : J x M 38 [(0, .ref (x_ad x 0)), (1, .int x1), (2, .int x2)] [] := by
  unfold b_X11_written_38 at h
  refine r_aload_n C.1 0 dX11_written_38 rfl rfl ?_
  refine r_iload_n C.1 2 dX11_written_39 rfl rfl ?_
  obtain ⟨M_3, hc_2, h⟩ := bd_E h
  refine cl_X11_390 C ⟨Nat.le_of_ble_eq_true rfl, Nat.le_of_ble_eq_true rfl⟩ (m_X11_writesLine _ _ _ M x2 hc_2) (Nat.le_of_ble_eq_true rfl) dX11_written_40 ?_
  obtain ⟨y_4, ey_4, h⟩ := lt_E h
  refine r_iinc C.1 2 [(2, .int y_4), (0, .ref (x_ad x 0)), (1, .int x1)] dX11_written_43 rfl ey_4 (by decide) rfl ?_
  refine r_goto C.1 22 dX11_written_46 (by decide) ?_
  exact r_sub [1, 2, 0] rfl (kh _ (Option.some.inj h).symm)

def bl_X11_written_22 (M : xM) (x1 : Int32) (x2 : Int32) : Option ((xM × Int32) ⊕ (xM)) :=
  if (7 : Int32) ≤ x2 then some (.inr M) else if x2 ≤ 0 then b_X11_written_38 M x1 x2 else bd (f_X11_writes M (59 : Int32)) (fun M_5 => b_X11_written_38 M_5 x1 x2)
set_option maxRecDepth 20000 in
set_option maxHeartbeats 2000000 in
theorem wl_X11_written_22 {x : xC} (C : CtM x RX11 cX11_written 3 ({ frames := 5, cells := 0, slots := 0, locals := 108 } : Room)) (M : xM) (x1 : Int32) (x2 : Int32)  (o : (xM × Int32) ⊕ (xM)) (h : bl_X11_written_22 M x1 x2 = some o) (kh : ∀ s : xM × Int32, o = .inl s → J x s.1 22 [(0, .ref (x_ad x 0)), (1, .int x1), (2, .int s.2)] []) (ke_0 : ∀ v : xM, o = .inr v → J x v 49 [(0, .ref (x_ad x 0)), (1, .int x1)] []) : J x M 22 [(0, .ref (x_ad x 0)), (1, .int x1), (2, .int x2)] [] := by
  unfold bl_X11_written_22 at h
  refine r_iload_n C.1 2 dX11_written_22 rfl rfl ?_
  refine r_bipush (v := 7) C.1 dX11_written_23 (by decide) ?_
  refine r_icmp_ge C.1 49 dX11_written_25 (by decide) (fun c_1 => ?_) (fun c_1 => ?_)
  · replace h := ite_T c_1 h
    exact r_sub [0, 1] rfl (ke_0 _ (Option.some.inj h).symm)
  · replace h := ite_F c_1 h
    refine r_iload_n C.1 2 dX11_written_28 rfl rfl ?_
    refine r_if_le C.1 38 dX11_written_29 (by decide) (fun c_2 => ?_) (fun c_2 => ?_)
    · replace h := ite_T c_2 h
      exact r_sub [0, 1, 2] rfl (w_X11_written_38 C M x1 x2 _ h kh ke_0)
    · replace h := ite_F c_2 h
      refine r_aload_n C.1 0 dX11_written_32 rfl rfl ?_
      refine r_bipush (v := 59) C.1 dX11_written_33 (by decide) ?_
      obtain ⟨M_5, hc_4, h⟩ := bd_E h
      refine cl_X11_387 C ⟨Nat.le_of_ble_eq_true rfl, Nat.le_of_ble_eq_true rfl⟩ (m_X11_writes _ _ _ M (59 : Int32) hc_4) (Nat.le_of_ble_eq_true rfl) dX11_written_35 ?_
      exact r_sub [0, 1, 2] rfl (w_X11_written_38 C M_5 x1 x2 _ h kh ke_0)

def b_X11_written_22 (M : xM) (x1 : Int32) (x2 : Int32) : Option (Int32 × xM) :=
  bd (loopN (fun s : xM × Int32 => bl_X11_written_22 s.1 x1 s.2) BG (M, x2)) (fun v => if x1 = (-1 : Int32) then b_X11_written_85 v (v 0 27) else bd (f_X11_in v x1.toInt64 (0 : Int64) (((v 0 27) - (1 : Int32)).toInt64)) (fun r_2 => if r_2 = 0 then b_X11_written_85 v (-1 : Int32) else b_X11_written_85 v (v 0 29)))
set_option maxRecDepth 20000 in
set_option maxHeartbeats 2000000 in
theorem w_X11_written_22 {x : xC} (C : CtM x RX11 cX11_written 3 ({ frames := 5, cells := 0, slots := 0, locals := 108 } : Room)) (M : xM) (x1 : Int32) (x2 : Int32)  (o : Int32 × xM) (h : b_X11_written_22 M x1 x2 = some o) (hr : (x_me x).sig.returnType = some .int) (ev : x_rv x = some (.int o.1)) (eM : x_M x = o.2) : J x M 22 [(0, .ref (x_ad x 0)), (1, .int x1), (2, .int x2)] [] := by
  unfold b_X11_written_22 at h
  obtain ⟨r_0, hr_0, h⟩ := bd_E h
  refine loopN_ind (JJ := fun s => J x s.1 22 [(0, .ref (x_ad x 0)), (1, .int x1), (2, .int s.2)] []) (KX := fun q => q = r_0) ?_ BG (M, x2) r_0 hr_0 rfl
  intro s o1 hb kk1 kk2
  refine wl_X11_written_22 C s.1 x1 s.2 _ hb kk1 ?_
  · intro v e0
    have e1 := kk2 _ e0
    subst e1
    refine r_iload_n C.1 1 dX11_written_49 rfl rfl ?_
    refine r_iconst (v := -1) C.1 dX11_written_50 rfl ?_
    refine r_icmp_ne C.1 61 dX11_written_51 (by decide) (fun c_1 => ?_) (fun c_1 => ?_)
    · replace h := ite_F c_1 h
      refine r_iload_n C.1 1 dX11_written_61 rfl rfl ?_
      refine r_i2l C.1 dX11_written_62 ?_
      refine r_lconst (v := 0) C.1 dX11_written_63 rfl ?_
      refine r_aload_n C.1 0 dX11_written_64 rfl rfl ?_
      refine gf_X11_378 C dX11_written_65 ?_
      refine r_iconst (v := 1) C.1 dX11_written_68 rfl ?_
      refine r_isub C.1 dX11_written_69 ?_
      refine r_i2l C.1 dX11_written_70 ?_
      obtain ⟨r_2, hc_3, h⟩ := bd_E h
      refine cl_X11_67 C ⟨Nat.le_of_ble_eq_true rfl, Nat.le_of_ble_eq_true rfl⟩ (m_X11_in _ _ _ v x1.toInt64 (0 : Int64) (((v 0 27) - (1 : Int32)).toInt64) hc_3) (Nat.le_of_ble_eq_true rfl) dX11_written_71 ?_
      refine r_if_eq C.1 84 dX11_written_74 (by decide) (fun c_4 => ?_) (fun c_4 => ?_)
      · replace h := ite_T c_4 h
        refine r_iconst (v := -1) C.1 dX11_written_84 rfl ?_
        exact r_sub [] rfl (w_X11_written_85 C v (-1 : Int32) _ h hr ev eM)
      · replace h := ite_F c_4 h
        refine r_aload_n C.1 0 dX11_written_77 rfl rfl ?_
        refine gf_X11_384 C dX11_written_78 ?_
        refine r_goto C.1 85 dX11_written_81 (by decide) ?_
        exact r_sub [] rfl (w_X11_written_85 C v (v 0 29) _ h hr ev eM)
    · replace h := ite_T c_1 h
      refine r_aload_n C.1 0 dX11_written_54 rfl rfl ?_
      refine gf_X11_378 C dX11_written_55 ?_
      refine r_goto C.1 85 dX11_written_58 (by decide) ?_
      exact r_sub [] rfl (w_X11_written_85 C v (v 0 27) _ h hr ev eM)

def b_X11_written_0 (M : xM) (x1 : Int32) : Option (Int32 × xM) :=
  lt (uM M 0 0 (0 : Int32)) (fun M_1 => lt (uM M_1 0 27 (0 : Int32)) (fun M_2 => lt (uM M_2 0 28 x1) (fun M_3 => lt (uM M_3 0 29 (-1 : Int32)) (fun M_4 => b_X11_written_22 M_4 x1 (0 : Int32)))))
set_option maxRecDepth 20000 in
set_option maxHeartbeats 2000000 in
theorem w_X11_written_0 {x : xC} (C : CtM x RX11 cX11_written 3 ({ frames := 5, cells := 0, slots := 0, locals := 108 } : Room)) (M : xM) (x1 : Int32)  (o : Int32 × xM) (h : b_X11_written_0 M x1 = some o) (hr : (x_me x).sig.returnType = some .int) (ev : x_rv x = some (.int o.1)) (eM : x_M x = o.2) : J x M 0 [(0, .ref (x_ad x 0)), (1, .int x1)] [] := by
  unfold b_X11_written_0 at h
  refine r_aload_n C.1 0 dX11_written_0 rfl rfl ?_
  refine r_iconst (v := 0) C.1 dX11_written_1 rfl ?_
  obtain ⟨M_1, eM_1, h⟩ := lt_E h
  refine pf_X11_56 C eM_1 dX11_written_2 ?_
  refine r_aload_n C.1 0 dX11_written_5 rfl rfl ?_
  refine r_iconst (v := 0) C.1 dX11_written_6 rfl ?_
  obtain ⟨M_2, eM_2, h⟩ := lt_E h
  refine pf_X11_378 C eM_2 dX11_written_7 ?_
  refine r_aload_n C.1 0 dX11_written_10 rfl rfl ?_
  refine r_iload_n C.1 1 dX11_written_11 rfl rfl ?_
  obtain ⟨M_3, eM_3, h⟩ := lt_E h
  refine pf_X11_381 C eM_3 dX11_written_12 ?_
  refine r_aload_n C.1 0 dX11_written_15 rfl rfl ?_
  refine r_iconst (v := -1) C.1 dX11_written_16 rfl ?_
  obtain ⟨M_4, eM_4, h⟩ := lt_E h
  refine pf_X11_384 C eM_4 dX11_written_17 ?_
  refine r_iconst (v := 0) C.1 dX11_written_20 rfl ?_
  refine r_istore_n C.1 [(2, .int (0 : Int32)), (0, .ref (x_ad x 0)), (1, .int x1)] dX11_written_21 rfl (by decide) rfl rfl ?_
  exact r_sub [1, 2, 0] rfl (w_X11_written_22 C M_4 x1 (0 : Int32) _ h hr ev eM)
def f_X11_written (M : xM) (x1 : Int32) : Option (Int32 × xM) := b_X11_written_0 M x1
set_option maxRecDepth 20000 in
theorem m_X11_written (l : Launch) (D : va_G) (ad : Nat → Nat) (M : xM) (x1 : Int32)  {r : Int32} {M1 : xM} (h : f_X11_written M x1 = some (r, M1)) : xMetM l yX11_written cX11_written 3 (some .int) ({ frames := 5, cells := 0, slots := 0, locals := 108 } : Room) [.ref (ad 0), .int x1] D ad M (some (.int r)) M1 := by
  refine xMetM_of (own := RX11) (by decide) rfl (Nat.le_of_ble_eq_true rfl) ?_
  intro x C e1 e2 e3 ev eM hr
  subst e1; subst e2; subst e3
  refine r_sub (L := [(0, .ref (x_ad x 0)), (1, .int x1)]) (L' := [(0, .ref (x_ad x 0)), (1, .int x1)]) [0, 1] rfl ?_
  exact w_X11_written_0 C M x1 _ h hr ev eM

def bl_X11_undo_26 (M : xM) (x1 : Int32) : Option ((xM × Int32) ⊕ (xM)) :=
  if (495 : Int32) ≤ x1 then some (.inr M) else gd (((495 : Int32) * (M 0 13)) + x1) 4950 (gd x1 495 (lt (uM M 4 x1.toNatClampNeg (M 5 (((495 : Int32) * (M 0 13)) + x1).toNatClampNeg)) (fun M_4 => lt (x1 + (1 : Int32)) (fun y_5 => some (.inl (M_4, y_5))))))
set_option maxRecDepth 20000 in
set_option maxHeartbeats 2000000 in
theorem wl_X11_undo_26 {x : xC} (C : CtM x RX11 cX11_undo 2 ({ frames := 0, cells := 0, slots := 0, locals := 0 } : Room)) (M : xM) (x1 : Int32)  (o : (xM × Int32) ⊕ (xM)) (h : bl_X11_undo_26 M x1 = some o) (kh : ∀ s : xM × Int32, o = .inl s → J x s.1 26 [(0, .ref (x_ad x 0)), (1, .int s.2)] []) (ke_0 : ∀ v : xM, o = .inr v → J x v 60 [(0, .ref (x_ad x 0))] []) : J x M 26 [(0, .ref (x_ad x 0)), (1, .int x1)] [] := by
  unfold bl_X11_undo_26 at h
  refine r_iload_n C.1 1 dX11_undo_26 rfl rfl ?_
  refine r_sipush (v := 495) C.1 dX11_undo_27 (by decide) ?_
  refine r_icmp_ge C.1 60 dX11_undo_30 (by decide) (fun c_1 => ?_) (fun c_1 => ?_)
  · replace h := ite_T c_1 h
    exact r_sub [0] rfl (ke_0 _ (Option.some.inj h).symm)
  · replace h := ite_F c_1 h
    refine r_aload_n C.1 0 dX11_undo_33 rfl rfl ?_
    refine gf_X11_19 C dX11_undo_34 ?_
    refine r_iload_n C.1 1 dX11_undo_37 rfl rfl ?_
    refine r_aload_n C.1 0 dX11_undo_38 rfl rfl ?_
    refine gf_X11_22 C dX11_undo_39 ?_
    refine r_sipush (v := 495) C.1 dX11_undo_42 (by decide) ?_
    refine r_aload_n C.1 0 dX11_undo_45 rfl rfl ?_
    refine gf_X11_160 C dX11_undo_46 ?_
    refine r_imul C.1 dX11_undo_49 ?_
    refine r_iload_n C.1 1 dX11_undo_50 rfl rfl ?_
    refine r_iadd C.1 dX11_undo_51 ?_
    obtain ⟨q_2, h⟩ := gd_E h
    refine r_iald C.1 (mK C (by decide)) (mS C (shm_5)) 0 (mT0 C) q_2 dX11_undo_52 ?_
    obtain ⟨q_3, h⟩ := gd_E h
    obtain ⟨M_4, eM_4, h⟩ := lt_E h
    refine r_iast C.1 (mK C (by decide)) (mS C (shm_4)) 0 (mT0 C) q_3 eM_4 dX11_undo_53 ?_
    obtain ⟨y_5, ey_5, h⟩ := lt_E h
    refine r_iinc C.1 1 [(1, .int y_5), (0, .ref (x_ad x 0))] dX11_undo_54 rfl ey_5 (by decide) rfl ?_
    refine r_goto C.1 26 dX11_undo_57 (by decide) ?_
    exact r_sub [1, 0] rfl (kh _ (Option.some.inj h).symm)

def b_X11_undo_26 (M : xM) (x1 : Int32) : Option (Int32 × xM) :=
  bd (loopN (fun s : xM × Int32 => bl_X11_undo_26 s.1 s.2) BG (M, x1)) (fun v => some (v 0 13, v))
set_option maxRecDepth 20000 in
set_option maxHeartbeats 2000000 in
theorem w_X11_undo_26 {x : xC} (C : CtM x RX11 cX11_undo 2 ({ frames := 0, cells := 0, slots := 0, locals := 0 } : Room)) (M : xM) (x1 : Int32)  (o : Int32 × xM) (h : b_X11_undo_26 M x1 = some o) (hr : (x_me x).sig.returnType = some .int) (ev : x_rv x = some (.int o.1)) (eM : x_M x = o.2) : J x M 26 [(0, .ref (x_ad x 0)), (1, .int x1)] [] := by
  unfold b_X11_undo_26 at h
  obtain ⟨r_0, hr_0, h⟩ := bd_E h
  refine loopN_ind (JJ := fun s => J x s.1 26 [(0, .ref (x_ad x 0)), (1, .int s.2)] []) (KX := fun q => q = r_0) ?_ BG (M, x1) r_0 hr_0 rfl
  intro s o1 hb kk1 kk2
  refine wl_X11_undo_26 C s.1 s.2 _ hb kk1 ?_
  · intro v e0
    have e1 := kk2 _ e0
    subst e1
    refine r_aload_n C.1 0 dX11_undo_60 rfl rfl ?_
    refine gf_X11_160 C dX11_undo_61 ?_
    obtain rfl := Option.some.inj h
    exact r_iret C.1 hr ev eM dX11_undo_64

def b_X11_undo_0 (M : xM)  : Option (Int32 × xM) :=
  lt (uM M 0 0 (0 : Int32)) (fun M_1 => if (M_1 0 13) = 0 then some ((-1 : Int32), M_1) else lt (uM M_1 0 13 ((M_1 0 13) - (1 : Int32))) (fun M_3 => b_X11_undo_26 M_3 (0 : Int32)))
set_option maxRecDepth 20000 in
set_option maxHeartbeats 2000000 in
theorem w_X11_undo_0 {x : xC} (C : CtM x RX11 cX11_undo 2 ({ frames := 0, cells := 0, slots := 0, locals := 0 } : Room)) (M : xM)   (o : Int32 × xM) (h : b_X11_undo_0 M = some o) (hr : (x_me x).sig.returnType = some .int) (ev : x_rv x = some (.int o.1)) (eM : x_M x = o.2) : J x M 0 [(0, .ref (x_ad x 0))] [] := by
  unfold b_X11_undo_0 at h
  refine r_aload_n C.1 0 dX11_undo_0 rfl rfl ?_
  refine r_iconst (v := 0) C.1 dX11_undo_1 rfl ?_
  obtain ⟨M_1, eM_1, h⟩ := lt_E h
  refine pf_X11_56 C eM_1 dX11_undo_2 ?_
  refine r_aload_n C.1 0 dX11_undo_5 rfl rfl ?_
  refine gf_X11_160 C dX11_undo_6 ?_
  refine r_if_ne C.1 14 dX11_undo_9 (by decide) (fun c_2 => ?_) (fun c_2 => ?_)
  · replace h := ite_F c_2 h
    refine r_aload_n C.1 0 dX11_undo_14 rfl rfl ?_
    refine r_dup C.1 rfl dX11_undo_15 ?_
    refine gf_X11_160 C dX11_undo_16 ?_
    refine r_iconst (v := 1) C.1 dX11_undo_19 rfl ?_
    refine r_isub C.1 dX11_undo_20 ?_
    obtain ⟨M_3, eM_3, h⟩ := lt_E h
    refine pf_X11_160 C eM_3 dX11_undo_21 ?_
    refine r_iconst (v := 0) C.1 dX11_undo_24 rfl ?_
    refine r_istore_n C.1 [(1, .int (0 : Int32)), (0, .ref (x_ad x 0))] dX11_undo_25 rfl (by decide) rfl rfl ?_
    exact r_sub [1, 0] rfl (w_X11_undo_26 C M_3 (0 : Int32) _ h hr ev eM)
  · replace h := ite_T c_2 h
    refine r_iconst (v := -1) C.1 dX11_undo_12 rfl ?_
    obtain rfl := Option.some.inj h
    exact r_iret C.1 hr ev eM dX11_undo_13
def f_X11_undo (M : xM)  : Option (Int32 × xM) := b_X11_undo_0 M 
set_option maxRecDepth 20000 in
theorem m_X11_undo (l : Launch) (D : va_G) (ad : Nat → Nat) (M : xM)   {r : Int32} {M1 : xM} (h : f_X11_undo M = some (r, M1)) : xMetM l yX11_undo cX11_undo 2 (some .int) ({ frames := 0, cells := 0, slots := 0, locals := 0 } : Room) [.ref (ad 0)] D ad M (some (.int r)) M1 := by
  refine xMetM_of (own := RX11) (by decide) rfl (Nat.le_of_ble_eq_true rfl) ?_
  intro x C e1 e2 e3 ev eM hr
  subst e1; subst e2; subst e3
  refine r_sub (L := [(0, .ref (x_ad x 0))]) (L' := [(0, .ref (x_ad x 0))]) [0] rfl ?_
  exact w_X11_undo_0 C M _ h hr ev eM

def bl_X11_image_7 (M : xM) (x1 : Int32) : Option ((xM × Int32) ⊕ (xM)) :=
  if (495 : Int32) ≤ x1 then some (.inr M) else gd x1 495 (gd x1 495 (lt (uM M 6 x1.toNatClampNeg (M 4 x1.toNatClampNeg)) (fun M_4 => lt (x1 + (1 : Int32)) (fun y_5 => some (.inl (M_4, y_5))))))
set_option maxRecDepth 20000 in
set_option maxHeartbeats 2000000 in
theorem wl_X11_image_7 {x : xC} (C : CtM x RX11 cX11_image 2 ({ frames := 0, cells := 0, slots := 0, locals := 0 } : Room)) (M : xM) (x1 : Int32)  (o : (xM × Int32) ⊕ (xM)) (h : bl_X11_image_7 M x1 = some o) (kh : ∀ s : xM × Int32, o = .inl s → J x s.1 7 [(0, .ref (x_ad x 0)), (1, .int s.2)] []) (ke_0 : ∀ v : xM, o = .inr v → J x v 32 [(0, .ref (x_ad x 0))] []) : J x M 7 [(0, .ref (x_ad x 0)), (1, .int x1)] [] := by
  unfold bl_X11_image_7 at h
  refine r_iload_n C.1 1 dX11_image_7 rfl rfl ?_
  refine r_sipush (v := 495) C.1 dX11_image_8 (by decide) ?_
  refine r_icmp_ge C.1 32 dX11_image_11 (by decide) (fun c_1 => ?_) (fun c_1 => ?_)
  · replace h := ite_T c_1 h
    exact r_sub [0] rfl (ke_0 _ (Option.some.inj h).symm)
  · replace h := ite_F c_1 h
    refine r_aload_n C.1 0 dX11_image_14 rfl rfl ?_
    refine gf_X11_25 C dX11_image_15 ?_
    refine r_iload_n C.1 1 dX11_image_18 rfl rfl ?_
    refine r_aload_n C.1 0 dX11_image_19 rfl rfl ?_
    refine gf_X11_19 C dX11_image_20 ?_
    refine r_iload_n C.1 1 dX11_image_23 rfl rfl ?_
    obtain ⟨q_2, h⟩ := gd_E h
    refine r_iald C.1 (mK C (by decide)) (mS C (shm_4)) 0 (mT0 C) q_2 dX11_image_24 ?_
    obtain ⟨q_3, h⟩ := gd_E h
    obtain ⟨M_4, eM_4, h⟩ := lt_E h
    refine r_iast C.1 (mK C (by decide)) (mS C (shm_6)) 0 (mT0 C) q_3 eM_4 dX11_image_25 ?_
    obtain ⟨y_5, ey_5, h⟩ := lt_E h
    refine r_iinc C.1 1 [(1, .int y_5), (0, .ref (x_ad x 0))] dX11_image_26 rfl ey_5 (by decide) rfl ?_
    refine r_goto C.1 7 dX11_image_29 (by decide) ?_
    exact r_sub [1, 0] rfl (kh _ (Option.some.inj h).symm)

def b_X11_image_7 (M : xM) (x1 : Int32) : Option (Int32 × xM) :=
  bd (loopN (fun s : xM × Int32 => bl_X11_image_7 s.1 s.2) BG (M, x1)) (fun v => lt (uM v 0 15 (1 : Int32)) (fun M_1 => gd (2 : Int32) 495 (some (M_1 4 (2 : Int32).toNatClampNeg, M_1))))
set_option maxRecDepth 20000 in
set_option maxHeartbeats 2000000 in
theorem w_X11_image_7 {x : xC} (C : CtM x RX11 cX11_image 2 ({ frames := 0, cells := 0, slots := 0, locals := 0 } : Room)) (M : xM) (x1 : Int32)  (o : Int32 × xM) (h : b_X11_image_7 M x1 = some o) (hr : (x_me x).sig.returnType = some .int) (ev : x_rv x = some (.int o.1)) (eM : x_M x = o.2) : J x M 7 [(0, .ref (x_ad x 0)), (1, .int x1)] [] := by
  unfold b_X11_image_7 at h
  obtain ⟨r_0, hr_0, h⟩ := bd_E h
  refine loopN_ind (JJ := fun s => J x s.1 7 [(0, .ref (x_ad x 0)), (1, .int s.2)] []) (KX := fun q => q = r_0) ?_ BG (M, x1) r_0 hr_0 rfl
  intro s o1 hb kk1 kk2
  refine wl_X11_image_7 C s.1 s.2 _ hb kk1 ?_
  · intro v e0
    have e1 := kk2 _ e0
    subst e1
    refine r_aload_n C.1 0 dX11_image_32 rfl rfl ?_
    refine r_iconst (v := 1) C.1 dX11_image_33 rfl ?_
    obtain ⟨M_1, eM_1, h⟩ := lt_E h
    refine pf_X11_163 C (by decide) eM_1 dX11_image_34 ?_
    refine r_aload_n C.1 0 dX11_image_37 rfl rfl ?_
    refine gf_X11_19 C dX11_image_38 ?_
    refine r_iconst (v := 2) C.1 dX11_image_41 rfl ?_
    obtain ⟨q_2, h⟩ := gd_E h
    refine r_iald C.1 (mK C (by decide)) (mS C (shm_4)) 0 (mT0 C) q_2 dX11_image_42 ?_
    obtain rfl := Option.some.inj h
    exact r_iret C.1 hr ev eM dX11_image_43

def b_X11_image_0 (M : xM)  : Option (Int32 × xM) :=
  lt (uM M 0 0 (0 : Int32)) (fun M_1 => b_X11_image_7 M_1 (0 : Int32))
set_option maxRecDepth 20000 in
set_option maxHeartbeats 2000000 in
theorem w_X11_image_0 {x : xC} (C : CtM x RX11 cX11_image 2 ({ frames := 0, cells := 0, slots := 0, locals := 0 } : Room)) (M : xM)   (o : Int32 × xM) (h : b_X11_image_0 M = some o) (hr : (x_me x).sig.returnType = some .int) (ev : x_rv x = some (.int o.1)) (eM : x_M x = o.2) : J x M 0 [(0, .ref (x_ad x 0))] [] := by
  unfold b_X11_image_0 at h
  refine r_aload_n C.1 0 dX11_image_0 rfl rfl ?_
  refine r_iconst (v := 0) C.1 dX11_image_1 rfl ?_
  obtain ⟨M_1, eM_1, h⟩ := lt_E h
  refine pf_X11_56 C eM_1 dX11_image_2 ?_
  refine r_iconst (v := 0) C.1 dX11_image_5 rfl ?_
  refine r_istore_n C.1 [(1, .int (0 : Int32)), (0, .ref (x_ad x 0))] dX11_image_6 rfl (by decide) rfl rfl ?_
  exact r_sub [1, 0] rfl (w_X11_image_7 C M_1 (0 : Int32) _ h hr ev eM)
def f_X11_image (M : xM)  : Option (Int32 × xM) := b_X11_image_0 M 
set_option maxRecDepth 20000 in
theorem m_X11_image (l : Launch) (D : va_G) (ad : Nat → Nat) (M : xM)   {r : Int32} {M1 : xM} (h : f_X11_image M = some (r, M1)) : xMetM l yX11_image cX11_image 2 (some .int) ({ frames := 0, cells := 0, slots := 0, locals := 0 } : Room) [.ref (ad 0)] D ad M (some (.int r)) M1 := by
  refine xMetM_of (own := RX11) (by decide) rfl (Nat.le_of_ble_eq_true rfl) ?_
  intro x C e1 e2 e3 ev eM hr
  subst e1; subst e2; subst e3
  refine r_sub (L := [(0, .ref (x_ad x 0))]) (L' := [(0, .ref (x_ad x 0))]) [0] rfl ?_
  exact w_X11_image_0 C M _ h hr ev eM

def bl_X11_back_16 (M : xM) (x1 : Int32) : Option ((xM × Int32) ⊕ (xM)) :=
  if (495 : Int32) ≤ x1 then some (.inr M) else gd x1 495 (gd x1 495 (lt (uM M 4 x1.toNatClampNeg (M 6 x1.toNatClampNeg)) (fun M_4 => lt (x1 + (1 : Int32)) (fun y_5 => some (.inl (M_4, y_5))))))
set_option maxRecDepth 20000 in
set_option maxHeartbeats 2000000 in
theorem wl_X11_back_16 {x : xC} (C : CtM x RX11 cX11_back 2 ({ frames := 0, cells := 0, slots := 0, locals := 0 } : Room)) (M : xM) (x1 : Int32)  (o : (xM × Int32) ⊕ (xM)) (h : bl_X11_back_16 M x1 = some o) (kh : ∀ s : xM × Int32, o = .inl s → J x s.1 16 [(0, .ref (x_ad x 0)), (1, .int s.2)] []) (ke_0 : ∀ v : xM, o = .inr v → J x v 41 [(0, .ref (x_ad x 0))] []) : J x M 16 [(0, .ref (x_ad x 0)), (1, .int x1)] [] := by
  unfold bl_X11_back_16 at h
  refine r_iload_n C.1 1 dX11_back_16 rfl rfl ?_
  refine r_sipush (v := 495) C.1 dX11_back_17 (by decide) ?_
  refine r_icmp_ge C.1 41 dX11_back_20 (by decide) (fun c_1 => ?_) (fun c_1 => ?_)
  · replace h := ite_T c_1 h
    exact r_sub [0] rfl (ke_0 _ (Option.some.inj h).symm)
  · replace h := ite_F c_1 h
    refine r_aload_n C.1 0 dX11_back_23 rfl rfl ?_
    refine gf_X11_19 C dX11_back_24 ?_
    refine r_iload_n C.1 1 dX11_back_27 rfl rfl ?_
    refine r_aload_n C.1 0 dX11_back_28 rfl rfl ?_
    refine gf_X11_25 C dX11_back_29 ?_
    refine r_iload_n C.1 1 dX11_back_32 rfl rfl ?_
    obtain ⟨q_2, h⟩ := gd_E h
    refine r_iald C.1 (mK C (by decide)) (mS C (shm_6)) 0 (mT0 C) q_2 dX11_back_33 ?_
    obtain ⟨q_3, h⟩ := gd_E h
    obtain ⟨M_4, eM_4, h⟩ := lt_E h
    refine r_iast C.1 (mK C (by decide)) (mS C (shm_4)) 0 (mT0 C) q_3 eM_4 dX11_back_34 ?_
    obtain ⟨y_5, ey_5, h⟩ := lt_E h
    refine r_iinc C.1 1 [(1, .int y_5), (0, .ref (x_ad x 0))] dX11_back_35 rfl ey_5 (by decide) rfl ?_
    refine r_goto C.1 16 dX11_back_38 (by decide) ?_
    exact r_sub [1, 0] rfl (kh _ (Option.some.inj h).symm)

def b_X11_back_16 (M : xM) (x1 : Int32) : Option (Int32 × xM) :=
  bd (loopN (fun s : xM × Int32 => bl_X11_back_16 s.1 s.2) BG (M, x1)) (fun v => lt (uM v 0 13 (0 : Int32)) (fun M_1 => gd (2 : Int32) 495 (some (M_1 4 (2 : Int32).toNatClampNeg, M_1))))
set_option maxRecDepth 20000 in
set_option maxHeartbeats 2000000 in
theorem w_X11_back_16 {x : xC} (C : CtM x RX11 cX11_back 2 ({ frames := 0, cells := 0, slots := 0, locals := 0 } : Room)) (M : xM) (x1 : Int32)  (o : Int32 × xM) (h : b_X11_back_16 M x1 = some o) (hr : (x_me x).sig.returnType = some .int) (ev : x_rv x = some (.int o.1)) (eM : x_M x = o.2) : J x M 16 [(0, .ref (x_ad x 0)), (1, .int x1)] [] := by
  unfold b_X11_back_16 at h
  obtain ⟨r_0, hr_0, h⟩ := bd_E h
  refine loopN_ind (JJ := fun s => J x s.1 16 [(0, .ref (x_ad x 0)), (1, .int s.2)] []) (KX := fun q => q = r_0) ?_ BG (M, x1) r_0 hr_0 rfl
  intro s o1 hb kk1 kk2
  refine wl_X11_back_16 C s.1 s.2 _ hb kk1 ?_
  · intro v e0
    have e1 := kk2 _ e0
    subst e1
    refine r_aload_n C.1 0 dX11_back_41 rfl rfl ?_
    refine r_iconst (v := 0) C.1 dX11_back_42 rfl ?_
    obtain ⟨M_1, eM_1, h⟩ := lt_E h
    refine pf_X11_160 C eM_1 dX11_back_43 ?_
    refine r_aload_n C.1 0 dX11_back_46 rfl rfl ?_
    refine gf_X11_19 C dX11_back_47 ?_
    refine r_iconst (v := 2) C.1 dX11_back_50 rfl ?_
    obtain ⟨q_2, h⟩ := gd_E h
    refine r_iald C.1 (mK C (by decide)) (mS C (shm_4)) 0 (mT0 C) q_2 dX11_back_51 ?_
    obtain rfl := Option.some.inj h
    exact r_iret C.1 hr ev eM dX11_back_52

def b_X11_back_0 (M : xM)  : Option (Int32 × xM) :=
  lt (uM M 0 0 (0 : Int32)) (fun M_1 => if (M_1 0 15) = 0 then some ((-1 : Int32), M_1) else b_X11_back_16 M_1 (0 : Int32))
set_option maxRecDepth 20000 in
set_option maxHeartbeats 2000000 in
theorem w_X11_back_0 {x : xC} (C : CtM x RX11 cX11_back 2 ({ frames := 0, cells := 0, slots := 0, locals := 0 } : Room)) (M : xM)   (o : Int32 × xM) (h : b_X11_back_0 M = some o) (hr : (x_me x).sig.returnType = some .int) (ev : x_rv x = some (.int o.1)) (eM : x_M x = o.2) : J x M 0 [(0, .ref (x_ad x 0))] [] := by
  unfold b_X11_back_0 at h
  refine r_aload_n C.1 0 dX11_back_0 rfl rfl ?_
  refine r_iconst (v := 0) C.1 dX11_back_1 rfl ?_
  obtain ⟨M_1, eM_1, h⟩ := lt_E h
  refine pf_X11_56 C eM_1 dX11_back_2 ?_
  refine r_aload_n C.1 0 dX11_back_5 rfl rfl ?_
  refine gf_X11_163 C dX11_back_6 ?_
  refine r_if_ne C.1 14 dX11_back_9 (by decide) (fun c_2 => ?_) (fun c_2 => ?_)
  · replace h := ite_F c_2 h
    refine r_iconst (v := 0) C.1 dX11_back_14 rfl ?_
    refine r_istore_n C.1 [(1, .int (0 : Int32)), (0, .ref (x_ad x 0))] dX11_back_15 rfl (by decide) rfl rfl ?_
    exact r_sub [1, 0] rfl (w_X11_back_16 C M_1 (0 : Int32) _ h hr ev eM)
  · replace h := ite_T c_2 h
    refine r_iconst (v := -1) C.1 dX11_back_12 rfl ?_
    obtain rfl := Option.some.inj h
    exact r_iret C.1 hr ev eM dX11_back_13
def f_X11_back (M : xM)  : Option (Int32 × xM) := b_X11_back_0 M 
set_option maxRecDepth 20000 in
theorem m_X11_back (l : Launch) (D : va_G) (ad : Nat → Nat) (M : xM)   {r : Int32} {M1 : xM} (h : f_X11_back M = some (r, M1)) : xMetM l yX11_back cX11_back 2 (some .int) ({ frames := 0, cells := 0, slots := 0, locals := 0 } : Room) [.ref (ad 0)] D ad M (some (.int r)) M1 := by
  refine xMetM_of (own := RX11) (by decide) rfl (Nat.le_of_ble_eq_true rfl) ?_
  intro x C e1 e2 e3 ev eM hr
  subst e1; subst e2; subst e3
  refine r_sub (L := [(0, .ref (x_ad x 0))]) (L' := [(0, .ref (x_ad x 0))]) [0] rfl ?_
  exact w_X11_back_0 C M _ h hr ev eM

def b_X11_status_27 (M : xM) (s0 : Int32) : Option (Int32 × xM) :=
  some (s0, M)
set_option maxRecDepth 20000 in
set_option maxHeartbeats 2000000 in
theorem w_X11_status_27 {x : xC} (C : CtM x RX11 cX11_status 2 ({ frames := 1, cells := 0, slots := 0, locals := 25 } : Room)) (M : xM) (s0 : Int32)  (o : Int32 × xM) (h : b_X11_status_27 M s0 = some o) (hr : (x_me x).sig.returnType = some .int) (ev : x_rv x = some (.int o.1)) (eM : x_M x = o.2) : J x M 27 [] [.int s0] := by
  unfold b_X11_status_27 at h
  obtain rfl := Option.some.inj h
  exact r_iret C.1 hr ev eM dX11_status_27

def b_X11_status_0 (M : xM) (x1 : Int32) : Option (Int32 × xM) :=
  lt (uM M 0 0 (0 : Int32)) (fun M_1 => bd (f_X11_in M_1 x1.toInt64 (0 : Int64) (4 : Int64)) (fun r_2 => if r_2 = 0 then b_X11_status_27 M_1 (-1 : Int32) else gd x1 5 (b_X11_status_27 M_1 (M_1 7 x1.toNatClampNeg))))
set_option maxRecDepth 20000 in
set_option maxHeartbeats 2000000 in
theorem w_X11_status_0 {x : xC} (C : CtM x RX11 cX11_status 2 ({ frames := 1, cells := 0, slots := 0, locals := 25 } : Room)) (M : xM) (x1 : Int32)  (o : Int32 × xM) (h : b_X11_status_0 M x1 = some o) (hr : (x_me x).sig.returnType = some .int) (ev : x_rv x = some (.int o.1)) (eM : x_M x = o.2) : J x M 0 [(0, .ref (x_ad x 0)), (1, .int x1)] [] := by
  unfold b_X11_status_0 at h
  refine r_aload_n C.1 0 dX11_status_0 rfl rfl ?_
  refine r_iconst (v := 0) C.1 dX11_status_1 rfl ?_
  obtain ⟨M_1, eM_1, h⟩ := lt_E h
  refine pf_X11_56 C eM_1 dX11_status_2 ?_
  refine r_iload_n C.1 1 dX11_status_5 rfl rfl ?_
  refine r_i2l C.1 dX11_status_6 ?_
  refine r_lconst (v := 0) C.1 dX11_status_7 rfl ?_
  refine r_ldc2 (v := 4) C.1 kw_1827 dX11_status_8 ?_
  obtain ⟨r_2, hc_3, h⟩ := bd_E h
  refine cl_X11_67 C ⟨Nat.le_of_ble_eq_true rfl, Nat.le_of_ble_eq_true rfl⟩ (m_X11_in _ _ _ M_1 x1.toInt64 (0 : Int64) (4 : Int64) hc_3) (Nat.le_of_ble_eq_true rfl) dX11_status_11 ?_
  refine r_if_eq C.1 26 dX11_status_14 (by decide) (fun c_4 => ?_) (fun c_4 => ?_)
  · replace h := ite_T c_4 h
    refine r_iconst (v := -1) C.1 dX11_status_26 rfl ?_
    exact r_sub [] rfl (w_X11_status_27 C M_1 (-1 : Int32) _ h hr ev eM)
  · replace h := ite_F c_4 h
    refine r_aload_n C.1 0 dX11_status_17 rfl rfl ?_
    refine gf_X11_28 C dX11_status_18 ?_
    refine r_iload_n C.1 1 dX11_status_21 rfl rfl ?_
    obtain ⟨q_5, h⟩ := gd_E h
    refine r_iald C.1 (mK C (by decide)) (mS C (shm_7)) 0 (mT0 C) q_5 dX11_status_22 ?_
    refine r_goto C.1 27 dX11_status_23 (by decide) ?_
    exact r_sub [] rfl (w_X11_status_27 C M_1 (M_1 7 x1.toNatClampNeg) _ h hr ev eM)
def f_X11_status (M : xM) (x1 : Int32) : Option (Int32 × xM) := b_X11_status_0 M x1
set_option maxRecDepth 20000 in
theorem m_X11_status (l : Launch) (D : va_G) (ad : Nat → Nat) (M : xM) (x1 : Int32)  {r : Int32} {M1 : xM} (h : f_X11_status M x1 = some (r, M1)) : xMetM l yX11_status cX11_status 2 (some .int) ({ frames := 1, cells := 0, slots := 0, locals := 25 } : Room) [.ref (ad 0), .int x1] D ad M (some (.int r)) M1 := by
  refine xMetM_of (own := RX11) (by decide) rfl (Nat.le_of_ble_eq_true rfl) ?_
  intro x C e1 e2 e3 ev eM hr
  subst e1; subst e2; subst e3
  refine r_sub (L := [(0, .ref (x_ad x 0)), (1, .int x1)]) (L' := [(0, .ref (x_ad x 0)), (1, .int x1)]) [0, 1] rfl ?_
  exact w_X11_status_0 C M x1 _ h hr ev eM

def b_X11_worthOn_42 (M : xM) (s0 : Int32) : Option (Int32 × xM) :=
  some (s0, M)
set_option maxRecDepth 20000 in
set_option maxHeartbeats 2000000 in
theorem w_X11_worthOn_42 {x : xC} (C : CtM x RX11 cX11_worthOn 4 ({ frames := 10, cells := 0, slots := 0, locals := 223 } : Room)) (M : xM) (s0 : Int32)  (o : Int32 × xM) (h : b_X11_worthOn_42 M s0 = some o) (hr : (x_me x).sig.returnType = some .int) (ev : x_rv x = some (.int o.1)) (eM : x_M x = o.2) : J x M 42 [] [.int s0] := by
  unfold b_X11_worthOn_42 at h
  obtain rfl := Option.some.inj h
  exact r_iret C.1 hr ev eM dX11_worthOn_42

def b_X11_worthOn_0 (M : xM) (x1 : Int32) (x2 : Int32) (x3 : Int32) : Option (Int32 × xM) :=
  if x3 = 0 then bd (f_X11_lays M) (fun M_11 => bd (f_X11_moneyOn M_11 x1 x2) (fun r_12 => bd (f_X11_outOn M_11 x1 x2) (fun r_14 => some (r_12 + r_14, M_11)))) else if x3 = (1 : Int32) then bd2 (f_X11_idleOn M x1 x2) (fun r_6 M_8 => b_X11_worthOn_42 M_8 r_6) else bd2 (f_X11_shortOf M x1 x2) (fun r_3 M_5 => b_X11_worthOn_42 M_5 r_3)
set_option maxRecDepth 20000 in
set_option maxHeartbeats 2000000 in
theorem w_X11_worthOn_0 {x : xC} (C : CtM x RX11 cX11_worthOn 4 ({ frames := 10, cells := 0, slots := 0, locals := 223 } : Room)) (M : xM) (x1 : Int32) (x2 : Int32) (x3 : Int32)  (o : Int32 × xM) (h : b_X11_worthOn_0 M x1 x2 x3 = some o) (hr : (x_me x).sig.returnType = some .int) (ev : x_rv x = some (.int o.1)) (eM : x_M x = o.2) : J x M 0 [(0, .ref (x_ad x 0)), (1, .int x1), (2, .int x2), (3, .int x3)] [] := by
  unfold b_X11_worthOn_0 at h
  refine r_iload_n C.1 3 dX11_worthOn_0 rfl rfl ?_
  refine r_if_ne C.1 22 dX11_worthOn_1 (by decide) (fun c_1 => ?_) (fun c_1 => ?_)
  · replace h := ite_F c_1 h
    refine r_iload_n C.1 3 dX11_worthOn_22 rfl rfl ?_
    refine r_iconst (v := 1) C.1 dX11_worthOn_23 rfl ?_
    refine r_icmp_ne C.1 36 dX11_worthOn_24 (by decide) (fun c_2 => ?_) (fun c_2 => ?_)
    · replace h := ite_F c_2 h
      refine r_aload_n C.1 0 dX11_worthOn_36 rfl rfl ?_
      refine r_iload_n C.1 1 dX11_worthOn_37 rfl rfl ?_
      refine r_iload_n C.1 2 dX11_worthOn_38 rfl rfl ?_
      obtain ⟨r_3, M_5, hc_4, h⟩ := bd2_E h
      refine cl_X11_366 C ⟨Nat.le_of_ble_eq_true rfl, Nat.le_of_ble_eq_true rfl⟩ (m_X11_shortOf _ _ _ M x1 x2 hc_4) (Nat.le_of_ble_eq_true rfl) dX11_worthOn_39 ?_
      exact r_sub [] rfl (w_X11_worthOn_42 C M_5 r_3 _ h hr ev eM)
    · replace h := ite_T c_2 h
      refine r_aload_n C.1 0 dX11_worthOn_27 rfl rfl ?_
      refine r_iload_n C.1 1 dX11_worthOn_28 rfl rfl ?_
      refine r_iload_n C.1 2 dX11_worthOn_29 rfl rfl ?_
      obtain ⟨r_6, M_8, hc_7, h⟩ := bd2_E h
      refine cl_X11_312 C ⟨Nat.le_of_ble_eq_true rfl, Nat.le_of_ble_eq_true rfl⟩ (m_X11_idleOn _ _ _ M x1 x2 hc_7) (Nat.le_of_ble_eq_true rfl) dX11_worthOn_30 ?_
      refine r_goto C.1 42 dX11_worthOn_33 (by decide) ?_
      exact r_sub [] rfl (w_X11_worthOn_42 C M_8 r_6 _ h hr ev eM)
  · replace h := ite_T c_1 h
    refine r_aload_n C.1 0 dX11_worthOn_4 rfl rfl ?_
    obtain ⟨M_11, hc_10, h⟩ := bd_E h
    refine cl_X11_221 C ⟨Nat.le_of_ble_eq_true rfl, Nat.le_of_ble_eq_true rfl⟩ (m_X11_lays _ _ _ M hc_10) (Nat.le_of_ble_eq_true rfl) dX11_worthOn_5 ?_
    refine r_aload_n C.1 0 dX11_worthOn_8 rfl rfl ?_
    refine r_iload_n C.1 1 dX11_worthOn_9 rfl rfl ?_
    refine r_iload_n C.1 2 dX11_worthOn_10 rfl rfl ?_
    obtain ⟨r_12, hc_13, h⟩ := bd_E h
    refine cl_X11_290 C ⟨Nat.le_of_ble_eq_true rfl, Nat.le_of_ble_eq_true rfl⟩ (m_X11_moneyOn _ _ _ M_11 x1 x2 hc_13) (Nat.le_of_ble_eq_true rfl) dX11_worthOn_11 ?_
    refine r_aload_n C.1 0 dX11_worthOn_14 rfl rfl ?_
    refine r_iload_n C.1 1 dX11_worthOn_15 rfl rfl ?_
    refine r_iload_n C.1 2 dX11_worthOn_16 rfl rfl ?_
    obtain ⟨r_14, hc_15, h⟩ := bd_E h
    refine cl_X11_293 C ⟨Nat.le_of_ble_eq_true rfl, Nat.le_of_ble_eq_true rfl⟩ (m_X11_outOn _ _ _ M_11 x1 x2 hc_15) (Nat.le_of_ble_eq_true rfl) dX11_worthOn_17 ?_
    refine r_iadd C.1 dX11_worthOn_20 ?_
    obtain rfl := Option.some.inj h
    exact r_iret C.1 hr ev eM dX11_worthOn_21
def f_X11_worthOn (M : xM) (x1 : Int32) (x2 : Int32) (x3 : Int32) : Option (Int32 × xM) := b_X11_worthOn_0 M x1 x2 x3
set_option maxRecDepth 20000 in
theorem m_X11_worthOn (l : Launch) (D : va_G) (ad : Nat → Nat) (M : xM) (x1 : Int32) (x2 : Int32) (x3 : Int32)  {r : Int32} {M1 : xM} (h : f_X11_worthOn M x1 x2 x3 = some (r, M1)) : xMetM l yX11_worthOn cX11_worthOn 4 (some .int) ({ frames := 10, cells := 0, slots := 0, locals := 223 } : Room) [.ref (ad 0), .int x1, .int x2, .int x3] D ad M (some (.int r)) M1 := by
  refine xMetM_of (own := RX11) (by decide) rfl (Nat.le_of_ble_eq_true rfl) ?_
  intro x C e1 e2 e3 ev eM hr
  subst e1; subst e2; subst e3
  refine r_sub (L := [(0, .ref (x_ad x 0)), (1, .int x1), (2, .int x2), (3, .int x3)]) (L' := [(0, .ref (x_ad x 0)), (1, .int x1), (2, .int x2), (3, .int x3)]) [0, 1, 2, 3] rfl ?_
  exact w_X11_worthOn_0 C M x1 x2 x3 _ h hr ev eM

def b_X11_most_24 (M : xM)  : Option (Int32 × xM) :=
  some ((-1 : Int32), M)
set_option maxRecDepth 20000 in
set_option maxHeartbeats 2000000 in
theorem w_X11_most_24 {x : xC} (C : CtM x RX11 cX11_most 7 ({ frames := 11, cells := 0, slots := 0, locals := 246 } : Room)) (M : xM)   (o : Int32 × xM) (h : b_X11_most_24 M = some o) (hr : (x_me x).sig.returnType = some .int) (ev : x_rv x = some (.int o.1)) (eM : x_M x = o.2) : J x M 24 [] [] := by
  unfold b_X11_most_24 at h
  refine r_iconst (v := -1) C.1 dX11_most_24 rfl ?_
  obtain rfl := Option.some.inj h
  exact r_iret C.1 hr ev eM dX11_most_25

def b_X11_most_96 (M : xM) (x1 : Int32) (x2 : Int32) (x3 : Int32) (x5 : Int32) (s0 : Int32) : Option ((xM × Int32 × Int32 × Int32) ⊕ (xM × Int32)) :=
  lt (x5 + (1 : Int32)) (fun y_1 => some (.inl (M, x3, s0, y_1)))
set_option maxRecDepth 20000 in
set_option maxHeartbeats 2000000 in
theorem w_X11_most_96 {x : xC} (C : CtM x RX11 cX11_most 7 ({ frames := 11, cells := 0, slots := 0, locals := 246 } : Room)) (M : xM) (x1 : Int32) (x2 : Int32) (x3 : Int32) (x5 : Int32) (s0 : Int32)  (o : (xM × Int32 × Int32 × Int32) ⊕ (xM × Int32)) (h : b_X11_most_96 M x1 x2 x3 x5 s0 = some o) (kh : ∀ s : xM × Int32 × Int32 × Int32, o = .inl s → J x s.1 34 [(0, .ref (x_ad x 0)), (1, .int x1), (2, .int x2), (3, .int s.2.1), (4, .int s.2.2.1), (5, .int s.2.2.2)] []) (ke_0 : ∀ v : xM × Int32, o = .inr v → J x v.1 104 [(3, .int v.2)] []) : J x M 96 [(0, .ref (x_ad x 0)), (1, .int x1), (2, .int x2), (3, .int x3), (5, .int x5)] [.int s0] := by
  unfold b_X11_most_96 at h
  refine r_istore C.1 [(4, .int s0), (0, .ref (x_ad x 0)), (1, .int x1), (2, .int x2), (3, .int x3), (5, .int x5)] dX11_most_96 (by decide) rfl rfl ?_
  obtain ⟨y_1, ey_1, h⟩ := lt_E h
  refine r_iinc C.1 5 [(5, .int y_1), (4, .int s0), (0, .ref (x_ad x 0)), (1, .int x1), (2, .int x2), (3, .int x3)] dX11_most_98 rfl ey_1 (by decide) rfl ?_
  refine r_goto C.1 34 dX11_most_101 (by decide) ?_
  exact r_sub [2, 3, 4, 5, 1, 0] rfl (kh _ (Option.some.inj h).symm)

def b_X11_most_82 (M : xM) (x1 : Int32) (x2 : Int32) (x4 : Int32) (x5 : Int32) (x6 : Int32) (s0 : Int32) : Option ((xM × Int32 × Int32 × Int32) ⊕ (xM × Int32)) :=
  if s0 = x5 then b_X11_most_96 M x1 x2 s0 x5 x6 else b_X11_most_96 M x1 x2 s0 x5 x4
set_option maxRecDepth 20000 in
set_option maxHeartbeats 2000000 in
theorem w_X11_most_82 {x : xC} (C : CtM x RX11 cX11_most 7 ({ frames := 11, cells := 0, slots := 0, locals := 246 } : Room)) (M : xM) (x1 : Int32) (x2 : Int32) (x4 : Int32) (x5 : Int32) (x6 : Int32) (s0 : Int32)  (o : (xM × Int32 × Int32 × Int32) ⊕ (xM × Int32)) (h : b_X11_most_82 M x1 x2 x4 x5 x6 s0 = some o) (kh : ∀ s : xM × Int32 × Int32 × Int32, o = .inl s → J x s.1 34 [(0, .ref (x_ad x 0)), (1, .int x1), (2, .int x2), (3, .int s.2.1), (4, .int s.2.2.1), (5, .int s.2.2.2)] []) (ke_0 : ∀ v : xM × Int32, o = .inr v → J x v.1 104 [(3, .int v.2)] []) : J x M 82 [(0, .ref (x_ad x 0)), (1, .int x1), (2, .int x2), (4, .int x4), (5, .int x5), (6, .int x6)] [.int s0] := by
  unfold b_X11_most_82 at h
  refine r_istore_n C.1 [(3, .int s0), (0, .ref (x_ad x 0)), (1, .int x1), (2, .int x2), (4, .int x4), (5, .int x5), (6, .int x6)] dX11_most_82 rfl (by decide) rfl rfl ?_
  refine r_iload_n C.1 0 dX11_most_83 rfl rfl ?_
  refine r_iload C.1 5 dX11_most_84 rfl ?_
  refine r_icmp_ne C.1 94 dX11_most_86 (by decide) (fun c_1 => ?_) (fun c_1 => ?_)
  · replace h := ite_F c_1 h
    refine r_iload C.1 4 dX11_most_94 rfl ?_
    exact r_sub [1, 2, 3, 0, 5] rfl (w_X11_most_96 C M x1 x2 s0 x5 x4 _ h kh ke_0)
  · replace h := ite_T c_1 h
    refine r_iload C.1 6 dX11_most_89 rfl ?_
    refine r_goto C.1 96 dX11_most_91 (by decide) ?_
    exact r_sub [1, 2, 3, 0, 5] rfl (w_X11_most_96 C M x1 x2 s0 x5 x6 _ h kh ke_0)

def b_X11_most_76 (M : xM) (x1 : Int32) (x2 : Int32) (x4 : Int32) (x5 : Int32) (x6 : Int32) : Option ((xM × Int32 × Int32 × Int32) ⊕ (xM × Int32)) :=
  b_X11_most_82 M x1 x2 x4 x5 x6 x5
set_option maxRecDepth 20000 in
set_option maxHeartbeats 2000000 in
theorem w_X11_most_76 {x : xC} (C : CtM x RX11 cX11_most 7 ({ frames := 11, cells := 0, slots := 0, locals := 246 } : Room)) (M : xM) (x1 : Int32) (x2 : Int32) (x4 : Int32) (x5 : Int32) (x6 : Int32)  (o : (xM × Int32 × Int32 × Int32) ⊕ (xM × Int32)) (h : b_X11_most_76 M x1 x2 x4 x5 x6 = some o) (kh : ∀ s : xM × Int32 × Int32 × Int32, o = .inl s → J x s.1 34 [(0, .ref (x_ad x 0)), (1, .int x1), (2, .int x2), (3, .int s.2.1), (4, .int s.2.2.1), (5, .int s.2.2.2)] []) (ke_0 : ∀ v : xM × Int32, o = .inr v → J x v.1 104 [(3, .int v.2)] []) : J x M 76 [(0, .ref (x_ad x 0)), (1, .int x1), (2, .int x2), (4, .int x4), (5, .int x5), (6, .int x6)] [] := by
  unfold b_X11_most_76 at h
  refine r_iload C.1 4 dX11_most_76 rfl ?_
  refine r_goto C.1 82 dX11_most_78 (by decide) ?_
  exact r_sub [0, 1, 2, 3, 4, 5] rfl (w_X11_most_82 C M x1 x2 x4 x5 x6 x5 _ h kh ke_0)

def b_X11_most_50 (M : xM) (x1 : Int32) (x2 : Int32) (x3 : Int32) (x4 : Int32) (x5 : Int32) (s0 : Int32) (s2 : Int32) : Option ((xM × Int32 × Int32 × Int32) ⊕ (xM × Int32)) :=
  gd s0 495 (if (M 4 s0.toNatClampNeg) ≤ s2 then some (.inr (M, x3)) else bd2 (f_X11_worthOn M x5 x1 x2) (fun r_3 M_5 => if x3 = (-1 : Int32) then b_X11_most_76 M_5 x1 x2 x4 x5 r_3 else if r_3 ≤ x4 then b_X11_most_82 M_5 x1 x2 x4 x5 r_3 x3 else b_X11_most_76 M_5 x1 x2 x4 x5 r_3))
set_option maxRecDepth 20000 in
set_option maxHeartbeats 2000000 in
theorem w_X11_most_50 {x : xC} (C : CtM x RX11 cX11_most 7 ({ frames := 11, cells := 0, slots := 0, locals := 246 } : Room)) (M : xM) (x1 : Int32) (x2 : Int32) (x3 : Int32) (x4 : Int32) (x5 : Int32) (s0 : Int32) (s2 : Int32)  (o : (xM × Int32 × Int32 × Int32) ⊕ (xM × Int32)) (h : b_X11_most_50 M x1 x2 x3 x4 x5 s0 s2 = some o) (kh : ∀ s : xM × Int32 × Int32 × Int32, o = .inl s → J x s.1 34 [(0, .ref (x_ad x 0)), (1, .int x1), (2, .int x2), (3, .int s.2.1), (4, .int s.2.2.1), (5, .int s.2.2.2)] []) (ke_0 : ∀ v : xM × Int32, o = .inr v → J x v.1 104 [(3, .int v.2)] []) : J x M 50 [(0, .ref (x_ad x 0)), (1, .int x1), (2, .int x2), (3, .int x3), (4, .int x4), (5, .int x5)] [.int s0, .ref (x_ad x 4), .int s2] := by
  unfold b_X11_most_50 at h
  obtain ⟨q_1, h⟩ := gd_E h
  refine r_iald C.1 (mK C (by decide)) (mS C (shm_4)) 0 (mT0 C) q_1 dX11_most_50 ?_
  refine r_icmp_ge C.1 104 dX11_most_51 (by decide) (fun c_2 => ?_) (fun c_2 => ?_)
  · replace h := ite_T c_2 h
    exact r_sub [3] rfl (ke_0 _ (Option.some.inj h).symm)
  · replace h := ite_F c_2 h
    refine r_aload_n C.1 0 dX11_most_54 rfl rfl ?_
    refine r_iload C.1 5 dX11_most_55 rfl ?_
    refine r_iload_n C.1 1 dX11_most_57 rfl rfl ?_
    refine r_iload_n C.1 2 dX11_most_58 rfl rfl ?_
    obtain ⟨r_3, M_5, hc_4, h⟩ := bd2_E h
    refine cl_X11_395 C ⟨Nat.le_of_ble_eq_true rfl, Nat.le_of_ble_eq_true rfl⟩ (m_X11_worthOn _ _ _ M x5 x1 x2 hc_4) (Nat.le_of_ble_eq_true rfl) dX11_most_59 ?_
    refine r_istore C.1 [(6, .int r_3), (0, .ref (x_ad x 0)), (1, .int x1), (2, .int x2), (3, .int x3), (4, .int x4), (5, .int x5)] dX11_most_62 (by decide) rfl rfl ?_
    refine r_iload_n C.1 4 dX11_most_64 rfl rfl ?_
    refine r_iconst (v := -1) C.1 dX11_most_65 rfl ?_
    refine r_icmp_eq C.1 76 dX11_most_66 (by decide) (fun c_6 => ?_) (fun c_6 => ?_)
    · replace h := ite_T c_6 h
      exact r_sub [1, 2, 3, 5, 6, 0] rfl (w_X11_most_76 C M_5 x1 x2 x4 x5 r_3 _ h kh ke_0)
    · replace h := ite_F c_6 h
      refine r_iload C.1 0 dX11_most_69 rfl ?_
      refine r_iload C.1 5 dX11_most_71 rfl ?_
      refine r_icmp_le C.1 81 dX11_most_73 (by decide) (fun c_7 => ?_) (fun c_7 => ?_)
      · replace h := ite_T c_7 h
        refine r_iload_n C.1 4 dX11_most_81 rfl rfl ?_
        exact r_sub [1, 2, 3, 5, 6, 0] rfl (w_X11_most_82 C M_5 x1 x2 x4 x5 r_3 x3 _ h kh ke_0)
      · replace h := ite_F c_7 h
        exact r_sub [1, 2, 3, 5, 6, 0] rfl (w_X11_most_76 C M_5 x1 x2 x4 x5 r_3 _ h kh ke_0)

def bl_X11_most_34 (M : xM) (x1 : Int32) (x2 : Int32) (x3 : Int32) (x4 : Int32) (x5 : Int32) : Option ((xM × Int32 × Int32 × Int32) ⊕ (xM × Int32)) :=
  if x2 = (2 : Int32) then b_X11_most_50 M x1 x2 x3 x4 x5 (0 : Int32) x5 else b_X11_most_50 M x1 x2 x3 x4 x5 (1 : Int32) x5
set_option maxRecDepth 20000 in
set_option maxHeartbeats 2000000 in
theorem wl_X11_most_34 {x : xC} (C : CtM x RX11 cX11_most 7 ({ frames := 11, cells := 0, slots := 0, locals := 246 } : Room)) (M : xM) (x1 : Int32) (x2 : Int32) (x3 : Int32) (x4 : Int32) (x5 : Int32)  (o : (xM × Int32 × Int32 × Int32) ⊕ (xM × Int32)) (h : bl_X11_most_34 M x1 x2 x3 x4 x5 = some o) (kh : ∀ s : xM × Int32 × Int32 × Int32, o = .inl s → J x s.1 34 [(0, .ref (x_ad x 0)), (1, .int x1), (2, .int x2), (3, .int s.2.1), (4, .int s.2.2.1), (5, .int s.2.2.2)] []) (ke_0 : ∀ v : xM × Int32, o = .inr v → J x v.1 104 [(3, .int v.2)] []) : J x M 34 [(0, .ref (x_ad x 0)), (1, .int x1), (2, .int x2), (3, .int x3), (4, .int x4), (5, .int x5)] [] := by
  unfold bl_X11_most_34 at h
  refine r_iload C.1 5 dX11_most_34 rfl ?_
  refine r_aload_n C.1 0 dX11_most_36 rfl rfl ?_
  refine gf_X11_19 C dX11_most_37 ?_
  refine r_iload_n C.1 2 dX11_most_40 rfl rfl ?_
  refine r_iconst (v := 2) C.1 dX11_most_41 rfl ?_
  refine r_icmp_ne C.1 49 dX11_most_42 (by decide) (fun c_1 => ?_) (fun c_1 => ?_)
  · replace h := ite_F c_1 h
    refine r_iconst (v := 1) C.1 dX11_most_49 rfl ?_
    exact r_sub [0, 1, 2, 3, 4, 5] rfl (w_X11_most_50 C M x1 x2 x3 x4 x5 (1 : Int32) x5 _ h kh ke_0)
  · replace h := ite_T c_1 h
    refine r_iconst (v := 0) C.1 dX11_most_45 rfl ?_
    refine r_goto C.1 50 dX11_most_46 (by decide) ?_
    exact r_sub [0, 1, 2, 3, 4, 5] rfl (w_X11_most_50 C M x1 x2 x3 x4 x5 (0 : Int32) x5 _ h kh ke_0)

def b_X11_most_34 (M : xM) (x1 : Int32) (x2 : Int32) (x3 : Int32) (x4 : Int32) (x5 : Int32) : Option (Int32 × xM) :=
  bd (loopN (fun s : xM × Int32 × Int32 × Int32 => bl_X11_most_34 s.1 x1 x2 s.2.1 s.2.2.1 s.2.2.2) BG (M, x3, x4, x5)) (fun v => some (v.2, v.1))
set_option maxRecDepth 20000 in
set_option maxHeartbeats 2000000 in
theorem w_X11_most_34 {x : xC} (C : CtM x RX11 cX11_most 7 ({ frames := 11, cells := 0, slots := 0, locals := 246 } : Room)) (M : xM) (x1 : Int32) (x2 : Int32) (x3 : Int32) (x4 : Int32) (x5 : Int32)  (o : Int32 × xM) (h : b_X11_most_34 M x1 x2 x3 x4 x5 = some o) (hr : (x_me x).sig.returnType = some .int) (ev : x_rv x = some (.int o.1)) (eM : x_M x = o.2) : J x M 34 [(0, .ref (x_ad x 0)), (1, .int x1), (2, .int x2), (3, .int x3), (4, .int x4), (5, .int x5)] [] := by
  unfold b_X11_most_34 at h
  obtain ⟨r_0, hr_0, h⟩ := bd_E h
  refine loopN_ind (JJ := fun s => J x s.1 34 [(0, .ref (x_ad x 0)), (1, .int x1), (2, .int x2), (3, .int s.2.1), (4, .int s.2.2.1), (5, .int s.2.2.2)] []) (KX := fun q => q = r_0) ?_ BG (M, x3, x4, x5) r_0 hr_0 rfl
  intro s o1 hb kk1 kk2
  refine wl_X11_most_34 C s.1 x1 x2 s.2.1 s.2.2.1 s.2.2.2 _ hb kk1 ?_
  · intro v e0
    have e1 := kk2 _ e0
    subst e1
    refine r_iload_n C.1 0 dX11_most_104 rfl rfl ?_
    obtain rfl := Option.some.inj h
    exact r_iret C.1 hr ev eM dX11_most_105

def b_X11_most_0 (M : xM) (x1 : Int32) (x2 : Int32) : Option (Int32 × xM) :=
  lt (uM M 0 0 (0 : Int32)) (fun M_1 => bd (f_X11_isDay M_1 x1) (fun r_2 => if r_2 = 0 then b_X11_most_24 M_1 else bd (f_X11_in M_1 x2.toInt64 (0 : Int64) (2 : Int64)) (fun r_5 => if r_5 = 0 then b_X11_most_24 M_1 else b_X11_most_34 M_1 x1 x2 (-1 : Int32) (0 : Int32) (0 : Int32))))
set_option maxRecDepth 20000 in
set_option maxHeartbeats 2000000 in
theorem w_X11_most_0 {x : xC} (C : CtM x RX11 cX11_most 7 ({ frames := 11, cells := 0, slots := 0, locals := 246 } : Room)) (M : xM) (x1 : Int32) (x2 : Int32)  (o : Int32 × xM) (h : b_X11_most_0 M x1 x2 = some o) (hr : (x_me x).sig.returnType = some .int) (ev : x_rv x = some (.int o.1)) (eM : x_M x = o.2) : J x M 0 [(0, .ref (x_ad x 0)), (1, .int x1), (2, .int x2)] [] := by
  unfold b_X11_most_0 at h
  refine r_aload_n C.1 0 dX11_most_0 rfl rfl ?_
  refine r_iconst (v := 0) C.1 dX11_most_1 rfl ?_
  obtain ⟨M_1, eM_1, h⟩ := lt_E h
  refine pf_X11_56 C eM_1 dX11_most_2 ?_
  refine r_iload_n C.1 1 dX11_most_5 rfl rfl ?_
  obtain ⟨r_2, hc_3, h⟩ := bd_E h
  refine cl_X11_265 C ⟨Nat.le_of_ble_eq_true rfl, Nat.le_of_ble_eq_true rfl⟩ (m_X11_isDay _ _ _ M_1 x1 hc_3) (Nat.le_of_ble_eq_true rfl) dX11_most_6 ?_
  refine r_if_eq C.1 24 dX11_most_9 (by decide) (fun c_4 => ?_) (fun c_4 => ?_)
  · replace h := ite_T c_4 h
    exact r_sub [] rfl (w_X11_most_24 C M_1 _ h hr ev eM)
  · replace h := ite_F c_4 h
    refine r_iload_n C.1 2 dX11_most_12 rfl rfl ?_
    refine r_i2l C.1 dX11_most_13 ?_
    refine r_lconst (v := 0) C.1 dX11_most_14 rfl ?_
    refine r_ldc2 (v := 2) C.1 kw_1708 dX11_most_15 ?_
    obtain ⟨r_5, hc_6, h⟩ := bd_E h
    refine cl_X11_67 C ⟨Nat.le_of_ble_eq_true rfl, Nat.le_of_ble_eq_true rfl⟩ (m_X11_in _ _ _ M_1 x2.toInt64 (0 : Int64) (2 : Int64) hc_6) (Nat.le_of_ble_eq_true rfl) dX11_most_18 ?_
    refine r_if_ne C.1 26 dX11_most_21 (by decide) (fun c_7 => ?_) (fun c_7 => ?_)
    · replace h := ite_F c_7 h
      refine r_iconst (v := -1) C.1 dX11_most_26 rfl ?_
      refine r_istore_n C.1 [(3, .int (-1 : Int32)), (0, .ref (x_ad x 0)), (1, .int x1), (2, .int x2)] dX11_most_27 rfl (by decide) rfl rfl ?_
      refine r_iconst (v := 0) C.1 dX11_most_28 rfl ?_
      refine r_istore C.1 [(4, .int (0 : Int32)), (3, .int (-1 : Int32)), (0, .ref (x_ad x 0)), (1, .int x1), (2, .int x2)] dX11_most_29 (by decide) rfl rfl ?_
      refine r_iconst (v := 0) C.1 dX11_most_31 rfl ?_
      refine r_istore C.1 [(5, .int (0 : Int32)), (4, .int (0 : Int32)), (3, .int (-1 : Int32)), (0, .ref (x_ad x 0)), (1, .int x1), (2, .int x2)] dX11_most_32 (by decide) rfl rfl ?_
      exact r_sub [3, 4, 5, 2, 1, 0] rfl (w_X11_most_34 C M_1 x1 x2 (-1 : Int32) (0 : Int32) (0 : Int32) _ h hr ev eM)
    · replace h := ite_T c_7 h
      exact r_sub [] rfl (w_X11_most_24 C M_1 _ h hr ev eM)
def f_X11_most (M : xM) (x1 : Int32) (x2 : Int32) : Option (Int32 × xM) := b_X11_most_0 M x1 x2
set_option maxRecDepth 20000 in
theorem m_X11_most (l : Launch) (D : va_G) (ad : Nat → Nat) (M : xM) (x1 : Int32) (x2 : Int32)  {r : Int32} {M1 : xM} (h : f_X11_most M x1 x2 = some (r, M1)) : xMetM l yX11_most cX11_most 7 (some .int) ({ frames := 11, cells := 0, slots := 0, locals := 246 } : Room) [.ref (ad 0), .int x1, .int x2] D ad M (some (.int r)) M1 := by
  refine xMetM_of (own := RX11) (by decide) rfl (Nat.le_of_ble_eq_true rfl) ?_
  intro x C e1 e2 e3 ev eM hr
  subst e1; subst e2; subst e3
  refine r_sub (L := [(0, .ref (x_ad x 0)), (1, .int x1), (2, .int x2)]) (L' := [(0, .ref (x_ad x 0)), (1, .int x1), (2, .int x2)]) [0, 1, 2] rfl ?_
  exact w_X11_most_0 C M x1 x2 _ h hr ev eM

def b_X11_count_0 (M : xM) (x1 : Int32) : Option (Int32 × xM) :=
  lt (uM M 0 0 (0 : Int32)) (fun M_1 => if x1 = (0 : Int32) then some (M_1 0 2, M_1) else (if x1 = (1 : Int32) then some (M_1 0 13, M_1) else (if x1 = (2 : Int32) then gd (1 : Int32) 495 (some (M_1 4 (1 : Int32).toNatClampNeg, M_1)) else (if x1 = (3 : Int32) then gd (0 : Int32) 495 (some (M_1 4 (0 : Int32).toNatClampNeg, M_1)) else (if x1 = (4 : Int32) then gd (2 : Int32) 495 (some (M_1 4 (2 : Int32).toNatClampNeg, M_1)) else (if x1 = (5 : Int32) then gd (3 : Int32) 495 (some (M_1 4 (3 : Int32).toNatClampNeg, M_1)) else (some ((-1 : Int32), M_1))))))))
set_option maxRecDepth 20000 in
set_option maxHeartbeats 2000000 in
theorem w_X11_count_0 {x : xC} (C : CtM x RX11 cX11_count 2 ({ frames := 0, cells := 0, slots := 0, locals := 0 } : Room)) (M : xM) (x1 : Int32)  (o : Int32 × xM) (h : b_X11_count_0 M x1 = some o) (hr : (x_me x).sig.returnType = some .int) (ev : x_rv x = some (.int o.1)) (eM : x_M x = o.2) : J x M 0 [(0, .ref (x_ad x 0)), (1, .int x1)] [] := by
  unfold b_X11_count_0 at h
  refine r_aload_n C.1 0 dX11_count_0 rfl rfl ?_
  refine r_iconst (v := 0) C.1 dX11_count_1 rfl ?_
  obtain ⟨M_1, eM_1, h⟩ := lt_E h
  refine pf_X11_56 C eM_1 dX11_count_2 ?_
  refine r_iload_n C.1 1 dX11_count_5 rfl rfl ?_
  by_cases c_20 : x1 = (0 : Int32)
  · replace h := ite_T c_20 h
    refine r_tin C.1 c_20 44 dX11_count_6 (by decide) (by decide) rfl (by decide) ?_
    refine r_aload_n C.1 0 dX11_count_44 rfl rfl ?_
    refine gf_X11_64 C dX11_count_45 ?_
    obtain rfl := Option.some.inj h
    exact r_iret C.1 hr ev eM dX11_count_48
  · replace h := ite_F c_20 h
    by_cases c_21 : x1 = (1 : Int32)
    · replace h := ite_T c_21 h
      refine r_tin C.1 c_21 49 dX11_count_6 (by decide) (by decide) rfl (by decide) ?_
      refine r_aload_n C.1 0 dX11_count_49 rfl rfl ?_
      refine gf_X11_160 C dX11_count_50 ?_
      obtain rfl := Option.some.inj h
      exact r_iret C.1 hr ev eM dX11_count_53
    · replace h := ite_F c_21 h
      by_cases c_22 : x1 = (2 : Int32)
      · replace h := ite_T c_22 h
        refine r_tin C.1 c_22 54 dX11_count_6 (by decide) (by decide) rfl (by decide) ?_
        refine r_aload_n C.1 0 dX11_count_54 rfl rfl ?_
        refine gf_X11_19 C dX11_count_55 ?_
        refine r_iconst (v := 1) C.1 dX11_count_58 rfl ?_
        obtain ⟨q_3, h⟩ := gd_E h
        refine r_iald C.1 (mK C (by decide)) (mS C (shm_4)) 0 (mT0 C) q_3 dX11_count_59 ?_
        obtain rfl := Option.some.inj h
        exact r_iret C.1 hr ev eM dX11_count_60
      · replace h := ite_F c_22 h
        by_cases c_23 : x1 = (3 : Int32)
        · replace h := ite_T c_23 h
          refine r_tin C.1 c_23 61 dX11_count_6 (by decide) (by decide) rfl (by decide) ?_
          refine r_aload_n C.1 0 dX11_count_61 rfl rfl ?_
          refine gf_X11_19 C dX11_count_62 ?_
          refine r_iconst (v := 0) C.1 dX11_count_65 rfl ?_
          obtain ⟨q_4, h⟩ := gd_E h
          refine r_iald C.1 (mK C (by decide)) (mS C (shm_4)) 0 (mT0 C) q_4 dX11_count_66 ?_
          obtain rfl := Option.some.inj h
          exact r_iret C.1 hr ev eM dX11_count_67
        · replace h := ite_F c_23 h
          by_cases c_24 : x1 = (4 : Int32)
          · replace h := ite_T c_24 h
            refine r_tin C.1 c_24 68 dX11_count_6 (by decide) (by decide) rfl (by decide) ?_
            refine r_aload_n C.1 0 dX11_count_68 rfl rfl ?_
            refine gf_X11_19 C dX11_count_69 ?_
            refine r_iconst (v := 2) C.1 dX11_count_72 rfl ?_
            obtain ⟨q_5, h⟩ := gd_E h
            refine r_iald C.1 (mK C (by decide)) (mS C (shm_4)) 0 (mT0 C) q_5 dX11_count_73 ?_
            obtain rfl := Option.some.inj h
            exact r_iret C.1 hr ev eM dX11_count_74
          · replace h := ite_F c_24 h
            by_cases c_25 : x1 = (5 : Int32)
            · replace h := ite_T c_25 h
              refine r_tin C.1 c_25 75 dX11_count_6 (by decide) (by decide) rfl (by decide) ?_
              refine r_aload_n C.1 0 dX11_count_75 rfl rfl ?_
              refine gf_X11_19 C dX11_count_76 ?_
              refine r_iconst (v := 3) C.1 dX11_count_79 rfl ?_
              obtain ⟨q_6, h⟩ := gd_E h
              refine r_iald C.1 (mK C (by decide)) (mS C (shm_4)) 0 (mT0 C) q_6 dX11_count_80 ?_
              obtain rfl := Option.some.inj h
              exact r_iret C.1 hr ev eM dX11_count_81
            · replace h := ite_F c_25 h
              have qc_20 := ne_toInt c_20
              have qc_21 := ne_toInt c_21
              have qc_22 := ne_toInt c_22
              have qc_23 := ne_toInt c_23
              have qc_24 := ne_toInt c_24
              have qc_25 := ne_toInt c_25
              refine r_tout C.1 82 dX11_count_6 (tout_0_5 qc_20 qc_21 qc_22 qc_23 qc_24 qc_25) (by decide) ?_
              refine r_iconst (v := -1) C.1 dX11_count_82 rfl ?_
              obtain rfl := Option.some.inj h
              exact r_iret C.1 hr ev eM dX11_count_83
def f_X11_count (M : xM) (x1 : Int32) : Option (Int32 × xM) := b_X11_count_0 M x1
set_option maxRecDepth 20000 in
theorem m_X11_count (l : Launch) (D : va_G) (ad : Nat → Nat) (M : xM) (x1 : Int32)  {r : Int32} {M1 : xM} (h : f_X11_count M x1 = some (r, M1)) : xMetM l yX11_count cX11_count 2 (some .int) ({ frames := 0, cells := 0, slots := 0, locals := 0 } : Room) [.ref (ad 0), .int x1] D ad M (some (.int r)) M1 := by
  refine xMetM_of (own := RX11) (by decide) rfl (Nat.le_of_ble_eq_true rfl) ?_
  intro x C e1 e2 e3 ev eM hr
  subst e1; subst e2; subst e3
  refine r_sub (L := [(0, .ref (x_ad x 0)), (1, .int x1)]) (L' := [(0, .ref (x_ad x 0)), (1, .int x1)]) [0, 1] rfl ?_
  exact w_X11_count_0 C M x1 _ h hr ev eM
