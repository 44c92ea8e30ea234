/-! the class: reckon finds what is allowed -/
theorem kAhead_tr {V : Nat → Int32} {a b c : Nat} (h : kAhead V a b) (g : kAhead V b c) : kAhead V a c := by
  have h' : dyI V a < dyI V b ∨ dyI V a = dyI V b ∧ a < b := h
  have g' : dyI V b < dyI V c ∨ dyI V b = dyI V c ∧ b < c := g
  show dyI V a < dyI V c ∨ dyI V a = dyI V c ∧ a < c
  omega
theorem kAhead_ir {V : Nat → Int32} {a : Nat} (h : kAhead V a a) : False := by
  have h' : dyI V a < dyI V a ∨ dyI V a = dyI V a ∧ a < a := h
  omega
/-- of one more place -/
theorem zS_one {f g : Nat → Int} {k0 : Nat} {x : Int} (hk : f k0 = 0 ∧ g k0 = x) (ho : ∀ k, k ≠ k0 → g k = f k) : ∀ n, zS g n = zS f n + (if k0 < n then x else 0)
  | 0 => by simp [zS]
  | n + 1 => by
    rw [zS, zS, zS_one hk ho n]
    by_cases e : n = k0
    · subst e
      rw [if_neg (Nat.lt_irrefl n), if_pos (Nat.lt_succ_self n), hk.1, hk.2]
      omega
    · rw [ho n e]
      by_cases c : k0 < n
      · rw [if_pos c, if_pos (by omega)]; omega
      · rw [if_neg c, if_neg (by omega)]; omega
/-- a sum over the places ahead, as the turn goes -/
theorem zS_turn {V : Nat → Int32} {n : Nat} {t : Nat → Nat} (h : TurnOK V n t) (g : Nat → Int) : ∀ p, p < n → zS (fun q => g (t q)) p = zS (fun k => if kAhead V k (t p) then g k else 0) n
  | 0, hp => by
    rw [zS]
    have e : zS (fun k => if kAhead V k (t 0) then g k else 0) n = zS (fun _ => 0) n := by
      refine zS_congr (fun k hk => ?_)
      obtain ⟨q, hq, rfl⟩ := h.2.2 k hk
      rw [if_neg]
      intro z
      by_cases e : q = 0
      · subst e; exact kAhead_ir z
      · exact kAhead_ir (kAhead_tr z (h.2.1 0 q (by omega) hq))
    rw [e]
    have z0 : ∀ m, zS (fun _ => 0) m = 0 := by
      intro m
      induction m with
      | zero => rfl
      | succ m ih => rw [zS, ih]; rfl
    exact (z0 n).symm
  | p + 1, hp => by
    rw [zS, zS_turn h g p (by omega)]
    have key := zS_one (f := fun k => if kAhead V k (t p) then g k else 0) (g := fun k => if kAhead V k (t p) ∨ k = t p then g k else 0) (k0 := t p) (x := g (t p)) ⟨if_neg (fun z => kAhead_ir z), if_pos (Or.inr rfl)⟩ (fun k hk => by simp [hk]) n
    rw [if_pos (h.1 p (by omega))] at key
    rw [← key]
    refine zS_congr (fun k hk => ?_)
    obtain ⟨q, hq, rfl⟩ := h.2.2 k hk
    have hpp := h.2.1 p (p + 1) (by omega) hp
    by_cases c : q < p + 1
    · have e1 : kAhead V (t q) (t (p + 1)) := h.2.1 q (p + 1) c hp
      rw [if_pos e1, if_pos]
      by_cases e : q = p
      · exact Or.inr (by rw [e])
      · exact Or.inl (h.2.1 q p (by omega) (by omega))
    · have e1 : ¬ kAhead V (t q) (t (p + 1)) := fun z => by
        by_cases e : q = p + 1
        · subst e; exact kAhead_ir z
        · exact kAhead_ir (kAhead_tr z (h.2.1 (p + 1) q (by omega) hq))
      rw [if_neg e1, if_neg]
      rintro (z | z)
      · exact kAhead_ir (kAhead_tr z (h.2.1 p q (by omega) hq))
      · exact e1 (by rw [z]; exact hpp)
