/-! the constructor of the class (wip/whole/ctorgen2.py) -/
def mS (r t s i u : Value) : List Value := [r, .int 0, .int 0, t, .int 0, s, .int 0, i, .int 0, u, .int 0, .int 0, .int 0, .int 0]
def go_ExS (s : State) : Prop := va_AO RT s ∧ va_AO RI s ∧ va_AO RU s ∧ va_AOA .int s
/-- the class's world, with a triggers, b incidents, d units made -/
def cS (G : go_G) (base a b d q : Nat) : va_E :=
  if q = 12 then .inl (G.2.1 3, 20, .inr (.inr (.inr (.inr (fun j => if j < a then some (base + (16 + j)) else none))))) else if q = 14 then .inl (G.2.1 4, 12, .inr (.inr (.inr (.inr (fun j => if j < b then some (base + (36 + 2 * j)) else none))))) else if q = 15 then .inl (G.2.1 5, 40, .inr (.inr (.inr (.inr (fun j => if j < d then some (base + (60 + j)) else none)))))
  else if q = 0 then .inr (3, mS (.ref (base + 1)) (.ref (base + 12)) (.ref (base + 13)) (.ref (base + 14)) (.ref (base + 15))) else if q = 1 then .inl (G.2.1 6, 10, .inr (.inr (.inr (.inr (fun i => if i < 10 then some (base + 1 + 1 + i) else none)))))
  else if q < 12 then .inl (G.2.1 0, 8, .inl (fun _ => 0)) else if q = 13 then .inl (G.2.1 0, 20, .inl (fun _ => 0)) else if q < 36 then .inr (1, [.int 0, .int 0, .int 0, .int 0, .int 0])
  else if q < 60 then (if q % 2 = 0 then .inr (0, [.int 0, .int 0, .int 0, .int 0, .int 0, .int 0, .int 0, .ref (base + (q + 1))]) else .inl (G.2.1 0, 20, .inl (f20 20))) else .inr (2, [.int 0, .int 0, .int (-1), .int (-1)])
theorem cS_T {G : go_G} {base a b d q : Nat} (h1 : 16 ≤ q) (h2 : q < 36) : cS G base a b d q = .inr (1, [.int 0, .int 0, .int 0, .int 0, .int 0]) := by
  unfold cS
  rw [if_neg (by omega), if_neg (by omega), if_neg (by omega), if_neg (by omega), if_neg (by omega), if_neg (by omega), if_neg (by omega), if_pos h2]
theorem cS_I {G : go_G} {base a b d q : Nat} (h1 : 36 ≤ q) (h2 : q < 60) : cS G base a b d q = if q % 2 = 0 then .inr (0, [.int 0, .int 0, .int 0, .int 0, .int 0, .int 0, .int 0, .ref (base + (q + 1))]) else .inl (G.2.1 0, 20, .inl (f20 20)) := by
  unfold cS
  rw [if_neg (by omega), if_neg (by omega), if_neg (by omega), if_neg (by omega), if_neg (by omega), if_neg (by omega), if_neg (by omega), if_neg (by omega), if_pos h2]
theorem cS_U {G : go_G} {base a b d q : Nat} (h1 : 60 ≤ q) : cS G base a b d q = .inr (2, [.int 0, .int 0, .int (-1), .int (-1)]) := by
  unfold cS
  rw [if_neg (by omega), if_neg (by omega), if_neg (by omega), if_neg (by omega), if_neg (by omega), if_neg (by omega), if_neg (by omega), if_neg (by omega), if_neg (by omega)]
theorem cS_a {G : go_G} {base a b d q : Nat} (h : ¬ q = 12) : cS G base a b d q = cS G base (a + 1) b d q := by
  unfold cS
  rw [if_neg h, if_neg h]
theorem cS_b {G : go_G} {base a b d q : Nat} (h : ¬ q = 14) : cS G base a b d q = cS G base a (b + 1) d q := by
  unfold cS
  rw [if_neg h, if_neg h]
theorem cS_d {G : go_G} {base a b d q : Nat} (h : ¬ q = 15) : cS G base a b d q = cS G base a b (d + 1) q := by
  unfold cS
  rw [if_neg h, if_neg h]
theorem go_upN {f : Nat → Nat} {a : Nat} : va_up (fun j => if j < a then some (f j) else none) a (some (f a)) = fun j => if j < a + 1 then some (f j) else none := by
  funext j
  by_cases h : j = a
  · subst h
    simp [va_up]
  · by_cases h2 : j < a
    · simp [va_up, h, h2, Nat.lt_succ_of_lt h2]
    · simp [va_up, h, h2, show ¬ j < a + 1 by omega]
set_option maxHeartbeats 4000000 in
set_option maxRecDepth 100000 in
theorem gc_S_L1 {l : Launch} {G : go_G} {base : Nat} {En : gc_En} (hend : Gc l G (c_S_init, 2, none, RS, [], { frames := 8, cells := 99, slots := 778, locals := 180 }) "<init>" go_ExS En base (16 + 20) (cS G base 20 0 0) [(0, .ref (base + 0)), (1, .int (nI 20))] 78 [] (15 + 20) (182 + 5 * 20)) : ∀ n a, a ≤ 20 → 20 ≤ a + n → Gc l G (c_S_init, 2, none, RS, [], { frames := 8, cells := 99, slots := 778, locals := 180 }) "<init>" go_ExS En base (16 + a) (cS G base a 0 0) [(0, .ref (base + 0)), (1, .int (nI a))] 53 [] (15 + a) (182 + 5 * a) := by
  have key : ∀ a, a ≤ 20 → (a < 20 → Gc l G (c_S_init, 2, none, RS, [], { frames := 8, cells := 99, slots := 778, locals := 180 }) "<init>" go_ExS En base (16 + a) (cS G base a 0 0) [(0, .ref (base + 0)), (1, .int (nI a))] 59 [] (15 + a) (182 + 5 * a)) → Gc l G (c_S_init, 2, none, RS, [], { frames := 8, cells := 99, slots := 778, locals := 180 }) "<init>" go_ExS En base (16 + a) (cS G base a 0 0) [(0, .ref (base + 0)), (1, .int (nI a))] 53 [] (15 + a) (182 + 5 * a) := by
    intro a h1 hgo
    refine gc_iload_n (d_S_init 53 rfl) rfl rfl ?_
    refine gc_bipush (x := nI 20) (d_S_init 54 rfl) (by decide) ?_
    refine gc_icmp_ge (tgt := 78) (d_S_init 56 rfl) (by decide) (fun q => ?_) (fun q => ?_)
    · have hi : a = 20 := by
        rcases Nat.lt_or_ge a 20 with h | h
        · exact absurd q (nI_ge h (by decide))
        · omega
      subst hi
      exact hend
    · exact hgo (by
        rcases Nat.lt_or_ge a 20 with h | h
        · exact h
        · exact absurd (nI_le h (by omega)) q)
  intro n
  induction n with
  | zero =>
    intro a h1 h2
    exact key a h1 (fun h => absurd h (by omega))
  | succ n ih =>
    intro a h1 h2
    refine key a h1 (fun hi => ?_)
    refine gc_aload_n (d_S_init 59 rfl) rfl rfl ?_
    refine gc_get (k := 0) (c := 3) (j := 3) (fs := mS (.ref (base + 1)) (.ref (base + 12)) (.ref (base + 13)) (.ref (base + 14)) (.ref (base + 15))) (d_S_init 60 rfl) fl_S_16 (by omega) rfl rfl ?_
    refine gc_iload_n (d_S_init 63 rfl) rfl rfl ?_
    refine gc_new (ci := 1) (T := TT) (ty0 := tyT) (fs := [.int 0, .int 0, .int 0, .int 0, .int 0]) (d_S_init 64 rfl) rfl in_T tyokT ⟨w_52, w_58, w_30⟩ (fun j hj => by
      match j, hj with
      | 0, _ => rfl
      | 1, _ => rfl
      | 2, _ => rfl
      | 3, _ => rfl
      | 4, _ => rfl
      | j + 5, hj => exact absurd hj (by omega)) ⟨(by omega : _ ≤ 99), (by omega : _ ≤ 778)⟩ ?_
    refine gc_dup (d_S_init 67 rfl) rfl ?_
    refine gc_cN (c2 := 15 + a + 1) (s2 := 182 + 5 * a + 5) (k := 16 + a) (host := RS) rfl rfl (Cc_T_init (16 + a)) (fun _ _ _ h => h) (fun _ _ => trivial) (d_S_init 68 rfl) ⟨w_59, w_61, w_30, by decide, by decide, by decide +kernel⟩ w_60 rfl ⟨by decide, by decide⟩ (Nat.le_of_ble_eq_true rfl) ⟨(by omega : _ ≤ 99), (by omega : _ ≤ 778)⟩ ?_
    refine gc_aast (k := 12) (k2 := 16 + a) (n := 20) (i := a) (ci := 1) (t := 3) (r := (RT, TT, 5)) (vs := [.int 0, .int 0, .int 0, .int 0, .int 0]) (f := fun j => if j < a then some (base + (16 + j)) else none) (d_S_init 71 rfl) (by omega) (by rw [va_up_ne _ _ (by omega)]; rfl) (by omega) (va_up_self _ _ _) rfl rfl hi (by decide) ?_
    refine gc_iinc (y := nI (a + 1)) (lv' := [(0, .ref (base + 0)), (1, .int (nI (a + 1)))]) (d_S_init 72 rfl) rfl (nI_1 a) (by decide) rfl ?_
    refine gc_goto (tgt := 53) (d_S_init 75 rfl) (by decide) ?_
    refine gc_widen (k := 15 + (a + 1)) (n := 182 + 5 * (a + 1)) (by omega) (by omega) ?_
    refine gc_cell (cell' := cS G base (a + 1) 0 0) (fun q hq => ?_) (ih (a + 1) hi (by omega))
    by_cases e1 : q = 12
    · subst e1
      rw [va_up_self, go_upN (f := fun j => base + (16 + j))]
      rfl
    · rw [va_up_ne _ _ e1]
      by_cases e2 : q = 16 + a
      · subst e2
        rw [va_up_self, cS_T (by omega) (by omega)]
      · rw [va_up_ne _ _ e2]
        exact cS_a e1
set_option maxHeartbeats 4000000 in
set_option maxRecDepth 100000 in
theorem gc_S_L2 {l : Launch} {G : go_G} {base : Nat} {En : gc_En} (hend : Gc l G (c_S_init, 2, none, RS, [], { frames := 8, cells := 99, slots := 778, locals := 180 }) "<init>" go_ExS En base (36 + 2 * 12) (cS G base 20 12 0) [(0, .ref (base + 0)), (1, .int (nI 12))] 105 [] (35 + 2 * 12) (282 + 28 * 12)) : ∀ n b, b ≤ 12 → 12 ≤ b + n → Gc l G (c_S_init, 2, none, RS, [], { frames := 8, cells := 99, slots := 778, locals := 180 }) "<init>" go_ExS En base (36 + 2 * b) (cS G base 20 b 0) [(0, .ref (base + 0)), (1, .int (nI b))] 80 [] (35 + 2 * b) (282 + 28 * b) := by
  have key : ∀ b, b ≤ 12 → (b < 12 → Gc l G (c_S_init, 2, none, RS, [], { frames := 8, cells := 99, slots := 778, locals := 180 }) "<init>" go_ExS En base (36 + 2 * b) (cS G base 20 b 0) [(0, .ref (base + 0)), (1, .int (nI b))] 86 [] (35 + 2 * b) (282 + 28 * b)) → Gc l G (c_S_init, 2, none, RS, [], { frames := 8, cells := 99, slots := 778, locals := 180 }) "<init>" go_ExS En base (36 + 2 * b) (cS G base 20 b 0) [(0, .ref (base + 0)), (1, .int (nI b))] 80 [] (35 + 2 * b) (282 + 28 * b) := by
    intro b h1 hgo
    refine gc_iload_n (d_S_init 80 rfl) rfl rfl ?_
    refine gc_bipush (x := nI 12) (d_S_init 81 rfl) (by decide) ?_
    refine gc_icmp_ge (tgt := 105) (d_S_init 83 rfl) (by decide) (fun q => ?_) (fun q => ?_)
    · have hi : b = 12 := by
        rcases Nat.lt_or_ge b 12 with h | h
        · exact absurd q (nI_ge h (by decide))
        · omega
      subst hi
      exact hend
    · exact hgo (by
        rcases Nat.lt_or_ge b 12 with h | h
        · exact h
        · exact absurd (nI_le h (by omega)) q)
  intro n
  induction n with
  | zero =>
    intro b h1 h2
    exact key b h1 (fun h => absurd h (by omega))
  | succ n ih =>
    intro b h1 h2
    refine key b h1 (fun hi => ?_)
    refine gc_aload_n (d_S_init 86 rfl) rfl rfl ?_
    refine gc_get (k := 0) (c := 3) (j := 7) (fs := mS (.ref (base + 1)) (.ref (base + 12)) (.ref (base + 13)) (.ref (base + 14)) (.ref (base + 15))) (d_S_init 87 rfl) fl_S_26 (by omega) rfl rfl ?_
    refine gc_iload_n (d_S_init 90 rfl) rfl rfl ?_
    refine gc_new (ci := 0) (T := TI) (ty0 := tyI) (fs := [.int 0, .int 0, .int 0, .int 0, .int 0, .int 0, .int 0, .null]) (d_S_init 91 rfl) rfl in_I tyokI ⟨w_54, w_83, w_31⟩ (fun j hj => by
      match j, hj with
      | 0, _ => rfl
      | 1, _ => rfl
      | 2, _ => rfl
      | 3, _ => rfl
      | 4, _ => rfl
      | 5, _ => rfl
      | 6, _ => rfl
      | 7, _ => rfl
      | j + 8, hj => exact absurd hj (by omega)) ⟨(by omega : _ ≤ 99), (by omega : _ ≤ 778)⟩ ?_
    refine gc_dup (d_S_init 94 rfl) rfl ?_
    refine gc_cN (c2 := 35 + 2 * b + 1 + 1) (s2 := 282 + 28 * b + 8 + 20) (k := 36 + 2 * b) (host := RS) rfl rfl (Cc_I_init (by omega) (va_up_self _ _ _)) (fun _ _ _ h => h) (fun _ _ => trivial) (d_S_init 95 rfl) ⟨w_84, w_86, w_31, by decide, by decide, by decide +kernel⟩ w_85 rfl ⟨by decide, by decide⟩ (Nat.le_of_ble_eq_true rfl) ⟨(by omega : _ ≤ 99), (by omega : _ ≤ 778)⟩ ?_
    refine gc_aast (k := 14) (k2 := 36 + 2 * b) (n := 12) (i := b) (ci := 0) (t := 4) (r := (RI, TI, 8)) (vs := [.int 0, .int 0, .int 0, .int 0, .int 0, .int 0, .int 0, .ref (base + (36 + 2 * b + 1))]) (f := fun j => if j < b then some (base + (36 + 2 * j)) else none) (d_S_init 98 rfl) (by omega) (by unfold cI; rw [va_up_ne _ _ (by omega), va_up_ne _ _ (by omega), va_up_ne _ _ (by omega)]; rfl) (by omega) (by unfold cI; rw [va_up_ne _ _ (by omega), va_up_self]) rfl rfl hi (by decide) ?_
    refine gc_iinc (y := nI (b + 1)) (lv' := [(0, .ref (base + 0)), (1, .int (nI (b + 1)))]) (d_S_init 99 rfl) rfl (nI_1 b) (by decide) rfl ?_
    refine gc_goto (tgt := 80) (d_S_init 102 rfl) (by decide) ?_
    refine gc_widen (k := 35 + 2 * (b + 1)) (n := 282 + 28 * (b + 1)) (by omega) (by omega) ?_
    refine gc_cell (cell' := cS G base 20 (b + 1) 0) (fun q hq => ?_) (ih (b + 1) hi (by omega))
    by_cases e1 : q = 14
    · subst e1
      rw [va_up_self, go_upN (f := fun j => base + (36 + 2 * j))]
      rfl
    · rw [va_up_ne _ _ e1]
      unfold cI
      by_cases e3 : q = 36 + 2 * b + 1
      · subst e3
        rw [va_up_self, cS_I (by omega) (by omega), if_neg (by omega)]
      · rw [va_up_ne _ _ e3]
        by_cases e2 : q = 36 + 2 * b
        · subst e2
          rw [va_up_self, cS_I (by omega) (by omega), if_pos (by omega)]
        · rw [va_up_ne _ _ e2, va_up_ne _ _ e2]
          exact cS_b e1
set_option maxHeartbeats 4000000 in
set_option maxRecDepth 100000 in
theorem gc_S_L3 {l : Launch} {G : go_G} {base : Nat} {En : gc_En} (hend : Gc l G (c_S_init, 2, none, RS, [], { frames := 8, cells := 99, slots := 778, locals := 180 }) "<init>" go_ExS En base (60 + 40) (cS G base 20 12 40) [(0, .ref (base + 0)), (1, .int (nI 40))] 132 [] (59 + 40) (618 + 4 * 40)) : ∀ n d, d ≤ 40 → 40 ≤ d + n → Gc l G (c_S_init, 2, none, RS, [], { frames := 8, cells := 99, slots := 778, locals := 180 }) "<init>" go_ExS En base (60 + d) (cS G base 20 12 d) [(0, .ref (base + 0)), (1, .int (nI d))] 107 [] (59 + d) (618 + 4 * d) := by
  have key : ∀ d, d ≤ 40 → (d < 40 → Gc l G (c_S_init, 2, none, RS, [], { frames := 8, cells := 99, slots := 778, locals := 180 }) "<init>" go_ExS En base (60 + d) (cS G base 20 12 d) [(0, .ref (base + 0)), (1, .int (nI d))] 113 [] (59 + d) (618 + 4 * d)) → Gc l G (c_S_init, 2, none, RS, [], { frames := 8, cells := 99, slots := 778, locals := 180 }) "<init>" go_ExS En base (60 + d) (cS G base 20 12 d) [(0, .ref (base + 0)), (1, .int (nI d))] 107 [] (59 + d) (618 + 4 * d) := by
    intro d h1 hgo
    refine gc_iload_n (d_S_init 107 rfl) rfl rfl ?_
    refine gc_bipush (x := nI 40) (d_S_init 108 rfl) (by decide) ?_
    refine gc_icmp_ge (tgt := 132) (d_S_init 110 rfl) (by decide) (fun q => ?_) (fun q => ?_)
    · have hi : d = 40 := by
        rcases Nat.lt_or_ge d 40 with h | h
        · exact absurd q (nI_ge h (by decide))
        · omega
      subst hi
      exact hend
    · exact hgo (by
        rcases Nat.lt_or_ge d 40 with h | h
        · exact h
        · exact absurd (nI_le h (by omega)) q)
  intro n
  induction n with
  | zero =>
    intro d h1 h2
    exact key d h1 (fun h => absurd h (by omega))
  | succ n ih =>
    intro d h1 h2
    refine key d h1 (fun hi => ?_)
    refine gc_aload_n (d_S_init 113 rfl) rfl rfl ?_
    refine gc_get (k := 0) (c := 3) (j := 9) (fs := mS (.ref (base + 1)) (.ref (base + 12)) (.ref (base + 13)) (.ref (base + 14)) (.ref (base + 15))) (d_S_init 114 rfl) fl_S_32 (by omega) rfl rfl ?_
    refine gc_iload_n (d_S_init 117 rfl) rfl rfl ?_
    refine gc_new (ci := 2) (T := TU) (ty0 := tyU) (fs := [.int 0, .int 0, .int 0, .int 0]) (d_S_init 118 rfl) rfl in_U tyokU ⟨w_56, w_114, w_32⟩ (fun j hj => by
      match j, hj with
      | 0, _ => rfl
      | 1, _ => rfl
      | 2, _ => rfl
      | 3, _ => rfl
      | j + 4, hj => exact absurd hj (by omega)) ⟨(by omega : _ ≤ 99), (by omega : _ ≤ 778)⟩ ?_
    refine gc_dup (d_S_init 121 rfl) rfl ?_
    refine gc_cN (c2 := 59 + d + 1) (s2 := 618 + 4 * d + 4) (k := 60 + d) (host := RS) rfl rfl (Cc_U_init (by omega) (va_up_self _ _ _)) (fun _ _ _ h => h) (fun _ _ => trivial) (d_S_init 122 rfl) ⟨w_115, w_117, w_32, by decide, by decide, by decide +kernel⟩ w_116 rfl ⟨by decide, by decide⟩ (Nat.le_of_ble_eq_true rfl) ⟨(by omega : _ ≤ 99), (by omega : _ ≤ 778)⟩ ?_
    refine gc_aast (k := 15) (k2 := 60 + d) (n := 40) (i := d) (ci := 2) (t := 5) (r := (RU, TU, 4)) (vs := [.int 0, .int 0, .int (-1), .int (-1)]) (f := fun j => if j < d then some (base + (60 + j)) else none) (d_S_init 125 rfl) (by omega) (by rw [va_up_ne _ _ (by omega), va_up_ne _ _ (by omega)]; rfl) (by omega) (va_up_self _ _ _) rfl rfl hi (by decide) ?_
    refine gc_iinc (y := nI (d + 1)) (lv' := [(0, .ref (base + 0)), (1, .int (nI (d + 1)))]) (d_S_init 126 rfl) rfl (nI_1 d) (by decide) rfl ?_
    refine gc_goto (tgt := 107) (d_S_init 129 rfl) (by decide) ?_
    refine gc_widen (k := 59 + (d + 1)) (n := 618 + 4 * (d + 1)) (by omega) (by omega) ?_
    refine gc_cell (cell' := cS G base 20 12 (d + 1)) (fun q hq => ?_) (ih (d + 1) hi (by omega))
    by_cases e1 : q = 15
    · subst e1
      rw [va_up_self, go_upN (f := fun j => base + (60 + j))]
      rfl
    · rw [va_up_ne _ _ e1]
      by_cases e2 : q = 60 + d
      · subst e2
        rw [va_up_self, cS_U (by omega)]
      · rw [va_up_ne _ _ e2, va_up_ne _ _ e2]
        exact cS_d e1
set_option maxHeartbeats 4000000 in
set_option maxRecDepth 100000 in
theorem Cc_S_init {l : Launch} {G : go_G} {base : Nat} {cell : Nat → va_E} (hc : cell 0 = .inr (3, mS .null .null .null .null .null)) : Cc l G y_S_init (.code y_S_init c_S_init 2 none :: go_TT) { frames := 8, cells := 99, slots := 778, locals := 180 } base 1 cell go_ExS [.ref (base + 0)] 100 (cS G base 20 12 40) := by
  refine gc_body (own := RS) (by decide) rfl rfl (Nat.le_of_ble_eq_true rfl) ?_
  show Gc l G (c_S_init, 2, none, RS, [], { frames := 8, cells := 99, slots := 778, locals := 180 }) "<init>" _ (gc_E G base 100 (cS G base 20 12 40) 99 778) base 1 cell [(0, .ref (base + 0))] 0 [] 0 0
  refine gc_aload_n (d_S_init 0 rfl) rfl rfl ?_
  refine gc_obj (d_S_init 1 rfl) w_47 w_48 w_49 ⟨by decide, Nat.le_of_ble_eq_true rfl⟩ ?_
  refine gc_aload_n (d_S_init 4 rfl) rfl rfl ?_
  refine gc_bipush (x := 10) (d_S_init 5 rfl) (by decide) ?_
  refine gc_bipush (x := 8) (d_S_init 7 rfl) (by decide) ?_
  refine gc_mna (N' := 10) (K' := 8) (d_S_init 9 rfl) w_50 w_82 (fun s h => h.2.2.2) (by decide) (by decide) (by decide) (by decide) (by decide) (by decide) (by decide) ⟨by decide, by decide⟩ ?_
  refine gc_putF (k := 0) (T := TS) (ty0 := tyS) (c := 3) (j := 0) (fs := mS .null .null .null .null .null) (d_S_init 13 rfl) rfl rfl in_S tyokS nmS (by decide) w_136 rfl rfl rfl rfl rfl rfl (by decide) (by show (if 0 < 1 then cell 0 else _) = _; rw [if_pos (by decide)]; exact hc) (Nat.le_of_ble_eq_true rfl) ?_
  refine gc_aload_n (d_S_init 16 rfl) rfl rfl ?_
  refine gc_bipush (x := 20) (d_S_init 17 rfl) (by decide) ?_
  refine gc_anew (N' := 20) (t := 3) (d_S_init 19 rfl) w_52 (fun s h => h.1) rfl (by decide) (by decide) (by decide) ⟨by decide, by decide⟩ ?_
  refine gc_putF (k := 0) (T := TS) (ty0 := tyS) (c := 3) (j := 3) (fs := mS (.ref (base + 1)) .null .null .null .null) (d_S_init 22 rfl) rfl rfl in_S tyokS nmS (by decide) w_139 rfl rfl rfl rfl rfl rfl (by decide) (by rw [va_up_ne _ _ (by decide), va_up_self]; rfl) (Nat.le_of_ble_eq_true rfl) ?_
  refine gc_aload_n (d_S_init 25 rfl) rfl rfl ?_
  refine gc_bipush (x := 20) (d_S_init 26 rfl) (by decide) ?_
  refine gc_newa (N' := 20) (t := 0) (a0 := (20, .inl (fun _ => 0))) (d_S_init 28 rfl) w_82 rfl (fun _ _ h => h) (fun cA => by rw [vp_cell_i]; rfl) (by decide) (by decide) (by decide) ⟨by decide, by decide⟩ ?_
  refine gc_putF (k := 0) (T := TS) (ty0 := tyS) (c := 3) (j := 5) (fs := mS (.ref (base + 1)) (.ref (base + 12)) .null .null .null) (d_S_init 30 rfl) rfl rfl in_S tyokS nmS (by decide) w_141 rfl rfl rfl rfl rfl rfl (by decide) (by rw [va_up_ne _ _ (by decide), va_up_self]; rfl) (Nat.le_of_ble_eq_true rfl) ?_
  refine gc_aload_n (d_S_init 33 rfl) rfl rfl ?_
  refine gc_bipush (x := 12) (d_S_init 34 rfl) (by decide) ?_
  refine gc_anew (N' := 12) (t := 4) (d_S_init 36 rfl) w_54 (fun s h => h.2.1) rfl (by decide) (by decide) (by decide) ⟨by decide, by decide⟩ ?_
  refine gc_putF (k := 0) (T := TS) (ty0 := tyS) (c := 3) (j := 7) (fs := mS (.ref (base + 1)) (.ref (base + 12)) (.ref (base + 13)) .null .null) (d_S_init 39 rfl) rfl rfl in_S tyokS nmS (by decide) w_143 rfl rfl rfl rfl rfl rfl (by decide) (by rw [va_up_ne _ _ (by decide), va_up_self]; rfl) (Nat.le_of_ble_eq_true rfl) ?_
  refine gc_aload_n (d_S_init 42 rfl) rfl rfl ?_
  refine gc_bipush (x := 40) (d_S_init 43 rfl) (by decide) ?_
  refine gc_anew (N' := 40) (t := 5) (d_S_init 45 rfl) w_56 (fun s h => h.2.2.1) rfl (by decide) (by decide) (by decide) ⟨by decide, by decide⟩ ?_
  refine gc_putF (k := 0) (T := TS) (ty0 := tyS) (c := 3) (j := 9) (fs := mS (.ref (base + 1)) (.ref (base + 12)) (.ref (base + 13)) (.ref (base + 14)) .null) (d_S_init 48 rfl) rfl rfl in_S tyokS nmS (by decide) w_145 rfl rfl rfl rfl rfl rfl (by decide) (by rw [va_up_ne _ _ (by decide), va_up_self]; rfl) (Nat.le_of_ble_eq_true rfl) ?_
  refine gc_iconst (x := nI 0) (d_S_init 51 rfl) (by decide) ?_
  refine gc_istore_n (lv' := [(0, .ref (base + 0)), (1, .int (nI 0))]) (d_S_init 52 rfl) rfl (by decide) rfl ?_
  refine gc_cell (cell' := cS G base 0 0 0) (fun q hq => ?_) (gc_S_L1 ?_ 20 0 (by omega) (by omega))
  · match q, hq with
    | 0, _ => rfl
    | 1, _ => rfl
    | 2, _ => rfl
    | 3, _ => rfl
    | 4, _ => rfl
    | 5, _ => rfl
    | 6, _ => rfl
    | 7, _ => rfl
    | 8, _ => rfl
    | 9, _ => rfl
    | 10, _ => rfl
    | 11, _ => rfl
    | 12, _ => rfl
    | 13, _ => rfl
    | 14, _ => rfl
    | 15, _ => rfl
    | q + 16, hq => exact absurd hq (Nat.not_lt.mpr (Nat.le_add_left 16 q))
  refine gc_iconst (x := nI 0) (d_S_init 78 rfl) (by decide) ?_
  refine gc_istore_n (lv' := [(0, .ref (base + 0)), (1, .int (nI 0))]) (d_S_init 79 rfl) rfl (by decide) rfl ?_
  refine gc_S_L2 ?_ 12 0 (by omega) (by omega)
  refine gc_iconst (x := nI 0) (d_S_init 105 rfl) (by decide) ?_
  refine gc_istore_n (lv' := [(0, .ref (base + 0)), (1, .int (nI 0))]) (d_S_init 106 rfl) rfl (by decide) rfl ?_
  refine gc_S_L3 ?_ 40 0 (by omega) (by omega)
  exact gc_vret (d_S_init 132 rfl) rfl (by decide) (by decide) (fun _ _ => rfl)
