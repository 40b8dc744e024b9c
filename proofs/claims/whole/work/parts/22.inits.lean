/-! the small constructors (wip/whole/ctorgen.py) -/
set_option maxHeartbeats 4000000 in
set_option maxRecDepth 100000 in
theorem Cc_T_init {l : Launch} {G : go_G} {base N : Nat} {cell : Nat → va_E} (k : Nat) : Cc l G y_T_init (.code y_T_init c_T_init 1 none :: go_TT) (rmD 0 0) base N cell (fun _ => True) [.ref (base + k)] N cell := by
  refine gc_body (own := RT) (by decide) rfl rfl (Nat.le_of_ble_eq_true rfl) ?_
  show Gc l G (c_T_init, 1, none, RT, [], rmD 0 0) "<init>" _ (gc_E G base N cell 0 0) base N cell [(0, .ref (base + k))] 0 [] 0 0
  refine gc_aload_n (d_T_init 0 rfl) rfl rfl ?_
  refine gc_obj (d_T_init 1 rfl) w_62 w_48 w_49 ⟨by decide, Nat.le_of_ble_eq_true rfl⟩ ?_
  exact gc_vret (d_T_init 4 rfl) rfl (by decide) (by decide) (fun _ _ => rfl)
set_option maxHeartbeats 4000000 in
set_option maxRecDepth 100000 in
theorem Cc_U_init {l : Launch} {G : go_G} {base N : Nat} {cell : Nat → va_E} {k : Nat} (hk : k < N) (hc : cell k = .inr (2, [.int 0, .int 0, .int 0, .int 0])) : Cc l G y_U_init (.code y_U_init c_U_init 1 none :: go_TT) (rmD 0 0) base N cell (fun _ => True) [.ref (base + k)] N (va_up cell k (.inr (2, [.int 0, .int 0, .int (-1), .int (-1)]))) := by
  refine gc_body (own := RU) (by decide) rfl rfl (Nat.le_of_ble_eq_true rfl) ?_
  show Gc l G (c_U_init, 1, none, RU, [], rmD 0 0) "<init>" _ (gc_E G base N _ 0 0) base N cell [(0, .ref (base + k))] 0 [] 0 0
  refine gc_aload_n (d_U_init 0 rfl) rfl rfl ?_
  refine gc_obj (d_U_init 1 rfl) w_118 w_48 w_49 ⟨by decide, Nat.le_of_ble_eq_true rfl⟩ ?_
  refine gc_aload_n (d_U_init 4 rfl) rfl rfl ?_
  refine gc_iconst (x := 0) (d_U_init 5 rfl) (by decide) ?_
  refine gc_put (T := TU) (ty0 := tyU) (c := 2) (j := 1) (d_U_init 6 rfl) rfl in_U tyokU nmU (by decide) w_121 rfl rfl rfl rfl rfl hk hc (by decide) ?_
  refine gc_aload_n (d_U_init 9 rfl) rfl rfl ?_
  refine gc_iconst (x := (-1)) (d_U_init 10 rfl) (by decide) ?_
  refine gc_put (T := TU) (ty0 := tyU) (c := 2) (j := 2) (d_U_init 11 rfl) rfl in_U tyokU nmU (by decide) w_123 rfl rfl rfl rfl rfl hk (va_up_self _ _ _) (by decide) ?_
  refine gc_aload_n (d_U_init 14 rfl) rfl rfl ?_
  refine gc_iconst (x := (-1)) (d_U_init 15 rfl) (by decide) ?_
  refine gc_put (T := TU) (ty0 := tyU) (c := 2) (j := 3) (d_U_init 16 rfl) rfl in_U tyokU nmU (by decide) w_125 rfl rfl rfl rfl rfl hk (va_up_self _ _ _) (by decide) ?_
  refine gc_vret (d_U_init 19 rfl) rfl (by decide) (by decide) (fun q _ => ?_)
  by_cases hq : q = k
  · subst hq
    simp only [va_up_self]
    rfl
  · rw [va_up_ne _ _ hq, va_up_ne _ _ hq, va_up_ne _ _ hq, va_up_ne _ _ hq]
def f20 (i : Nat) : Nat → Int32 := fun j => if j < i then -1 else 0
def cI (G : go_G) (base N k : Nat) (cell : Nat → va_E) (i : Nat) : Nat → va_E := va_up (va_up cell k (.inr (0, [.int 0, .int 0, .int 0, .int 0, .int 0, .int 0, .int 0, .ref (base + N)]))) N (.inl (G.2.1 0, 20, .inl (f20 i)))
theorem f20_s {i : Nat} : upd (f20 i) i (-1) = f20 (i + 1) := by
  funext j
  unfold upd f20
  by_cases h : j = i
  · subst h
    simp
  · by_cases h2 : j < i
    · simp [h, h2, Nat.lt_succ_of_lt h2]
    · simp [h, h2, show ¬ j < i + 1 by omega]
theorem cI_up {G : go_G} {base N k i : Nat} {cell : Nat → va_E} : va_up (cI G base N k cell i) N (.inl (G.2.1 0, 20, .inl (f20 (i + 1)))) = cI G base N k cell (i + 1) := by
  funext q
  unfold cI
  by_cases h : q = N
  · subst h
    rw [va_up_self, va_up_self]
  · rw [va_up_ne _ _ h, va_up_ne _ _ h, va_up_ne _ _ h]
set_option maxHeartbeats 4000000 in
set_option maxRecDepth 100000 in
theorem gc_I_loop {l : Launch} {G : go_G} {base N : Nat} {cell : Nat → va_E} {k : Nat} (hk : k < N) {En : gc_En} (hend : Gc l G (c_I_init, 2, none, RI, [], { frames := 7, cells := 1, slots := 20, locals := 140 }) "<init>" (fun _ => True) En base (N + 1) (cI G base N k cell 20) [(0, .ref (base + k)), (1, .int (nI 20))] 33 [] 1 20) :
    ∀ n i, i ≤ 20 → 20 ≤ i + n → Gc l G (c_I_init, 2, none, RI, [], { frames := 7, cells := 1, slots := 20, locals := 140 }) "<init>" (fun _ => True) En base (N + 1) (cI G base N k cell i) [(0, .ref (base + k)), (1, .int (nI i))] 14 [] 1 20 := by
  intro n
  induction n with
  | zero =>
    intro i h1 h2
    obtain rfl : i = 20 := by omega
    refine gc_iload_n (d_I_init 14 rfl) rfl rfl ?_
    refine gc_bipush (x := nI 20) (d_I_init 15 rfl) (by decide) ?_
    refine gc_icmp_ge (tgt := 33) (d_I_init 17 rfl) (by decide) (fun _ => hend) (fun q => absurd (Int32.le_refl _) q)
  | succ n ih =>
    intro i h1 h2
    refine gc_iload_n (d_I_init 14 rfl) rfl rfl ?_
    refine gc_bipush (x := nI 20) (d_I_init 15 rfl) (by decide) ?_
    refine gc_icmp_ge (tgt := 33) (d_I_init 17 rfl) (by decide) (fun q => ?_) (fun q => ?_)
    · have hi : i = 20 := by
        rcases Nat.lt_or_ge i 20 with h | h
        · exact absurd q (nI_ge h (by decide))
        · omega
      subst hi
      exact hend
    · have hi : i < 20 := by
        rcases Nat.lt_or_ge i 20 with h | h
        · exact h
        · exact absurd (nI_le h (by omega)) q
      refine gc_aload_n (d_I_init 20 rfl) rfl rfl ?_
      refine gc_get (c := 0) (j := 7) (fs := [.int 0, .int 0, .int 0, .int 0, .int 0, .int 0, .int 0, .ref (base + N)]) (d_I_init 21 rfl) fl_I_9 (by omega) ?_ rfl ?_
      · unfold cI
        rw [va_up_ne _ _ (by omega), va_up_self]
      refine gc_iload_n (d_I_init 24 rfl) rfl rfl ?_
      refine gc_iconst (x := -1) (d_I_init 25 rfl) (by decide) ?_
      refine gc_iast (k := N) (n := 20) (i := i) (f := f20 i) (d_I_init 26 rfl) (by omega) ?_ hi (by decide) ?_
      · unfold cI
        rw [va_up_self]
      rw [f20_s, cI_up]
      refine gc_iinc (y := nI (i + 1)) (lv' := [(0, .ref (base + k)), (1, .int (nI (i + 1)))]) (d_I_init 27 rfl) rfl (nI_1 i) (by decide) rfl ?_
      refine gc_goto (tgt := 14) (d_I_init 30 rfl) (by decide) ?_
      exact ih (i + 1) hi (by omega)
set_option maxHeartbeats 4000000 in
set_option maxRecDepth 100000 in
theorem Cc_I_init {l : Launch} {G : go_G} {base N : Nat} {cell : Nat → va_E} {k : Nat} (hk : k < N) (hc : cell k = .inr (0, [.int 0, .int 0, .int 0, .int 0, .int 0, .int 0, .int 0, .null])) : Cc l G y_I_init (.code y_I_init c_I_init 2 none :: go_TT) { frames := 7, cells := 1, slots := 20, locals := 140 } base N cell (fun _ => True) [.ref (base + k)] (N + 1) (cI G base N k cell 20) := by
  refine gc_body (own := RI) (by decide) rfl rfl (Nat.le_of_ble_eq_true rfl) ?_
  show Gc l G (c_I_init, 2, none, RI, [], { frames := 7, cells := 1, slots := 20, locals := 140 }) "<init>" _ (gc_E G base (N + 1) (cI G base N k cell 20) 1 20) base N cell [(0, .ref (base + k))] 0 [] 0 0
  refine gc_aload_n (d_I_init 0 rfl) rfl rfl ?_
  refine gc_obj (d_I_init 1 rfl) w_87 w_48 w_49 ⟨by decide, Nat.le_of_ble_eq_true rfl⟩ ?_
  refine gc_aload_n (d_I_init 4 rfl) rfl rfl ?_
  refine gc_bipush (x := nI 20) (d_I_init 5 rfl) (by decide) ?_
  refine gc_newa (N' := 20) (t := 0) (a0 := (20, .inl (fun _ => 0))) (d_I_init 7 rfl) w_82 rfl (fun _ _ h => h) (fun cA => by rw [vp_cell_i]; rfl) (by decide) (by decide) (by decide) ⟨by decide, by decide⟩ ?_
  refine gc_putF (T := TI) (ty0 := tyI) (c := 0) (j := 7) (fs := [.int 0, .int 0, .int 0, .int 0, .int 0, .int 0, .int 0, .null]) (d_I_init 9 rfl) rfl rfl in_I tyokI nmI (by decide) w_95 rfl rfl rfl rfl rfl rfl (by omega) (by rw [va_up_ne _ _ (by omega)]; exact hc) (by decide) ?_
  refine gc_iconst (x := nI 0) (d_I_init 12 rfl) (by decide) ?_
  refine gc_istore_n (lv' := [(0, .ref (base + k)), (1, .int (nI 0))]) (d_I_init 13 rfl) rfl (by decide) rfl ?_
  refine gc_cell (cell' := cI G base N k cell 0) (fun q _ => ?_) (gc_I_loop hk ?_ 20 0 (by omega) (by omega))
  · unfold cI
    by_cases h1 : q = N
    · subst h1
      rw [va_up_ne _ _ (by omega), va_up_self, va_up_self]
      rfl
    · by_cases h2 : q = k
      · subst h2
        rw [va_up_self, va_up_ne _ _ h1, va_up_self]
        rfl
      · rw [va_up_ne _ _ h2, va_up_ne _ _ h1, va_up_ne _ _ h1, va_up_ne _ _ h2]
  · exact gc_vret (d_I_init 33 rfl) rfl (by decide) (by decide) (fun _ _ => rfl)
