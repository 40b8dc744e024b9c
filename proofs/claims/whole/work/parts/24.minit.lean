/-! the constructor of the reference (wip/whole/ctorgen2.py) -/
def mM (base : Nat) : List Value := [.int 0, .int 0, .int 0, .ref (base + 101), .int 0, .ref (base + 102), .ref (base + 103), .ref (base + 104), .ref (base + 105), .ref (base + 106), .int 0, .ref (base + 107), .ref (base + 108), .ref (base + 109), .ref (base + 110), .ref (base + 111), .ref (base + 112), .ref (base + 113), .ref (base + 114), .int 0, .ref (base + 115), .ref (base + 116), .ref (base + 117), .ref (base + 118), .int 0, .int 0, .int 0]
def mM0 : List Value := [.int 0, .int 0, .int 0, .null, .int 0, .null, .null, .null, .null, .null, .int 0, .null, .null, .null, .null, .null, .null, .null, .null, .int 0, .null, .null, .null, .null, .int 0, .int 0, .int 0]
def fM (i : Nat) : Nat → Int32 := fun j => if j < i then -1000000 else 0
def cM (G : go_G) (base : Nat) (cell : Nat → va_E) (i q : Nat) : va_E := if q < 100 then cell q else if q = 100 then .inr (4, mM base) else if q = 101 then .inl (G.2.1 0, 80, .inl (fun _ => 0)) else if q = 102 then .inl (G.2.1 0, 20, .inl (fun _ => 0)) else if q = 103 then .inl (G.2.1 0, 20, .inl (fun _ => 0)) else if q = 104 then .inl (G.2.1 0, 20, .inl (fun _ => 0)) else if q = 105 then .inl (G.2.1 0, 20, .inl (fun _ => 0)) else if q = 106 then .inl (G.2.1 0, 20, .inl (fun _ => 0)) else if q = 107 then .inl (G.2.1 1, 12, .inl (fun _ => 0)) else if q = 108 then .inl (G.2.1 0, 12, .inl (fun _ => 0)) else if q = 109 then .inl (G.2.1 0, 12, .inl (fun _ => 0)) else if q = 110 then .inl (G.2.1 0, 12, .inl (fun _ => 0)) else if q = 111 then .inl (G.2.1 0, 12, .inl (fun _ => 0)) else if q = 112 then .inl (G.2.1 0, 12, .inl (fun _ => 0)) else if q = 113 then .inl (G.2.1 0, 12, .inl (fun _ => 0)) else if q = 114 then .inl (G.2.1 0, 240, .inl (fM i)) else if q = 115 then .inl (G.2.1 0, 40, .inl (fun _ => 0)) else if q = 116 then .inl (G.2.1 0, 40, .inl (fun _ => 0)) else if q = 117 then .inl (G.2.1 0, 40, .inl (fun _ => 0)) else if q = 118 then .inl (G.2.1 0, 40, .inl (fun _ => 0)) else .inr (99, [])
theorem fM_s {i : Nat} : upd (fM i) i (-1000000) = fM (i + 1) := by
  funext j
  unfold upd fM
  by_cases h : j = i
  · subst h
    simp
  · by_cases h2 : j < i
    · simp [h, h2, Nat.lt_succ_of_lt h2]
    · simp [h, h2, show ¬ j < i + 1 by omega]
theorem cM_up {G : go_G} {base i : Nat} {cell : Nat → va_E} : va_up (cM G base cell i) 114 (.inl (G.2.1 0, 240, .inl (fM (i + 1)))) = cM G base cell (i + 1) := by
  funext q
  by_cases h : q = 114
  · subst h
    rfl
  · rw [va_up_ne _ _ h]
    unfold cM
    simp only [if_neg h]
set_option maxHeartbeats 4000000 in
set_option maxRecDepth 100000 in
theorem gc_M_loop {l : Launch} {G : go_G} {base : Nat} {cell : Nat → va_E} {En : gc_En} (hend : Gc l G (c_M_init, 2, none, RM, [], { frames := 7, cells := 18, slots := 664, locals := 140 }) "<init>" (fun _ => True) En base 119 (cM G base cell 240) [(0, .ref (base + 100)), (1, .int (nI 240))] 172 [] 18 664) : ∀ n i, i ≤ 240 → 240 ≤ i + n → Gc l G (c_M_init, 2, none, RM, [], { frames := 7, cells := 18, slots := 664, locals := 140 }) "<init>" (fun _ => True) En base 119 (cM G base cell i) [(0, .ref (base + 100)), (1, .int (nI i))] 151 [] 18 664 := by
  have key : ∀ i, i ≤ 240 → (i < 240 → Gc l G (c_M_init, 2, none, RM, [], { frames := 7, cells := 18, slots := 664, locals := 140 }) "<init>" (fun _ => True) En base 119 (cM G base cell i) [(0, .ref (base + 100)), (1, .int (nI i))] 158 [] 18 664) → Gc l G (c_M_init, 2, none, RM, [], { frames := 7, cells := 18, slots := 664, locals := 140 }) "<init>" (fun _ => True) En base 119 (cM G base cell i) [(0, .ref (base + 100)), (1, .int (nI i))] 151 [] 18 664 := by
    intro i h1 hgo
    refine gc_iload_n (d_M_init 151 rfl) rfl rfl ?_
    refine gc_sipush (x := nI 240) (d_M_init 152 rfl) (by decide) ?_
    refine gc_icmp_ge (tgt := 172) (d_M_init 155 rfl) (by decide) (fun q => ?_) (fun q => ?_)
    · have hi : i = 240 := by
        rcases Nat.lt_or_ge i 240 with h | h
        · exact absurd q (nI_ge h (by decide))
        · omega
      subst hi
      exact hend
    · exact hgo (by
        rcases Nat.lt_or_ge i 240 with h | h
        · exact h
        · exact absurd (nI_le h (by omega)) q)
  intro n
  induction n with
  | zero =>
    intro i h1 h2
    exact key i h1 (fun h => absurd h (by omega))
  | succ n ih =>
    intro i h1 h2
    refine key i h1 (fun hi => ?_)
    refine gc_aload_n (d_M_init 158 rfl) rfl rfl ?_
    refine gc_get (k := 100) (c := 4) (j := 18) (fs := mM base) (d_M_init 159 rfl) fl_M_50 (by omega) rfl rfl ?_
    refine gc_iload_n (d_M_init 162 rfl) rfl rfl ?_
    refine gc_ldc (x := -1000000) (d_M_init 163 rfl) w_546 ?_
    refine gc_iast (k := 114) (n := 240) (i := i) (f := fM i) (d_M_init 165 rfl) (by omega) rfl hi (by decide) ?_
    rw [fM_s, cM_up]
    refine gc_iinc (y := nI (i + 1)) (lv' := [(0, .ref (base + 100)), (1, .int (nI (i + 1)))]) (d_M_init 166 rfl) rfl (nI_1 i) (by decide) rfl ?_
    refine gc_goto (tgt := 151) (d_M_init 169 rfl) (by decide) ?_
    exact ih (i + 1) hi (by omega)
set_option maxHeartbeats 4000000 in
set_option maxRecDepth 100000 in
theorem Cc_M_init {l : Launch} {G : go_G} {base : Nat} {cell : Nat → va_E} (hc : cell 100 = .inr (4, mM0)) : Cc l G y_M_init (.code y_M_init c_M_init 2 none :: go_TT) { frames := 7, cells := 18, slots := 664, locals := 140 } base 101 cell (fun _ => True) [.ref (base + 100)] 119 (cM G base cell 240) := by
  refine gc_body (own := RM) (by decide) rfl rfl (Nat.le_of_ble_eq_true rfl) ?_
  show Gc l G (c_M_init, 2, none, RM, [], { frames := 7, cells := 18, slots := 664, locals := 140 }) "<init>" _ (gc_E G base 119 (cM G base cell 240) 18 664) base 101 cell [(0, .ref (base + 100))] 0 [] 0 0
  refine gc_aload_n (d_M_init 0 rfl) rfl rfl ?_
  refine gc_obj (d_M_init 1 rfl) w_545 w_48 w_49 ⟨by decide, Nat.le_of_ble_eq_true rfl⟩ ?_
  refine gc_aload_n (d_M_init 4 rfl) rfl rfl ?_
  refine gc_bipush (x := 80) (d_M_init 5 rfl) (by decide) ?_
  refine gc_newa (N' := 80) (t := 0) (a0 := (80, .inl (fun _ => 0))) (d_M_init 7 rfl) w_82 rfl (fun _ _ h => h) (fun cA => by rw [vp_cell_i]; rfl) (by decide) (by decide) (by decide) ⟨by decide, by decide⟩ ?_
  refine gc_putF (k := 100) (T := TM) (ty0 := tyM) (c := 4) (j := 3) (fs := mM0) (d_M_init 9 rfl) rfl rfl in_M tyokM nmM (by decide) w_550 rfl rfl rfl rfl rfl rfl (by decide) (by rw [va_up_ne _ _ (by decide)]; exact hc) (Nat.le_of_ble_eq_true rfl) ?_
  refine gc_aload_n (d_M_init 12 rfl) rfl rfl ?_
  refine gc_bipush (x := 20) (d_M_init 13 rfl) (by decide) ?_
  refine gc_newa (N' := 20) (t := 0) (a0 := (20, .inl (fun _ => 0))) (d_M_init 15 rfl) w_82 rfl (fun _ _ h => h) (fun cA => by rw [vp_cell_i]; rfl) (by decide) (by decide) (by decide) ⟨by decide, by decide⟩ ?_
  refine gc_putF (k := 100) (T := TM) (ty0 := tyM) (c := 4) (j := 5) (fs := [.int 0, .int 0, .int 0, .ref (base + 101), .int 0, .null, .null, .null, .null, .null, .int 0, .null, .null, .null, .null, .null, .null, .null, .null, .int 0, .null, .null, .null, .null, .int 0, .int 0, .int 0]) (d_M_init 17 rfl) rfl rfl in_M tyokM nmM (by decide) w_552 rfl rfl rfl rfl rfl rfl (by decide) (by rw [va_up_ne _ _ (by decide), va_up_self]; rfl) (Nat.le_of_ble_eq_true rfl) ?_
  refine gc_aload_n (d_M_init 20 rfl) rfl rfl ?_
  refine gc_bipush (x := 20) (d_M_init 21 rfl) (by decide) ?_
  refine gc_newa (N' := 20) (t := 0) (a0 := (20, .inl (fun _ => 0))) (d_M_init 23 rfl) w_82 rfl (fun _ _ h => h) (fun cA => by rw [vp_cell_i]; rfl) (by decide) (by decide) (by decide) ⟨by decide, by decide⟩ ?_
  refine gc_putF (k := 100) (T := TM) (ty0 := tyM) (c := 4) (j := 6) (fs := [.int 0, .int 0, .int 0, .ref (base + 101), .int 0, .ref (base + 102), .null, .null, .null, .null, .int 0, .null, .null, .null, .null, .null, .null, .null, .null, .int 0, .null, .null, .null, .null, .int 0, .int 0, .int 0]) (d_M_init 25 rfl) rfl rfl in_M tyokM nmM (by decide) w_553 rfl rfl rfl rfl rfl rfl (by decide) (by rw [va_up_ne _ _ (by decide), va_up_self]; rfl) (Nat.le_of_ble_eq_true rfl) ?_
  refine gc_aload_n (d_M_init 28 rfl) rfl rfl ?_
  refine gc_bipush (x := 20) (d_M_init 29 rfl) (by decide) ?_
  refine gc_newa (N' := 20) (t := 0) (a0 := (20, .inl (fun _ => 0))) (d_M_init 31 rfl) w_82 rfl (fun _ _ h => h) (fun cA => by rw [vp_cell_i]; rfl) (by decide) (by decide) (by decide) ⟨by decide, by decide⟩ ?_
  refine gc_putF (k := 100) (T := TM) (ty0 := tyM) (c := 4) (j := 7) (fs := [.int 0, .int 0, .int 0, .ref (base + 101), .int 0, .ref (base + 102), .ref (base + 103), .null, .null, .null, .int 0, .null, .null, .null, .null, .null, .null, .null, .null, .int 0, .null, .null, .null, .null, .int 0, .int 0, .int 0]) (d_M_init 33 rfl) rfl rfl in_M tyokM nmM (by decide) w_554 rfl rfl rfl rfl rfl rfl (by decide) (by rw [va_up_ne _ _ (by decide), va_up_self]; rfl) (Nat.le_of_ble_eq_true rfl) ?_
  refine gc_aload_n (d_M_init 36 rfl) rfl rfl ?_
  refine gc_bipush (x := 20) (d_M_init 37 rfl) (by decide) ?_
  refine gc_newa (N' := 20) (t := 0) (a0 := (20, .inl (fun _ => 0))) (d_M_init 39 rfl) w_82 rfl (fun _ _ h => h) (fun cA => by rw [vp_cell_i]; rfl) (by decide) (by decide) (by decide) ⟨by decide, by decide⟩ ?_
  refine gc_putF (k := 100) (T := TM) (ty0 := tyM) (c := 4) (j := 8) (fs := [.int 0, .int 0, .int 0, .ref (base + 101), .int 0, .ref (base + 102), .ref (base + 103), .ref (base + 104), .null, .null, .int 0, .null, .null, .null, .null, .null, .null, .null, .null, .int 0, .null, .null, .null, .null, .int 0, .int 0, .int 0]) (d_M_init 41 rfl) rfl rfl in_M tyokM nmM (by decide) w_555 rfl rfl rfl rfl rfl rfl (by decide) (by rw [va_up_ne _ _ (by decide), va_up_self]; rfl) (Nat.le_of_ble_eq_true rfl) ?_
  refine gc_aload_n (d_M_init 44 rfl) rfl rfl ?_
  refine gc_bipush (x := 20) (d_M_init 45 rfl) (by decide) ?_
  refine gc_newa (N' := 20) (t := 0) (a0 := (20, .inl (fun _ => 0))) (d_M_init 47 rfl) w_82 rfl (fun _ _ h => h) (fun cA => by rw [vp_cell_i]; rfl) (by decide) (by decide) (by decide) ⟨by decide, by decide⟩ ?_
  refine gc_putF (k := 100) (T := TM) (ty0 := tyM) (c := 4) (j := 9) (fs := [.int 0, .int 0, .int 0, .ref (base + 101), .int 0, .ref (base + 102), .ref (base + 103), .ref (base + 104), .ref (base + 105), .null, .int 0, .null, .null, .null, .null, .null, .null, .null, .null, .int 0, .null, .null, .null, .null, .int 0, .int 0, .int 0]) (d_M_init 49 rfl) rfl rfl in_M tyokM nmM (by decide) w_556 rfl rfl rfl rfl rfl rfl (by decide) (by rw [va_up_ne _ _ (by decide), va_up_self]; rfl) (Nat.le_of_ble_eq_true rfl) ?_
  refine gc_aload_n (d_M_init 52 rfl) rfl rfl ?_
  refine gc_bipush (x := 12) (d_M_init 53 rfl) (by decide) ?_
  refine gc_newa (N' := 12) (t := 1) (a0 := (12, .inl (fun _ => 0))) (d_M_init 55 rfl) w_629 rfl (fun _ _ h => h) (fun cA => by rw [vp_cell_i]; rfl) (by decide) (by decide) (by decide) ⟨by decide, by decide⟩ ?_
  refine gc_putF (k := 100) (T := TM) (ty0 := tyM) (c := 4) (j := 11) (fs := [.int 0, .int 0, .int 0, .ref (base + 101), .int 0, .ref (base + 102), .ref (base + 103), .ref (base + 104), .ref (base + 105), .ref (base + 106), .int 0, .null, .null, .null, .null, .null, .null, .null, .null, .int 0, .null, .null, .null, .null, .int 0, .int 0, .int 0]) (d_M_init 57 rfl) rfl rfl in_M tyokM nmM (by decide) w_558 rfl rfl rfl rfl rfl rfl (by decide) (by rw [va_up_ne _ _ (by decide), va_up_self]; rfl) (Nat.le_of_ble_eq_true rfl) ?_
  refine gc_aload_n (d_M_init 60 rfl) rfl rfl ?_
  refine gc_bipush (x := 12) (d_M_init 61 rfl) (by decide) ?_
  refine gc_newa (N' := 12) (t := 0) (a0 := (12, .inl (fun _ => 0))) (d_M_init 63 rfl) w_82 rfl (fun _ _ h => h) (fun cA => by rw [vp_cell_i]; rfl) (by decide) (by decide) (by decide) ⟨by decide, by decide⟩ ?_
  refine gc_putF (k := 100) (T := TM) (ty0 := tyM) (c := 4) (j := 12) (fs := [.int 0, .int 0, .int 0, .ref (base + 101), .int 0, .ref (base + 102), .ref (base + 103), .ref (base + 104), .ref (base + 105), .ref (base + 106), .int 0, .ref (base + 107), .null, .null, .null, .null, .null, .null, .null, .int 0, .null, .null, .null, .null, .int 0, .int 0, .int 0]) (d_M_init 65 rfl) rfl rfl in_M tyokM nmM (by decide) w_559 rfl rfl rfl rfl rfl rfl (by decide) (by rw [va_up_ne _ _ (by decide), va_up_self]; rfl) (Nat.le_of_ble_eq_true rfl) ?_
  refine gc_aload_n (d_M_init 68 rfl) rfl rfl ?_
  refine gc_bipush (x := 12) (d_M_init 69 rfl) (by decide) ?_
  refine gc_newa (N' := 12) (t := 0) (a0 := (12, .inl (fun _ => 0))) (d_M_init 71 rfl) w_82 rfl (fun _ _ h => h) (fun cA => by rw [vp_cell_i]; rfl) (by decide) (by decide) (by decide) ⟨by decide, by decide⟩ ?_
  refine gc_putF (k := 100) (T := TM) (ty0 := tyM) (c := 4) (j := 13) (fs := [.int 0, .int 0, .int 0, .ref (base + 101), .int 0, .ref (base + 102), .ref (base + 103), .ref (base + 104), .ref (base + 105), .ref (base + 106), .int 0, .ref (base + 107), .ref (base + 108), .null, .null, .null, .null, .null, .null, .int 0, .null, .null, .null, .null, .int 0, .int 0, .int 0]) (d_M_init 73 rfl) rfl rfl in_M tyokM nmM (by decide) w_560 rfl rfl rfl rfl rfl rfl (by decide) (by rw [va_up_ne _ _ (by decide), va_up_self]; rfl) (Nat.le_of_ble_eq_true rfl) ?_
  refine gc_aload_n (d_M_init 76 rfl) rfl rfl ?_
  refine gc_bipush (x := 12) (d_M_init 77 rfl) (by decide) ?_
  refine gc_newa (N' := 12) (t := 0) (a0 := (12, .inl (fun _ => 0))) (d_M_init 79 rfl) w_82 rfl (fun _ _ h => h) (fun cA => by rw [vp_cell_i]; rfl) (by decide) (by decide) (by decide) ⟨by decide, by decide⟩ ?_
  refine gc_putF (k := 100) (T := TM) (ty0 := tyM) (c := 4) (j := 14) (fs := [.int 0, .int 0, .int 0, .ref (base + 101), .int 0, .ref (base + 102), .ref (base + 103), .ref (base + 104), .ref (base + 105), .ref (base + 106), .int 0, .ref (base + 107), .ref (base + 108), .ref (base + 109), .null, .null, .null, .null, .null, .int 0, .null, .null, .null, .null, .int 0, .int 0, .int 0]) (d_M_init 81 rfl) rfl rfl in_M tyokM nmM (by decide) w_561 rfl rfl rfl rfl rfl rfl (by decide) (by rw [va_up_ne _ _ (by decide), va_up_self]; rfl) (Nat.le_of_ble_eq_true rfl) ?_
  refine gc_aload_n (d_M_init 84 rfl) rfl rfl ?_
  refine gc_bipush (x := 12) (d_M_init 85 rfl) (by decide) ?_
  refine gc_newa (N' := 12) (t := 0) (a0 := (12, .inl (fun _ => 0))) (d_M_init 87 rfl) w_82 rfl (fun _ _ h => h) (fun cA => by rw [vp_cell_i]; rfl) (by decide) (by decide) (by decide) ⟨by decide, by decide⟩ ?_
  refine gc_putF (k := 100) (T := TM) (ty0 := tyM) (c := 4) (j := 15) (fs := [.int 0, .int 0, .int 0, .ref (base + 101), .int 0, .ref (base + 102), .ref (base + 103), .ref (base + 104), .ref (base + 105), .ref (base + 106), .int 0, .ref (base + 107), .ref (base + 108), .ref (base + 109), .ref (base + 110), .null, .null, .null, .null, .int 0, .null, .null, .null, .null, .int 0, .int 0, .int 0]) (d_M_init 89 rfl) rfl rfl in_M tyokM nmM (by decide) w_562 rfl rfl rfl rfl rfl rfl (by decide) (by rw [va_up_ne _ _ (by decide), va_up_self]; rfl) (Nat.le_of_ble_eq_true rfl) ?_
  refine gc_aload_n (d_M_init 92 rfl) rfl rfl ?_
  refine gc_bipush (x := 12) (d_M_init 93 rfl) (by decide) ?_
  refine gc_newa (N' := 12) (t := 0) (a0 := (12, .inl (fun _ => 0))) (d_M_init 95 rfl) w_82 rfl (fun _ _ h => h) (fun cA => by rw [vp_cell_i]; rfl) (by decide) (by decide) (by decide) ⟨by decide, by decide⟩ ?_
  refine gc_putF (k := 100) (T := TM) (ty0 := tyM) (c := 4) (j := 16) (fs := [.int 0, .int 0, .int 0, .ref (base + 101), .int 0, .ref (base + 102), .ref (base + 103), .ref (base + 104), .ref (base + 105), .ref (base + 106), .int 0, .ref (base + 107), .ref (base + 108), .ref (base + 109), .ref (base + 110), .ref (base + 111), .null, .null, .null, .int 0, .null, .null, .null, .null, .int 0, .int 0, .int 0]) (d_M_init 97 rfl) rfl rfl in_M tyokM nmM (by decide) w_563 rfl rfl rfl rfl rfl rfl (by decide) (by rw [va_up_ne _ _ (by decide), va_up_self]; rfl) (Nat.le_of_ble_eq_true rfl) ?_
  refine gc_aload_n (d_M_init 100 rfl) rfl rfl ?_
  refine gc_bipush (x := 12) (d_M_init 101 rfl) (by decide) ?_
  refine gc_newa (N' := 12) (t := 0) (a0 := (12, .inl (fun _ => 0))) (d_M_init 103 rfl) w_82 rfl (fun _ _ h => h) (fun cA => by rw [vp_cell_i]; rfl) (by decide) (by decide) (by decide) ⟨by decide, by decide⟩ ?_
  refine gc_putF (k := 100) (T := TM) (ty0 := tyM) (c := 4) (j := 17) (fs := [.int 0, .int 0, .int 0, .ref (base + 101), .int 0, .ref (base + 102), .ref (base + 103), .ref (base + 104), .ref (base + 105), .ref (base + 106), .int 0, .ref (base + 107), .ref (base + 108), .ref (base + 109), .ref (base + 110), .ref (base + 111), .ref (base + 112), .null, .null, .int 0, .null, .null, .null, .null, .int 0, .int 0, .int 0]) (d_M_init 105 rfl) rfl rfl in_M tyokM nmM (by decide) w_564 rfl rfl rfl rfl rfl rfl (by decide) (by rw [va_up_ne _ _ (by decide), va_up_self]; rfl) (Nat.le_of_ble_eq_true rfl) ?_
  refine gc_aload_n (d_M_init 108 rfl) rfl rfl ?_
  refine gc_sipush (x := 240) (d_M_init 109 rfl) (by decide) ?_
  refine gc_newa (N' := 240) (t := 0) (a0 := (240, .inl (fun _ => 0))) (d_M_init 112 rfl) w_82 rfl (fun _ _ h => h) (fun cA => by rw [vp_cell_i]; rfl) (by decide) (by decide) (by decide) ⟨by decide, by decide⟩ ?_
  refine gc_putF (k := 100) (T := TM) (ty0 := tyM) (c := 4) (j := 18) (fs := [.int 0, .int 0, .int 0, .ref (base + 101), .int 0, .ref (base + 102), .ref (base + 103), .ref (base + 104), .ref (base + 105), .ref (base + 106), .int 0, .ref (base + 107), .ref (base + 108), .ref (base + 109), .ref (base + 110), .ref (base + 111), .ref (base + 112), .ref (base + 113), .null, .int 0, .null, .null, .null, .null, .int 0, .int 0, .int 0]) (d_M_init 114 rfl) rfl rfl in_M tyokM nmM (by decide) w_565 rfl rfl rfl rfl rfl rfl (by decide) (by rw [va_up_ne _ _ (by decide), va_up_self]; rfl) (Nat.le_of_ble_eq_true rfl) ?_
  refine gc_aload_n (d_M_init 117 rfl) rfl rfl ?_
  refine gc_bipush (x := 40) (d_M_init 118 rfl) (by decide) ?_
  refine gc_newa (N' := 40) (t := 0) (a0 := (40, .inl (fun _ => 0))) (d_M_init 120 rfl) w_82 rfl (fun _ _ h => h) (fun cA => by rw [vp_cell_i]; rfl) (by decide) (by decide) (by decide) ⟨by decide, by decide⟩ ?_
  refine gc_putF (k := 100) (T := TM) (ty0 := tyM) (c := 4) (j := 20) (fs := [.int 0, .int 0, .int 0, .ref (base + 101), .int 0, .ref (base + 102), .ref (base + 103), .ref (base + 104), .ref (base + 105), .ref (base + 106), .int 0, .ref (base + 107), .ref (base + 108), .ref (base + 109), .ref (base + 110), .ref (base + 111), .ref (base + 112), .ref (base + 113), .ref (base + 114), .int 0, .null, .null, .null, .null, .int 0, .int 0, .int 0]) (d_M_init 122 rfl) rfl rfl in_M tyokM nmM (by decide) w_567 rfl rfl rfl rfl rfl rfl (by decide) (by rw [va_up_ne _ _ (by decide), va_up_self]; rfl) (Nat.le_of_ble_eq_true rfl) ?_
  refine gc_aload_n (d_M_init 125 rfl) rfl rfl ?_
  refine gc_bipush (x := 40) (d_M_init 126 rfl) (by decide) ?_
  refine gc_newa (N' := 40) (t := 0) (a0 := (40, .inl (fun _ => 0))) (d_M_init 128 rfl) w_82 rfl (fun _ _ h => h) (fun cA => by rw [vp_cell_i]; rfl) (by decide) (by decide) (by decide) ⟨by decide, by decide⟩ ?_
  refine gc_putF (k := 100) (T := TM) (ty0 := tyM) (c := 4) (j := 21) (fs := [.int 0, .int 0, .int 0, .ref (base + 101), .int 0, .ref (base + 102), .ref (base + 103), .ref (base + 104), .ref (base + 105), .ref (base + 106), .int 0, .ref (base + 107), .ref (base + 108), .ref (base + 109), .ref (base + 110), .ref (base + 111), .ref (base + 112), .ref (base + 113), .ref (base + 114), .int 0, .ref (base + 115), .null, .null, .null, .int 0, .int 0, .int 0]) (d_M_init 130 rfl) rfl rfl in_M tyokM nmM (by decide) w_568 rfl rfl rfl rfl rfl rfl (by decide) (by rw [va_up_ne _ _ (by decide), va_up_self]; rfl) (Nat.le_of_ble_eq_true rfl) ?_
  refine gc_aload_n (d_M_init 133 rfl) rfl rfl ?_
  refine gc_bipush (x := 40) (d_M_init 134 rfl) (by decide) ?_
  refine gc_newa (N' := 40) (t := 0) (a0 := (40, .inl (fun _ => 0))) (d_M_init 136 rfl) w_82 rfl (fun _ _ h => h) (fun cA => by rw [vp_cell_i]; rfl) (by decide) (by decide) (by decide) ⟨by decide, by decide⟩ ?_
  refine gc_putF (k := 100) (T := TM) (ty0 := tyM) (c := 4) (j := 22) (fs := [.int 0, .int 0, .int 0, .ref (base + 101), .int 0, .ref (base + 102), .ref (base + 103), .ref (base + 104), .ref (base + 105), .ref (base + 106), .int 0, .ref (base + 107), .ref (base + 108), .ref (base + 109), .ref (base + 110), .ref (base + 111), .ref (base + 112), .ref (base + 113), .ref (base + 114), .int 0, .ref (base + 115), .ref (base + 116), .null, .null, .int 0, .int 0, .int 0]) (d_M_init 138 rfl) rfl rfl in_M tyokM nmM (by decide) w_569 rfl rfl rfl rfl rfl rfl (by decide) (by rw [va_up_ne _ _ (by decide), va_up_self]; rfl) (Nat.le_of_ble_eq_true rfl) ?_
  refine gc_aload_n (d_M_init 141 rfl) rfl rfl ?_
  refine gc_bipush (x := 40) (d_M_init 142 rfl) (by decide) ?_
  refine gc_newa (N' := 40) (t := 0) (a0 := (40, .inl (fun _ => 0))) (d_M_init 144 rfl) w_82 rfl (fun _ _ h => h) (fun cA => by rw [vp_cell_i]; rfl) (by decide) (by decide) (by decide) ⟨by decide, by decide⟩ ?_
  refine gc_putF (k := 100) (T := TM) (ty0 := tyM) (c := 4) (j := 23) (fs := [.int 0, .int 0, .int 0, .ref (base + 101), .int 0, .ref (base + 102), .ref (base + 103), .ref (base + 104), .ref (base + 105), .ref (base + 106), .int 0, .ref (base + 107), .ref (base + 108), .ref (base + 109), .ref (base + 110), .ref (base + 111), .ref (base + 112), .ref (base + 113), .ref (base + 114), .int 0, .ref (base + 115), .ref (base + 116), .ref (base + 117), .null, .int 0, .int 0, .int 0]) (d_M_init 146 rfl) rfl rfl in_M tyokM nmM (by decide) w_570 rfl rfl rfl rfl rfl rfl (by decide) (by rw [va_up_ne _ _ (by decide), va_up_self]; rfl) (Nat.le_of_ble_eq_true rfl) ?_
  refine gc_iconst (x := nI 0) (d_M_init 149 rfl) (by decide) ?_
  refine gc_istore_n (lv' := [(0, .ref (base + 100)), (1, .int (nI 0))]) (d_M_init 150 rfl) rfl (by decide) rfl ?_
  refine gc_cell (cell' := cM G base cell 0) (fun q hq => ?_) (gc_M_loop ?_ 240 0 (by omega) (by omega))
  · by_cases h : q < 100
    · unfold cM
      rw [if_pos h]
      repeat rw [va_up_ne _ _ (by omega)]
    · obtain ⟨z, rfl⟩ : ∃ z, q = 100 + z := ⟨q - 100, by omega⟩
      have hz : z < 19 := by have : 100 + z < 119 := hq; omega
      match z, hz with
      | 0, _ => rfl
      | 1, _ => rfl
      | 2, _ => rfl
      | 3, _ => rfl
      | 4, _ => rfl
      | 5, _ => rfl
      | 6, _ => rfl
      | 7, _ => rfl
      | 8, _ => rfl
      | 9, _ => rfl
      | 10, _ => rfl
      | 11, _ => rfl
      | 12, _ => rfl
      | 13, _ => rfl
      | 14, _ => rfl
      | 15, _ => rfl
      | 16, _ => rfl
      | 17, _ => rfl
      | 18, _ => rfl
      | z + 19, hz => exact absurd hz (by omega)
  · exact gc_vret (d_M_init 172 rfl) rfl (by decide) (by decide) (fun _ _ => rfl)
