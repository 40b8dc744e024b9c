/-! the law from its entry to its loop (wip/whole/wholegen.py) -/
theorem w_42 : Cond.classLink RL 8 RS ∈ go_TT := go_tt 42 (by decide +kernel) rfl
theorem w_44 : Cond.methodLink RL 80 y_S_init ∈ go_TT := go_tt 44 (by decide +kernel) rfl
theorem w_46 : Cond.code y_S_init c_S_init 2 none ∈ go_TT := go_tt 46 (by decide +kernel) rfl
theorem w_45 : Cond.instanceMethod y_S_init ∈ go_TT := go_tt 45 (by decide +kernel) rfl
theorem w_540 : Cond.classLink RL 81 RM ∈ go_TT := go_tt 540 (by decide +kernel) rfl
theorem w_542 : Cond.methodLink RL 83 y_M_init ∈ go_TT := go_tt 542 (by decide +kernel) rfl
theorem w_544 : Cond.code y_M_init c_M_init 2 none ∈ go_TT := go_tt 544 (by decide +kernel) rfl
theorem w_543 : Cond.instanceMethod y_M_init ∈ go_TT := go_tt 543 (by decide +kernel) rfl
def v0 : go_V := fun k j => if 48 ≤ k ∧ k < 60 then f20 20 j else if 60 ≤ k ∧ k < 100 then (if j = 2 ∨ j = 3 then -1 else 0) else if k = 114 then fM 240 j else 0
def go_pos (k : Nat) : Nat := if 36 ≤ k ∧ k < 48 then 36 + 2 * (k - 36) else if 48 ≤ k ∧ k < 60 then 37 + 2 * (k - 48) else k
def cF (G : go_G) (base : Nat) : Nat → va_E := va_up (cM G base (va_up (cS G base 20 12 40) 100 (.inr (4, mM0))) 240) 119 (.inl (G.2.1 2, 1, .inr (.inl (fun _ => 0))))
theorem go_refeq {D : va_G} {cl : List vw_C} {a c n : Nat} {f g : Nat → Option Nat} {H : Heap} (h : ∀ j, j < n → f j = g j) (hv : va_at D cl (a, .inl (c, n, .inr (.inr (.inr (.inr f))))) H) : va_at D cl (a, .inl (c, n, .inr (.inr (.inr (.inr g))))) H := by
  have e : H[a]? = some (vp_cell c (n, .inr (.inr (.inr (.inr f))))) := hv
  show H[a]? = some (vp_cell c (n, .inr (.inr (.inr (.inr g)))))
  rw [e, vp_cell_q, vp_cell_q]
  unfold arrV
  congr 3
  funext j
  show va_rf (f j.val) = va_rf (g j.val)
  rw [h j.val j.isLt]
theorem go_pos_lt {k : Nat} (h : k < 120) : go_pos k < 120 := by
  unfold go_pos
  split
  · omega
  · split <;> omega
theorem go_pos_inj {i j : Nat} (e : go_pos i = go_pos j) : i = j := by
  unfold go_pos at e
  split at e <;> split at e <;> (try split at e) <;> (try split at e) <;> omega
set_option maxHeartbeats 4000000 in
set_option maxRecDepth 100000 in
theorem go_world {G : go_G} {base : Nat} {H : Heap} (h : va_P G.1 go_cl (gW base 120 (cF G base)) H) : va_P G.1 go_cl (go_W G (fun k => base + go_pos k) v0) H := by
  have h2 : ∀ q, q < 120 → va_at G.1 go_cl (base + q, cF G base q) H := fun q hq => h q _ (ww_get hq)
  intro k q hk
  obtain ⟨hk2, rfl⟩ := ww_key hk
  clear hk h
  have s1 : va_at G.1 go_cl (base + go_pos 1, cel G.2.1 (fun k => base + go_pos k) v0 1) H := by
    refine go_refeq (a := base + 1) (c := G.2.1 6) (n := 10) (f := fun j => if j < 10 then some (base + 1 + 1 + j) else none) (g := fun j => some (base + go_pos (go_elt 1 j))) (fun j hj => ?_) (h2 1 (by decide))
    have e1 : go_elt 1 j = 2 + j := by
      unfold go_elt
      rw [if_pos rfl]
    have e2 : go_pos (2 + j) = 2 + j := by
      unfold go_pos
      split
      · omega
      · split <;> omega
    rw [if_pos hj, e1, e2]
    congr 1
    omega
  have s12 : va_at G.1 go_cl (base + go_pos 12, cel G.2.1 (fun k => base + go_pos k) v0 12) H := by
    refine go_refeq (a := base + 12) (c := G.2.1 3) (n := 20) (f := fun j => if j < 20 then some (base + (16 + j)) else none) (g := fun j => some (base + go_pos (go_elt 12 j))) (fun j hj => ?_) (h2 12 (by decide))
    have e1 : go_elt 12 j = 16 + j := by
      unfold go_elt
      rw [if_neg (by decide), if_pos rfl]
    have e2 : go_pos (16 + j) = 16 + j := by
      unfold go_pos
      split
      · omega
      · split <;> omega
    rw [if_pos hj, e1, e2]
  have s14 : va_at G.1 go_cl (base + go_pos 14, cel G.2.1 (fun k => base + go_pos k) v0 14) H := by
    refine go_refeq (a := base + 14) (c := G.2.1 4) (n := 12) (f := fun j => if j < 12 then some (base + (36 + 2 * j)) else none) (g := fun j => some (base + go_pos (go_elt 14 j))) (fun j hj => ?_) (h2 14 (by decide))
    have e1 : go_elt 14 j = 36 + j := by
      unfold go_elt
      rw [if_neg (by decide), if_neg (by decide), if_pos rfl]
    have e2 : go_pos (36 + j) = 36 + 2 * j := by
      unfold go_pos
      split
      · omega
      · split <;> omega
    rw [if_pos hj, e1, e2]
  have s15 : va_at G.1 go_cl (base + go_pos 15, cel G.2.1 (fun k => base + go_pos k) v0 15) H := by
    refine go_refeq (a := base + 15) (c := G.2.1 5) (n := 40) (f := fun j => if j < 40 then some (base + (60 + j)) else none) (g := fun j => some (base + go_pos (go_elt 15 j))) (fun j hj => ?_) (h2 15 (by decide))
    have e1 : go_elt 15 j = 60 + j := by
      unfold go_elt
      rw [if_neg (by decide), if_neg (by decide), if_neg (by decide)]
    have e2 : go_pos (60 + j) = 60 + j := by
      unfold go_pos
      split
      · omega
      · split <;> omega
    rw [if_pos hj, e1, e2]
  have key : ∀ k, k < 120 → va_at G.1 go_cl (base + go_pos k, cel G.2.1 (fun k => base + go_pos k) v0 k) H := by
    intro k hk2
    match k, hk2 with
    | 0, _ => exact h2 0 (by decide)
    | 1, _ => exact s1
    | 2, _ => exact h2 2 (by decide)
    | 3, _ => exact h2 3 (by decide)
    | 4, _ => exact h2 4 (by decide)
    | 5, _ => exact h2 5 (by decide)
    | 6, _ => exact h2 6 (by decide)
    | 7, _ => exact h2 7 (by decide)
    | 8, _ => exact h2 8 (by decide)
    | 9, _ => exact h2 9 (by decide)
    | 10, _ => exact h2 10 (by decide)
    | 11, _ => exact h2 11 (by decide)
    | 12, _ => exact s12
    | 13, _ => exact h2 13 (by decide)
    | 14, _ => exact s14
    | 15, _ => exact s15
    | 16, _ => exact h2 16 (by decide)
    | 17, _ => exact h2 17 (by decide)
    | 18, _ => exact h2 18 (by decide)
    | 19, _ => exact h2 19 (by decide)
    | 20, _ => exact h2 20 (by decide)
    | 21, _ => exact h2 21 (by decide)
    | 22, _ => exact h2 22 (by decide)
    | 23, _ => exact h2 23 (by decide)
    | 24, _ => exact h2 24 (by decide)
    | 25, _ => exact h2 25 (by decide)
    | 26, _ => exact h2 26 (by decide)
    | 27, _ => exact h2 27 (by decide)
    | 28, _ => exact h2 28 (by decide)
    | 29, _ => exact h2 29 (by decide)
    | 30, _ => exact h2 30 (by decide)
    | 31, _ => exact h2 31 (by decide)
    | 32, _ => exact h2 32 (by decide)
    | 33, _ => exact h2 33 (by decide)
    | 34, _ => exact h2 34 (by decide)
    | 35, _ => exact h2 35 (by decide)
    | 36, _ => exact h2 36 (by decide)
    | 37, _ => exact h2 38 (by decide)
    | 38, _ => exact h2 40 (by decide)
    | 39, _ => exact h2 42 (by decide)
    | 40, _ => exact h2 44 (by decide)
    | 41, _ => exact h2 46 (by decide)
    | 42, _ => exact h2 48 (by decide)
    | 43, _ => exact h2 50 (by decide)
    | 44, _ => exact h2 52 (by decide)
    | 45, _ => exact h2 54 (by decide)
    | 46, _ => exact h2 56 (by decide)
    | 47, _ => exact h2 58 (by decide)
    | 48, _ => exact h2 37 (by decide)
    | 49, _ => exact h2 39 (by decide)
    | 50, _ => exact h2 41 (by decide)
    | 51, _ => exact h2 43 (by decide)
    | 52, _ => exact h2 45 (by decide)
    | 53, _ => exact h2 47 (by decide)
    | 54, _ => exact h2 49 (by decide)
    | 55, _ => exact h2 51 (by decide)
    | 56, _ => exact h2 53 (by decide)
    | 57, _ => exact h2 55 (by decide)
    | 58, _ => exact h2 57 (by decide)
    | 59, _ => exact h2 59 (by decide)
    | 60, _ => exact h2 60 (by decide)
    | 61, _ => exact h2 61 (by decide)
    | 62, _ => exact h2 62 (by decide)
    | 63, _ => exact h2 63 (by decide)
    | 64, _ => exact h2 64 (by decide)
    | 65, _ => exact h2 65 (by decide)
    | 66, _ => exact h2 66 (by decide)
    | 67, _ => exact h2 67 (by decide)
    | 68, _ => exact h2 68 (by decide)
    | 69, _ => exact h2 69 (by decide)
    | 70, _ => exact h2 70 (by decide)
    | 71, _ => exact h2 71 (by decide)
    | 72, _ => exact h2 72 (by decide)
    | 73, _ => exact h2 73 (by decide)
    | 74, _ => exact h2 74 (by decide)
    | 75, _ => exact h2 75 (by decide)
    | 76, _ => exact h2 76 (by decide)
    | 77, _ => exact h2 77 (by decide)
    | 78, _ => exact h2 78 (by decide)
    | 79, _ => exact h2 79 (by decide)
    | 80, _ => exact h2 80 (by decide)
    | 81, _ => exact h2 81 (by decide)
    | 82, _ => exact h2 82 (by decide)
    | 83, _ => exact h2 83 (by decide)
    | 84, _ => exact h2 84 (by decide)
    | 85, _ => exact h2 85 (by decide)
    | 86, _ => exact h2 86 (by decide)
    | 87, _ => exact h2 87 (by decide)
    | 88, _ => exact h2 88 (by decide)
    | 89, _ => exact h2 89 (by decide)
    | 90, _ => exact h2 90 (by decide)
    | 91, _ => exact h2 91 (by decide)
    | 92, _ => exact h2 92 (by decide)
    | 93, _ => exact h2 93 (by decide)
    | 94, _ => exact h2 94 (by decide)
    | 95, _ => exact h2 95 (by decide)
    | 96, _ => exact h2 96 (by decide)
    | 97, _ => exact h2 97 (by decide)
    | 98, _ => exact h2 98 (by decide)
    | 99, _ => exact h2 99 (by decide)
    | 100, _ => exact h2 100 (by decide)
    | 101, _ => exact h2 101 (by decide)
    | 102, _ => exact h2 102 (by decide)
    | 103, _ => exact h2 103 (by decide)
    | 104, _ => exact h2 104 (by decide)
    | 105, _ => exact h2 105 (by decide)
    | 106, _ => exact h2 106 (by decide)
    | 107, _ => exact h2 107 (by decide)
    | 108, _ => exact h2 108 (by decide)
    | 109, _ => exact h2 109 (by decide)
    | 110, _ => exact h2 110 (by decide)
    | 111, _ => exact h2 111 (by decide)
    | 112, _ => exact h2 112 (by decide)
    | 113, _ => exact h2 113 (by decide)
    | 114, _ => exact h2 114 (by decide)
    | 115, _ => exact h2 115 (by decide)
    | 116, _ => exact h2 116 (by decide)
    | 117, _ => exact h2 117 (by decide)
    | 118, _ => exact h2 118 (by decide)
    | 119, _ => exact h2 119 (by decide)
    | k + 120, hk => exact absurd hk (by omega)
  exact key k hk2
theorem go_worldD {G : go_G} {base : Nat} : va_D (gc_A base) (go_W G (fun k => base + go_pos k) v0) := by
  refine ⟨fun i j p q hp hq e => ?_, fun i q hq => ?_⟩
  · obtain ⟨_, rfl⟩ := ww_key hp
    obtain ⟨_, rfl⟩ := ww_key hq
    have e2 : base + go_pos i = base + go_pos j := e
    exact go_pos_inj (by omega)
  · obtain ⟨_, rfl⟩ := ww_key hq
    exact Nat.le_add_right base _
def go_ExW (b L : Nat) (xs : Nat → Int32) (base : Nat) : State → Prop := fun s => go_ExS s ∧ va_X b L xs s s.heap ∧ b < s.heap.size ∧ base = s.heap.size
def go_EnW (b : Nat) : gc_En := fun below args s t => args = #[Value.ref b] → lw_Z below #[Value.ref b] s t
theorem gc_go {l : Launch} {G : go_G} {Nm : String} {b L base pc cells slots : Nat} {xs : Nat → Int32} {lv : List (Nat × Value)} {st : List Value} (h : Go l G M_L_law (go_ExL b L xs) (go_EnL b) (fun k => base + go_pos k) v0 lv pc st cells slots) : Gc l G M_L_law Nm (go_ExW b L xs base) (go_EnW b) base 120 (cF G base) lv pc st cells slots := by
  intro p e s m args below meth c H locs ls C
  obtain ⟨c1, ⟨_, x2, x3, x4⟩, c3, c4, c5, c6, c7, c8, c9⟩ := C
  exact h p e s m args below meth c (gc_A base) H locs ls ⟨c1, ⟨fun q hq => by rw [← x4]; exact hq, x2, x3⟩, c3, fun q hq => Nat.le_trans c4 hq, go_worldD, go_world c5, c7, c8⟩
theorem go_ExS_ok : gc_ok go_ExS := by
  intro s U hW h
  exact ⟨va_AO.moved hW.alike h.1, va_AO.moved hW.alike h.2.1, va_AO.moved hW.alike h.2.2.1, (show (Cond.arrayOver (.array .int)).before #[] (s.setVm U.vm) = true by rw [Cond.arrayOver_setVmC hW.alike]; exact h.2.2.2)⟩
set_option maxHeartbeats 4000000 in
set_option maxRecDepth 100000 in
theorem gc_law {l : Launch} {G : go_G} {Nm : String} {b L base : Nat} {xs : Nat → Int32} {cell : Nat → va_E} (hl : l.stackTraces = false) {r : go_R} (h : f_L_law_23 L xs 513 0 v0 = some r) : Gc l G M_L_law Nm (go_ExW b L xs base) (go_EnW b) base 0 cell [(0, .ref b)] 0 [] 0 0 := by
  refine gc_new (ci := 3) (T := TS) (ty0 := tyS) (fs := mS .null .null .null .null .null) (d_L_law_0 0 rfl) rfl in_S tyokS ⟨w_42, w_43, w_29⟩ (fun j hj => by
    match j, hj with
    | 0, _ => rfl
    | 1, _ => rfl
    | 2, _ => rfl
    | 3, _ => rfl
    | 4, _ => rfl
    | 5, _ => rfl
    | 6, _ => rfl
    | 7, _ => rfl
    | 8, _ => rfl
    | 9, _ => rfl
    | 10, _ => rfl
    | 11, _ => rfl
    | 12, _ => rfl
    | 13, _ => rfl
    | j + 14, hj => exact absurd hj (by omega)) ⟨by decide, by decide⟩ ?_
  refine gc_dup (d_L_law_0 3 rfl) rfl ?_
  refine gc_cI (k := 0) (c2 := 100) (s2 := 792) rfl rfl (Cc_S_init (va_up_self _ _ _)) go_ExS_ok (fun s h => h.1) (d_L_law_0 4 rfl) ⟨w_44, w_46, w_29, by decide, by decide, by decide +kernel⟩ w_45 rfl ⟨by decide, by decide⟩ (Nat.le_of_ble_eq_true rfl) ⟨by decide, by decide⟩ ?_
  refine gc_astore_n (lv' := [(0, .ref b), (1, .ref (base + 0))]) (d_L_law_0 7 rfl) rfl (by decide) rfl ?_
  refine gc_new (ci := 4) (T := TM) (ty0 := tyM) (fs := mM0) (d_L_law_0 8 rfl) rfl in_M tyokM ⟨w_540, w_541, w_33⟩ (fun j hj => by
    match j, hj with
    | 0, _ => rfl
    | 1, _ => rfl
    | 2, _ => rfl
    | 3, _ => rfl
    | 4, _ => rfl
    | 5, _ => rfl
    | 6, _ => rfl
    | 7, _ => rfl
    | 8, _ => rfl
    | 9, _ => rfl
    | 10, _ => rfl
    | 11, _ => rfl
    | 12, _ => rfl
    | 13, _ => rfl
    | 14, _ => rfl
    | 15, _ => rfl
    | 16, _ => rfl
    | 17, _ => rfl
    | 18, _ => rfl
    | 19, _ => rfl
    | 20, _ => rfl
    | 21, _ => rfl
    | 22, _ => rfl
    | 23, _ => rfl
    | 24, _ => rfl
    | 25, _ => rfl
    | 26, _ => rfl
    | j + 27, hj => exact absurd hj (by omega)) ⟨by decide, by decide⟩ ?_
  refine gc_dup (d_L_law_0 11 rfl) rfl ?_
  refine gc_cI (k := 100) (c2 := 119) (s2 := 1483) rfl rfl (Cc_M_init (va_up_self _ _ _)) (fun _ _ _ h => h) (fun s h => trivial) (d_L_law_0 12 rfl) ⟨w_542, w_544, w_33, by decide, by decide, by decide +kernel⟩ w_543 rfl ⟨by decide, by decide⟩ (Nat.le_of_ble_eq_true rfl) ⟨by decide, by decide⟩ ?_
  refine gc_astore_n (lv' := [(0, .ref b), (1, .ref (base + 0)), (2, .ref (base + 100))]) (d_L_law_0 15 rfl) rfl (by decide) rfl ?_
  refine gc_iconst (x := 1) (d_L_law_0 16 rfl) (by decide) ?_
  refine gc_newa (N' := 1) (t := 2) (a0 := (1, .inr (.inl (fun _ => 0)))) (d_L_law_0 17 rfl) w_756 rfl (fun _ _ h => h) (fun cA => rfl) (by decide) (by decide) (by decide) ⟨by decide, by decide⟩ ?_
  refine gc_astore_n (lv' := [(0, .ref b), (1, .ref (base + 0)), (2, .ref (base + 100)), (3, .ref (base + 119))]) (d_L_law_0 19 rfl) rfl (by decide) rfl ?_
  refine gc_iconst (x := 0) (d_L_law_0 20 rfl) (by decide) ?_
  refine gc_istore (lv' := [(0, .ref b), (1, .ref (base + 0)), (2, .ref (base + 100)), (3, .ref (base + 119)), (4, .int 0)]) (d_L_law_0 21 rfl) (by decide) rfl ?_
  exact gc_go (b_L_law_23 hl 513 0 v0 120 1484 (by omega) h)
