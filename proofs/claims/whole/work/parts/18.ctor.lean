/-! THE WORLD IN THE MAKING: key k lies at base + k; cells come at the end -/
def gW (base N : Nat) (cell : Nat → va_E) : va_W := ww N (fun k => base + k) cell
theorem gW_D {base N : Nat} {cell : Nat → va_E} : va_D (fun q => base ≤ q) (gW base N cell) := by
  refine ⟨fun i j p q hp hq e => ?_, fun i q hq => ?_⟩
  · obtain ⟨_, rfl⟩ := ww_key hp
    obtain ⟨_, rfl⟩ := ww_key hq
    have e2 : base + i = base + j := e
    omega
  · obtain ⟨_, rfl⟩ := ww_key hq
    exact Nat.le_add_right base i
theorem gW_congr {base N : Nat} {cell cell' : Nat → va_E} (h : ∀ k, k < N → cell k = cell' k) : gW base N cell = gW base N cell' := by
  unfold gW ww
  apply List.map_congr_left
  intro k hk
  rw [h k (List.mem_range.mp hk)]
theorem gW_push {D : va_G} {cl : List vw_C} {base N : Nat} {cell : Nat → va_E} {e : va_E} {H H1 : Heap} (hP : va_P D cl (gW base N cell) H) (hz : H.size = base + N) (ho : ∀ q, q < H.size → H1[q]? = H[q]?) (hn : va_at D cl (base + N, e) H1) : va_P D cl (gW base (N + 1) (va_up cell N e)) H1 := by
  intro k q hk
  obtain ⟨h1, rfl⟩ := ww_key hk
  by_cases hN : k = N
  · subst hN
    rw [va_up_self]
    exact hn
  · have hlt : k < N := by omega
    rw [va_up_ne _ _ hN]
    exact (hP k _ (ww_get hlt)).kept (ho _ (by rw [hz]; show base + k < base + N; omega))
abbrev gc_En : Type := List Frame → Array Value → State → State → Prop
abbrev gc_A (base : Nat) : Nat → Prop := fun q => base ≤ q
def gc_C (G : go_G) (M : go_M) (Nm : String) (Ex : State → Prop) (base N : Nat) (cell : Nat → va_E) (lv : List (Nat × Value)) (p : Program) (s : State) (m : MethodId) (args : Array Value) (meth : Method) (c : Code) (H : Heap) (locs : List Loc) (ls : Array Slot) : Prop :=
  go_F p s m args meth c M ∧ Ex s ∧ go_K G go_tx go_nc (gc_A base) s ∧ base ≤ s.heap.size ∧ va_P G.1 go_cl (gW base N cell) H ∧ H.size = base + N ∧ va_S (gc_A base) s.heap H locs ∧ lv_has ls M.2.1 lv ∧ meth.name = Nm
def Gc (l : Launch) (G : go_G) (M : go_M) (Nm : String) (Ex : State → Prop) (En : gc_En) (base N : Nat) (cell : Nat → va_E) (lv : List (Nat × Value)) (pc : Nat) (st : List Value) (cells slots : Nat) : Prop :=
  ∀ (p : Program) (e : Env) (s : State) (m : MethodId) (args : Array Value) (below : List Frame) (meth : Method) (c : Code) (H : Heap) (locs : List Loc) (ls : Array Slot),
    gc_C G M Nm Ex base N cell lv p s m args meth c H locs ls → W p l e M.2.2.2.2.2 s m args below meth c H locs cells slots (En below args s) (F0 m pc ls st)
section GcRules
variable {l : Launch} {G : go_G} {M : go_M} {Nm : String} {Ex : State → Prop} {En : gc_En} {base N : Nat} {cell : Nat → va_E} {lv : List (Nat × Value)} {pc : Nat} {st : List Value} {cells slots : Nat}
theorem gc_cell {cell' : Nat → va_E} (h : ∀ k, k < N → cell k = cell' k) (kk : Gc l G M Nm Ex En base N cell' lv pc st cells slots) : Gc l G M Nm Ex En base N cell lv pc st cells slots := fun p e s m args below meth c H locs ls C =>
  kk p e s m args below meth c H locs ls ⟨C.1, C.2.1, C.2.2.1, C.2.2.2.1, by rw [← gW_congr h]; exact C.2.2.2.2.1, C.2.2.2.2.2⟩
theorem gc_widen {k n : Nat} (h1 : cells ≤ k) (h2 : slots ≤ n) (kk : Gc l G M Nm Ex En base N cell lv pc st k n) : Gc l G M Nm Ex En base N cell lv pc st cells slots := fun p e s m args below meth c H locs ls C => W.widen h1 h2 (kk p e s m args below meth c H locs ls C)
theorem gc_iconst {n : Int} {x : Int32} (hd : decode M.1 pc = .ok (.iconst n, 1)) (hv : Int32.ofInt n = x) (kk : Gc l G M Nm Ex En base N cell lv (pc + 1) (.int x :: st) cells slots) : Gc l G M Nm Ex En base N cell lv (pc) (st) cells slots := fun p e s m args below meth c H locs ls C => lv_iconst C.1.1 C.1.2.1 hd hv (kk p e s m args below meth c H locs ls C)
theorem gc_bipush {n : Int} {x : Int32} (hd : decode M.1 pc = .ok (.bipush n, 2)) (hv : (Int8.ofInt n).toInt32 = x) (kk : Gc l G M Nm Ex En base N cell lv (pc + 2) (.int x :: st) cells slots) : Gc l G M Nm Ex En base N cell lv (pc) (st) cells slots := fun p e s m args below meth c H locs ls C => lv_bipush C.1.1 C.1.2.1 hd hv (kk p e s m args below meth c H locs ls C)
theorem gc_sipush {n : Int} {x : Int32} (hd : decode M.1 pc = .ok (.sipush n, 3)) (hv : (Int16.ofInt n).toInt32 = x) (kk : Gc l G M Nm Ex En base N cell lv (pc + 3) (.int x :: st) cells slots) : Gc l G M Nm Ex En base N cell lv (pc) (st) cells slots := fun p e s m args below meth c H locs ls C => lv_sipush C.1.1 C.1.2.1 hd hv (kk p e s m args below meth c H locs ls C)
theorem gc_dup {va : Value} (hd : decode M.1 pc = .ok (.dup, 1)) (hva : va.category = 1) (kk : Gc l G M Nm Ex En base N cell lv (pc + 1) (va :: va :: st) cells slots) : Gc l G M Nm Ex En base N cell lv (pc) (va :: st) cells slots := fun p e s m args below meth c H locs ls C => lv_dup C.1.1 C.1.2.1 hd hva (kk p e s m args below meth c H locs ls C)
theorem gc_ldc {i : Nat} {x : Int32} (hd : decode M.1 pc = .ok (.ldc i, 2)) (hw : Cond.constant M.2.2.2.1 i x ∈ go_TT) (kk : Gc l G M Nm Ex En base N cell lv (pc + 2) (.int x :: st) cells slots) : Gc l G M Nm Ex En base N cell lv (pc) (st) cells slots := fun p e s m args below meth c H locs ls C => lv_ldc C.1.1 C.1.2.1 C.1.2.2.2.2.1 (C.1.2.2.2.2.2.1 _ hw) hd (kk p e s m args below meth c H locs ls C)
theorem gc_iload_n {k : Fin 4} {i : Nat} {x : Int32} (hd : decode M.1 pc = .ok (.iload_n k, 1)) (hi : (k : Nat) = i) (hj : go_lk lv i = some (.int x)) (kk : Gc l G M Nm Ex En base N cell lv (pc + 1) (.int x :: st) cells slots) : Gc l G M Nm Ex En base N cell lv (pc) (st) cells slots := fun p e s m args below meth c H locs ls C => lv_iload_n C.1.1 C.1.2.1 hd hi (C.2.2.2.2.2.2.2.1.2.2 _ (go_lk_mem hj)) (kk p e s m args below meth c H locs ls C)
theorem gc_istore_n {k : Fin 4} {i : Nat} {x : Int32} {lv' : List (Nat × Value)} (hd : decode M.1 pc = .ok (.istore_n k, 1)) (hi : (k : Nat) = i) (hn : i < M.2.1) (hl : go_st lv i (Value.int x) = lv') (kk : Gc l G M Nm Ex En base N cell lv' (pc + 1) (st) cells slots) : Gc l G M Nm Ex En base N cell lv (pc) (.int x :: st) cells slots := fun p e s m args below meth c H locs ls C => lv_istore_n C.1.1 C.1.2.1 hd hi C.2.2.2.2.2.2.2.1 hn rfl (fun ls' hl' => kk p e s m args below meth c H locs ls' ⟨C.1, C.2.1, C.2.2.1, C.2.2.2.1, C.2.2.2.2.1, C.2.2.2.2.2.1, C.2.2.2.2.2.2.1, go_st_has hl' hl, C.2.2.2.2.2.2.2.2⟩)
theorem gc_aload_n {k : Fin 4} {i : Nat} {x : Nat} (hd : decode M.1 pc = .ok (.aload_n k, 1)) (hi : (k : Nat) = i) (hj : go_lk lv i = some (.ref x)) (kk : Gc l G M Nm Ex En base N cell lv (pc + 1) (.ref x :: st) cells slots) : Gc l G M Nm Ex En base N cell lv (pc) (st) cells slots := fun p e s m args below meth c H locs ls C => lv_aload_n C.1.1 C.1.2.1 hd hi (C.2.2.2.2.2.2.2.1.2.2 _ (go_lk_mem hj)) (kk p e s m args below meth c H locs ls C)
theorem gc_astore_n {k : Fin 4} {i : Nat} {x : Nat} {lv' : List (Nat × Value)} (hd : decode M.1 pc = .ok (.astore_n k, 1)) (hi : (k : Nat) = i) (hn : i < M.2.1) (hl : go_st lv i (Value.ref x) = lv') (kk : Gc l G M Nm Ex En base N cell lv' (pc + 1) (st) cells slots) : Gc l G M Nm Ex En base N cell lv (pc) (.ref x :: st) cells slots := fun p e s m args below meth c H locs ls C => lv_astore_n C.1.1 C.1.2.1 hd hi C.2.2.2.2.2.2.2.1 hn rfl (fun ls' hl' => kk p e s m args below meth c H locs ls' ⟨C.1, C.2.1, C.2.2.1, C.2.2.2.1, C.2.2.2.2.1, C.2.2.2.2.2.1, C.2.2.2.2.2.2.1, go_st_has hl' hl, C.2.2.2.2.2.2.2.2⟩)
theorem gc_istore {i : Nat} {x : Int32} {lv' : List (Nat × Value)} (hd : decode M.1 pc = .ok (.istore i, 2)) (hn : i < M.2.1) (hl : go_st lv i (Value.int x) = lv') (kk : Gc l G M Nm Ex En base N cell lv' (pc + 2) (st) cells slots) : Gc l G M Nm Ex En base N cell lv (pc) (.int x :: st) cells slots := fun p e s m args below meth c H locs ls C => lv_istore C.1.1 C.1.2.1 hd C.2.2.2.2.2.2.2.1 hn rfl (fun ls' hl' => kk p e s m args below meth c H locs ls' ⟨C.1, C.2.1, C.2.2.1, C.2.2.2.1, C.2.2.2.2.1, C.2.2.2.2.2.1, C.2.2.2.2.2.2.1, go_st_has hl' hl, C.2.2.2.2.2.2.2.2⟩)
theorem gc_iinc {i : Nat} {n : Int} {x y : Int32} {lv' : List (Nat × Value)} (hd : decode M.1 pc = .ok (.iinc i n, 3)) (hj : go_lk lv i = some (.int x)) (hv : x + Int32.ofInt n = y) (hn : i < M.2.1) (hl : go_st lv i (.int y) = lv') (kk : Gc l G M Nm Ex En base N cell lv' (pc + 3) (st) cells slots) : Gc l G M Nm Ex En base N cell lv (pc) (st) cells slots := by
  intro p e s m args below meth c H locs ls C
  obtain ⟨j, hj⟩ := List.getElem?_of_mem (go_lk_mem hj)
  exact lv_iinc C.1.1 C.1.2.1 hd C.2.2.2.2.2.2.2.1 hj hv hn rfl (fun ls' hl' => kk p e s m args below meth c H locs ls' ⟨C.1, C.2.1, C.2.2.1, C.2.2.2.1, C.2.2.2.2.1, C.2.2.2.2.2.1, C.2.2.2.2.2.2.1, go_st_has hl' hl, C.2.2.2.2.2.2.2.2⟩)
theorem gc_goto {off : Int} {tgt : Nat} (hd : decode M.1 pc = .ok (.goto off, 3)) (ht : (pc : Int) + off = (tgt : Int)) (kk : Gc l G M Nm Ex En base N cell lv (tgt) (st) cells slots) : Gc l G M Nm Ex En base N cell lv (pc) (st) cells slots := fun p e s m args below meth c H locs ls C => lv_goto C.1.1 C.1.2.1 hd ht (kk p e s m args below meth c H locs ls C)
theorem gc_icmp_ge {x y : Int32} {off : Int} {tgt : Nat} (hd : decode M.1 pc = .ok (.if_icmp .ge off, 3)) (ht : (pc : Int) + off = (tgt : Int)) (ky : y ≤ x → Gc l G M Nm Ex En base N cell lv (tgt) (st) cells slots) (kn : ¬ y ≤ x → Gc l G M Nm Ex En base N cell lv (pc + 3) (st) cells slots) : Gc l G M Nm Ex En base N cell lv (pc) (.int y :: .int x :: st) cells slots := fun p e s m args below meth c H locs ls C => lv_icmp_ge C.1.1 C.1.2.1 hd ht (fun h => ky h p e s m args below meth c H locs ls C) (fun h => kn h p e s m args below meth c H locs ls C)
/-- the constructor of Object -/
theorem gc_obj {a idx : Nat} (hd : decode M.1 pc = .ok (.invokespecial idx, 3)) (hw : Cond.methodLink M.2.2.2.1 idx Lib.objectInit ∈ go_TT) (hi : Cond.instanceMethod Lib.objectInit ∈ go_TT) (hc : Cond.code Lib.objectInit ⟨#[0xb1]⟩ 1 none ∈ go_TT) (hR : 1 ≤ M.2.2.2.2.2.frames ∧ (st.map fun v => v.category).sum + 12 ≤ M.2.2.2.2.2.locals) (kk : Gc l G M Nm Ex En base N cell lv (pc + 3) (st) cells slots) : Gc l G M Nm Ex En base N cell lv (pc) (.ref a :: st) cells slots := by
  intro p e s m args below meth c H locs ls C
  have hts := C.1.2.2.2.2.2.1
  refine W.objInit C.1.1 C.1.2.1 C.1.2.2.2.2.1 (hts _ hw) (hts _ hi) (hts _ hc) rfl (C.2.2.2.2.2.2.2.1.1.trans C.1.2.2.1.symm) rfl hd hR.1 ?_ (kk p e s m args below meth c H locs ls C)
  show 2 * 0 + _ + 12 ≤ _
  omega
theorem gc_wr {p : Program} {s : State} {m : MethodId} {args : Array Value} {meth : Method} {c : Code} {H H1 : Heap} {locs locs1 : List Loc} {ls : Array Slot} {k : Nat} {e : va_E} (C : gc_C G M Nm Ex base N cell lv p s m args meth c H locs ls) (hk : k < N) (hP : va_P G.1 go_cl ((gW base N cell).set k (base + k, e)) H1) (hz : H1.size = H.size) (hS : va_S (gc_A base) s.heap H1 locs1) : gc_C G M Nm Ex base N (va_up cell k e) lv p s m args meth c H1 locs1 ls := by
  obtain ⟨c1, c2, c3, c4, c5, c6, c7, c8, c9⟩ := C
  refine ⟨c1, c2, c3, c4, ?_, hz.trans c6, hS, c8, c9⟩
  have := hP
  rw [show (gW base N cell).set k (base + k, e) = gW base N (va_up cell k e) from ww_set hk e] at this
  exact this
/-- the heap's size is as it was behind a write -/
theorem gc_size {D : va_G} {cl : List vw_C} {H H1 : Heap} {locs1 : List Loc} {s : State} (_h : va_S (gc_A base) s.heap H1 locs1) (h : H1.size = H.size) : H1.size = H.size := h
end GcRules
