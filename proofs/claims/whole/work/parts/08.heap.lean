/-! RULES OF THE HEAP: fields, arrays, statics -/
/-- the field j of the class c, by the link idx of the class own: read -/
def go_fl (own : String) (idx c j : Nat) : Prop := ∃ (C : String) (T : u_T) (n : Nat), go_cl[c]? = some (C, T, n) ∧ j < n ∧ go_nf c = n ∧ c < 5 ∧ (∀ w ∈ u_ws C T n, w ∈ go_TT) ∧ (T j).1 = C ∧
  (Cond.fieldLink own idx C (T j).2.1 (T j).2.2.1 ∈ go_TT ∨ ∃ host, Cond.fieldLinkNest own idx C (T j).2.1 (T j).2.2.1 host ∈ go_NW)
/-- .. written, of the type ty -/
def go_fp (own : String) (idx c j : Nat) (ty : FieldType) : Prop := ∃ (C : String) (T : u_T) (n : Nat) (ty0 : Nat → FieldType), go_cl[c]? = some (C, T, n) ∧ j < n ∧ go_nf c = n ∧ c < 5 ∧ (∀ w ∈ u_ws C T n, w ∈ go_TT) ∧ (T j).1 = C ∧
  (Cond.fieldLink own idx C (T j).2.1 (T j).2.2.1 ∈ go_TT ∨ ∃ host, Cond.fieldLinkNest own idx C (T j).2.1 (T j).2.2.1 host ∈ go_NW) ∧
  (∀ k, k < n → parseFieldDescriptor (T k).2.2.1 = some (ty0 k)) ∧ (∀ a, a < n → ∀ b, b < n → a ≠ b → (T a).2.1 ≠ (T b).2.1) ∧ (T j).2.2.2 = false ∧ parseFieldDescriptor (T j).2.2.1 = some ty
def go_in (x : Int32) (n : Nat) : Bool := !(decide (x < 0) || decide (n ≤ x.toNatClampNeg))
theorem go_in_vp {x : Int32} {n : Nat} (h : go_in x n = true) : vp_in x n := by
  unfold go_in at h
  unfold vp_in
  intro q
  rcases q with q | q <;> simp [q] at h
section GoHeap
variable {l : Launch} {G : go_G} {M : go_M} {Ex : State → (Nat → Prop) → Prop} {En : go_En} {ad : Nat → Nat} {v : go_V} {lv : List (Nat × Value)} {pc : Nat} {st : List Value} {cells slots : Nat}
theorem go_cell {A : Nat → Prop} {p : Program} {s : State} {m : MethodId} {args : Array Value} {meth : Method} {c : Code} {H : Heap} {locs : List Loc} {ls : Array Slot} {k : Nat} (_C : go_C G M Ex ad v lv p s m args meth c A H locs ls) (hk : k < 120) : (go_W G ad v)[k]? = some (ad k, cel G.2.1 ad v k) := ww_get hk
/-- a new world behind a write -/
theorem go_C_w {A : Nat → Prop} {p : Program} {s : State} {m : MethodId} {args : Array Value} {meth : Method} {c : Code} {H H1 : Heap} {locs locs1 : List Loc} {ls : Array Slot} {k : Nat} {e : va_E} {v' : go_V} (C : go_C G M Ex ad v lv p s m args meth c A H locs ls) (hk : k < 120) (he : va_up (cel G.2.1 ad v) k e = cel G.2.1 ad v')
    (hP : va_P G.1 go_cl ((go_W G ad v).set k (ad k, e)) H1) (hS : va_S A s.heap H1 locs1) : go_C G M Ex ad v' lv p s m args meth c A H1 locs1 ls := by
  obtain ⟨c1, c2, c3, c4, c5, c6, c7, c8⟩ := C
  refine ⟨c1, c2, c3, c4, ww_D c5, ?_, hS, c8⟩
  have := hP
  rw [show (go_W G ad v).set k (ad k, e) = ww 120 ad (va_up (cel G.2.1 ad v) k e) from ww_set hk e, he] at this
  exact this
theorem go_getI {k idx c j : Nat} (hd : decode M.1 pc = .ok (.getfield idx, 3)) (hf : go_fl M.2.2.2.1 idx c j) (hc : go_cls k = c) (hr : go_isr c j = false) (kk : Go l G M Ex En ad v lv (pc + 3) (.int (v k j) :: st) cells slots) : Go l G M Ex En ad v lv pc (.ref (ad k) :: st) cells slots := by
  intro p e s m args below meth c9 A H locs ls C
  obtain ⟨C1, T, n, h1, h2, h3, h4, h5, h6, h7⟩ := hf
  have hk : k < 120 := go_ltc hc (by omega)
  have he : (go_W G ad v)[k]? = some (ad k, .inr (c, go_fs c ad v k)) := by rw [go_cell C hk, cel_obj hc h4]
  have hv := go_fs_get (ad := ad) (v := v) (k := k) (c := c) (j := j) (by rw [h3]; exact h2) hr
  rcases h7 with h7 | ⟨host, h7⟩
  · exact va_get C.1.1 C.1.2.1 C.1.2.2.2.2.2.1 h5 C.1.2.2.2.2.1 C.2.2.1.1 C.2.2.2.2.2.1 k he h1 j h2 (C.1.2.2.2.2.2.1 _ h7) (fun x h => by rw [h6] at h; exact h) hv hd (kk p e s m args below meth c9 A H locs ls C)
  · exact va_getN C.1.1 C.1.2.1 C.1.2.2.2.2.2.1 h5 C.1.2.2.2.2.1 C.2.2.1.1 C.2.2.2.2.2.1 k he h1 j h2 (va_Nw.use rfl (C.2.2.1.2.2.2.2.2.2.2.1 _ h7)) (fun x h => by rw [h6] at h; exact h) hv hd (kk p e s m args below meth c9 A H locs ls C)
theorem go_getR {k idx c j : Nat} (hd : decode M.1 pc = .ok (.getfield idx, 3)) (hf : go_fl M.2.2.2.1 idx c j) (hc : go_cls k = c) (hr : go_isr c j = true) (kk : Go l G M Ex En ad v lv (pc + 3) (.ref (ad (go_ref k j)) :: st) cells slots) : Go l G M Ex En ad v lv pc (.ref (ad k) :: st) cells slots := by
  intro p e s m args below meth c9 A H locs ls C
  obtain ⟨C1, T, n, h1, h2, h3, h4, h5, h6, h7⟩ := hf
  have hk : k < 120 := go_ltc hc (by omega)
  have he : (go_W G ad v)[k]? = some (ad k, .inr (c, go_fs c ad v k)) := by rw [go_cell C hk, cel_obj hc h4]
  have hv := go_fs_ref (ad := ad) (v := v) (k := k) (c := c) (j := j) (by rw [h3]; exact h2) hr
  rcases h7 with h7 | ⟨host, h7⟩
  · exact va_get C.1.1 C.1.2.1 C.1.2.2.2.2.2.1 h5 C.1.2.2.2.2.1 C.2.2.1.1 C.2.2.2.2.2.1 k he h1 j h2 (C.1.2.2.2.2.2.1 _ h7) (fun x h => by rw [h6] at h; exact h) hv hd (kk p e s m args below meth c9 A H locs ls C)
  · exact va_getN C.1.1 C.1.2.1 C.1.2.2.2.2.2.1 h5 C.1.2.2.2.2.1 C.2.2.1.1 C.2.2.2.2.2.1 k he h1 j h2 (va_Nw.use rfl (C.2.2.1.2.2.2.2.2.2.2.1 _ h7)) (fun x h => by rw [h6] at h; exact h) hv hd (kk p e s m args below meth c9 A H locs ls C)
theorem go_putI {k idx c j : Nat} {x : Int32} {ty : FieldType} (hd : decode M.1 pc = .ok (.putfield idx, 3)) (hf : go_fp M.2.2.2.1 idx c j ty) (hc : go_cls k = c) (hr : go_isr c j = false) (hn : narrow ty (.int x) = .int x) (hfit : fits ty (.int x) = true) (kk : Go l G M Ex En ad (u2 v k j x) lv (pc + 3) st cells slots) : Go l G M Ex En ad v lv pc (.int x :: .ref (ad k) :: st) cells slots := by
  intro p e s m args below meth c9 A H locs ls C
  obtain ⟨C1, T, n, ty0, h1, h2, h3, h4, h5, h6, h7, h8, h9, h10, h11⟩ := hf
  have hk : k < 120 := go_ltc hc (by omega)
  have he : (go_W G ad v)[k]? = some (ad k, .inr (c, go_fs c ad v k)) := by rw [go_cell C hk, cel_obj hc h4]
  have hl : j < (go_fs c ad v k).length := by rw [go_fs_len, h3]; exact h2
  have hq := cel_put (cA := G.2.1) (ad := ad) (v := v) (x := x) hc h4 (by rw [h3]; exact h2) hr
  rcases h7 with h7 | ⟨host, h7⟩
  · exact va_put C.1.1 C.1.2.1 C.1.2.2.2.2.2.1 h5 ty0 h8 h9 C.1.2.2.2.2.1 C.2.2.1.1 C.2.2.2.2.2.1 C.2.2.2.2.1 C.2.2.2.2.2.2.1 k he h1 j h2 (C.1.2.2.2.2.2.1 _ h7) (fun x h => by rw [h6] at h; exact h) h10 h11 hn hfit hl hd (fun H1 locs1 hP hD hS => kk p e s m args below meth c9 A H1 locs1 ls (go_C_w C hk hq hP hS))
  · exact va_putN C.1.1 C.1.2.1 C.1.2.2.2.2.2.1 h5 ty0 h8 h9 C.1.2.2.2.2.1 C.2.2.1.1 C.2.2.2.2.2.1 C.2.2.2.2.1 C.2.2.2.2.2.2.1 k he h1 j h2 (va_Nw.use rfl (C.2.2.1.2.2.2.2.2.2.2.1 _ h7)) (fun x h => by rw [h6] at h; exact h) h10 h11 hn hfit hl hd (fun H1 locs1 hP hD hS => kk p e s m args below meth c9 A H1 locs1 ls (go_C_w C hk hq hP hS))
theorem go_iald {k : Nat} {x : Int32} (hd : decode M.1 pc = .ok (.iaload, 1)) (hc : go_cls k = 10) (hi : go_in x (go_len k) = true) (kk : Go l G M Ex En ad v lv (pc + 1) (.int (v k x.toNatClampNeg) :: st) cells slots) : Go l G M Ex En ad v lv pc (.int x :: .ref (ad k) :: st) cells slots := by
  intro p e s m args below meth c9 A H locs ls C
  have he : (go_W G ad v)[k]? = some (ad k, .inl (G.2.1 0, go_len k, .inl (v k))) := by rw [go_cell C (go_ltc hc (by omega)), cel_i hc]
  exact va_iald C.1.1 C.1.2.1 C.2.2.1.1 C.2.2.2.2.2.1 k 0 he rfl (go_in_vp hi) hd (kk p e s m args below meth c9 A H locs ls C)
theorem go_zald {k : Nat} {x : Int32} (hd : decode M.1 pc = .ok (.baload, 1)) (hc : go_cls k = 11) (hi : go_in x (go_len k) = true) (kk : Go l G M Ex En ad v lv (pc + 1) (.int (v k x.toNatClampNeg) :: st) cells slots) : Go l G M Ex En ad v lv pc (.int x :: .ref (ad k) :: st) cells slots := by
  intro p e s m args below meth c9 A H locs ls C
  have he : (go_W G ad v)[k]? = some (ad k, .inl (G.2.1 1, go_len k, .inl (v k))) := by rw [go_cell C (go_ltc hc (by omega)), cel_z hc]
  exact va_zald C.1.1 C.1.2.1 C.2.2.1.1 C.2.2.2.2.2.1 k 1 he rfl (go_in_vp hi) hd (kk p e s m args below meth c9 A H locs ls C)
theorem go_lald {k : Nat} {x : Int32} (hd : decode M.1 pc = .ok (.laload, 1)) (hc : go_cls k = 12) (hi : go_in x (go_len k) = true) (kk : Go l G M Ex En ad v lv (pc + 1) (.long (v k x.toNatClampNeg).toInt64 :: st) cells slots) : Go l G M Ex En ad v lv pc (.int x :: .ref (ad k) :: st) cells slots := by
  intro p e s m args below meth c9 A H locs ls C
  have he : (go_W G ad v)[k]? = some (ad k, .inl (G.2.1 2, go_len k, .inr (.inl (fun j => (v k j).toInt64)))) := by rw [go_cell C (go_ltc hc (by omega)), cel_l hc]
  exact va_lald C.1.1 C.1.2.1 C.2.2.1.1 C.2.2.2.2.2.1 k 2 he rfl (go_in_vp hi) hd (kk p e s m args below meth c9 A H locs ls C)
theorem go_aald {k c : Nat} {x : Int32} (hd : decode M.1 pc = .ok (.aaload, 1)) (hc : go_cls k = c) (hcc : 13 ≤ c ∧ c ≤ 16) (hi : go_in x (go_len k) = true) (kk : Go l G M Ex En ad v lv (pc + 1) (.ref (ad (go_elt k x.toNatClampNeg)) :: st) cells slots) : Go l G M Ex En ad v lv pc (.int x :: .ref (ad k) :: st) cells slots := by
  intro p e s m args below meth c9 A H locs ls C
  obtain ⟨t, ht⟩ : ∃ t, c = t + 10 := ⟨c - 10, by omega⟩
  have he : (go_W G ad v)[k]? = some (ad k, .inl (G.2.1 t, go_len k, .inr (.inr (.inr (.inr (fun j => some (ad (go_elt k j)))))))) := by rw [go_cell C (go_ltc hc (by omega)), cel_q hc hcc ht]
  have hin := go_in_vp hi
  have hlt : x.toNatClampNeg < go_len k := Nat.not_le.mp fun q => hin (Or.inr q)
  have key : ∀ (t0 : Nat) (ty : FieldType), (go_tys G.2.1)[t0]? = some (G.2.1 t, ty) → ty.isReference = true → W p l e M.2.2.2.2.2 s m args below meth c9 H locs cells slots (En below args s A) (F0 m pc ls (.int x :: .ref (ad k) :: st)) := by
    intro t0 ty ht0 hty
    exact W.aald (v := va_rf (some (ad (go_elt k x.toNatClampNeg)))) (ty := ty) C.1.1 C.1.2.1 (C.2.2.2.2.2.1 k _ he) ((C.2.2.1.1.2 t0 _ ht0).1 (go_len k) (fun j => va_rf (some (ad (go_elt k j))))) hty (fun q => by cases q) (by show ¬ (x < 0 ∨ (arrV _ _ _).slots.size ≤ _); rw [arrV_size]; exact hin) (by show (arrV _ _ _).slots[_]? = _; rw [arrV_read _ _ hlt]) rfl rfl hd (kk p e s m args below meth c9 A H locs ls C)
  rcases (show t = 3 ∨ t = 4 ∨ t = 5 ∨ t = 6 by omega) with rfl | rfl | rfl | rfl
  · exact key 3 _ rfl rfl
  · exact key 4 _ rfl rfl
  · exact key 5 _ rfl rfl
  · exact key 6 _ rfl rfl
theorem go_iast {k : Nat} {x y : Int32} (hd : decode M.1 pc = .ok (.iastore, 1)) (hc : go_cls k = 10) (hi : go_in x (go_len k) = true) (kk : Go l G M Ex En ad (u2 v k x.toNatClampNeg y) lv (pc + 1) st cells slots) : Go l G M Ex En ad v lv pc (.int y :: .int x :: .ref (ad k) :: st) cells slots := by
  intro p e s m args below meth c9 A H locs ls C
  have hk : k < 120 := go_ltc hc (by omega)
  have he : (go_W G ad v)[k]? = some (ad k, .inl (G.2.1 0, go_len k, .inl (v k))) := by rw [go_cell C hk, cel_i hc]
  exact va_iast C.1.1 C.1.2.1 C.2.2.1.1 C.2.2.2.2.2.1 C.2.2.2.2.1 C.2.2.2.2.2.2.1 k 0 he rfl (go_in_vp hi) hd (fun H1 locs1 hP hD hS => kk p e s m args below meth c9 A H1 locs1 ls (go_C_w C hk (cel_ist hc) hP hS))
theorem go_zast {k : Nat} {x y : Int32} (hd : decode M.1 pc = .ok (.bastore, 1)) (hc : go_cls k = 11) (hi : go_in x (go_len k) = true) (hn : vp_nar .boolean y = y) (kk : Go l G M Ex En ad (u2 v k x.toNatClampNeg y) lv (pc + 1) st cells slots) : Go l G M Ex En ad v lv pc (.int y :: .int x :: .ref (ad k) :: st) cells slots := by
  intro p e s m args below meth c9 A H locs ls C
  have hk : k < 120 := go_ltc hc (by omega)
  have he : (go_W G ad v)[k]? = some (ad k, .inl (G.2.1 1, go_len k, .inl (v k))) := by rw [go_cell C hk, cel_z hc]
  refine va_zast C.1.1 C.1.2.1 C.2.2.1.1 C.2.2.2.2.2.1 C.2.2.2.2.1 C.2.2.2.2.2.2.1 k 1 he rfl (go_in_vp hi) hd (fun H1 locs1 hP hD hS => kk p e s m args below meth c9 A H1 locs1 ls (go_C_w C hk (cel_zst hc) ?_ hS))
  rw [hn] at hP
  exact hP
theorem go_last {k : Nat} {x y : Int32} (hd : decode M.1 pc = .ok (.lastore, 1)) (hc : go_cls k = 12) (hi : go_in x (go_len k) = true) (kk : Go l G M Ex En ad (u2 v k x.toNatClampNeg y) lv (pc + 1) st cells slots) : Go l G M Ex En ad v lv pc (.long y.toInt64 :: .int x :: .ref (ad k) :: st) cells slots := by
  intro p e s m args below meth c9 A H locs ls C
  have hk : k < 120 := go_ltc hc (by omega)
  have he : (go_W G ad v)[k]? = some (ad k, .inl (G.2.1 2, go_len k, .inr (.inl (fun j => (v k j).toInt64)))) := by rw [go_cell C hk, cel_l hc]
  exact va_last C.1.1 C.1.2.1 C.2.2.1.1 C.2.2.2.2.2.1 C.2.2.2.2.1 C.2.2.2.2.2.2.1 k 2 he rfl (go_in_vp hi) hd (fun H1 locs1 hP hD hS => kk p e s m args below meth c9 A H1 locs1 ls (go_C_w C hk (cel_lst hc) hP hS))
/-- the two tables of the class -/
theorem go_gsL {idx : Nat} (hd : decode M.1 pc = .ok (.getstatic idx, 3)) (hf : Cond.fieldLink M.2.2.2.1 idx RS "LEAST_WHAT" "[I" ∈ go_TT) (kk : Go l G M Ex En ad v lv (pc + 3) (.ref G.2.2.1 :: st) cells slots) : Go l G M Ex En ad v lv pc st cells slots := fun p e s m args below meth c A H locs ls C =>
  va_gets C.1.1 C.1.2.1 C.2.2.1.2.2.2.1 C.2.2.2.2.2.2.1 C.1.2.2.2.2.1 (C.1.2.2.2.2.2.1 _ hf) (fun _ h => h) hd (kk p e s m args below meth c A H locs ls C)
theorem go_gsG {idx : Nat} (hd : decode M.1 pc = .ok (.getstatic idx, 3)) (hf : Cond.fieldLink M.2.2.2.1 idx RS "GREATEST_WHAT" "[I" ∈ go_TT) (kk : Go l G M Ex En ad v lv (pc + 3) (.ref G.2.2.2 :: st) cells slots) : Go l G M Ex En ad v lv pc st cells slots := fun p e s m args below meth c A H locs ls C =>
  va_gets C.1.1 C.1.2.1 C.2.2.1.2.2.2.2.2.1 C.2.2.2.2.2.2.1 C.1.2.2.2.2.1 (C.1.2.2.2.2.2.1 _ hf) (fun _ h => h) hd (kk p e s m args below meth c A H locs ls C)
def go_lsI (x : Int32) : Int32 := match x.toNatClampNeg with | 0 => 0 | 1 => 1 | 2 => 1 | _ => 0
def go_grI (x : Int32) : Int32 := match x.toNatClampNeg with | 0 => 99 | 1 => 1000 | 2 => 100000 | _ => 9
theorem go_tL {x : Int32} (hd : decode M.1 pc = .ok (.iaload, 1)) (hi : go_in x 4 = true) (kk : Go l G M Ex En ad v lv (pc + 1) (.int (go_lsI x) :: st) cells slots) : Go l G M Ex En ad v lv pc (.int x :: .ref G.2.2.1 :: st) cells slots := fun p e s m args below meth c A H locs ls C =>
  va_ti C.1.1 C.1.2.1 C.2.2.1.2.2.2.2.1 C.2.2.2.2.2.2.1 (go_in_vp hi) rfl hd (kk p e s m args below meth c A H locs ls C)
theorem go_tG {x : Int32} (hd : decode M.1 pc = .ok (.iaload, 1)) (hi : go_in x 4 = true) (kk : Go l G M Ex En ad v lv (pc + 1) (.int (go_grI x) :: st) cells slots) : Go l G M Ex En ad v lv pc (.int x :: .ref G.2.2.2 :: st) cells slots := fun p e s m args below meth c A H locs ls C =>
  va_ti C.1.1 C.1.2.1 C.2.2.1.2.2.2.2.2.2.1 C.2.2.2.2.2.2.1 (go_in_vp hi) rfl hd (kk p e s m args below meth c A H locs ls C)
end GoHeap
