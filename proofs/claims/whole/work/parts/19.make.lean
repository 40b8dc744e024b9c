/-! MAKING: fields and arrays written, cells made, while the heap's size is known -/
section GcMake
variable {l : Launch} {G : go_G} {M : go_M} {Nm : String} {Ex : State → Prop} {En : gc_En} {base N : Nat} {cell : Nat → va_E} {lv : List (Nat × Value)} {pc : Nat} {st : List Value} {cells slots : Nat}
theorem gc_get {k idx c j : Nat} {fs : List Value} {w : Value} (hd : decode M.1 pc = .ok (.getfield idx, 3)) (hf : go_fl M.2.2.2.1 idx c j) (hk : k < N) (hc : cell k = .inr (c, fs)) (hv : fs[j]? = some w) (kk : Gc l G M Nm Ex En base N cell lv (pc + 3) (w :: st) cells slots) : Gc l G M Nm Ex En base N cell lv pc (.ref (base + k) :: st) cells slots := by
  intro p e s m args below meth c9 H locs ls C
  obtain ⟨C1, T, n, h1, h2, h3, h4, h5, h6, h7⟩ := hf
  have he : (gW base N cell)[k]? = some (base + k, .inr (c, fs)) := by rw [show (gW base N cell)[k]? = some (base + k, cell k) from ww_get hk, hc]
  rcases h7 with h7 | ⟨host, h7⟩
  · exact va_get C.1.1 C.1.2.1 C.1.2.2.2.2.2.1 h5 C.1.2.2.2.2.1 C.2.2.1.1 C.2.2.2.2.1 k he h1 j h2 (C.1.2.2.2.2.2.1 _ h7) (fun x h => by rw [h6] at h; exact h) hv hd (kk p e s m args below meth c9 H locs ls C)
  · exact va_getN C.1.1 C.1.2.1 C.1.2.2.2.2.2.1 h5 C.1.2.2.2.2.1 C.2.2.1.1 C.2.2.2.2.1 k he h1 j h2 (va_Nw.use rfl (C.2.2.1.2.2.2.2.2.2.2.1 _ h7)) (fun x h => by rw [h6] at h; exact h) hv hd (kk p e s m args below meth c9 H locs ls C)
/-- a field written: not final -/
theorem gc_put {k idx c j : Nat} {fs : List Value} {w : Value} {ty : FieldType} {Cn : String} {T : u_T} {n : Nat} {ty0 : Nat → FieldType} (hd : decode M.1 pc = .ok (.putfield idx, 3)) (hcl : go_cl[c]? = some (Cn, T, n)) (hin : ∀ w ∈ u_ws Cn T n, w ∈ go_TT) (hty : ∀ k, k < n → parseFieldDescriptor (T k).2.2.1 = some (ty0 k)) (hnm : ∀ a, a < n → ∀ b, b < n → a ≠ b → (T a).2.1 ≠ (T b).2.1) (hj : j < n) (hlink : Cond.fieldLink M.2.2.2.1 idx Cn (T j).2.1 (T j).2.2.1 ∈ go_TT) (hdc : (T j).1 = Cn) (hfin : (T j).2.2.2 = false) (hpd : parseFieldDescriptor (T j).2.2.1 = some ty) (hn : narrow ty w = w) (hfit : fits ty w = true) (hk : k < N) (hc : cell k = .inr (c, fs)) (hl : j < fs.length)
    (kk : Gc l G M Nm Ex En base N (va_up cell k (.inr (c, fs.set j w))) lv (pc + 3) st cells slots) : Gc l G M Nm Ex En base N cell lv pc (w :: .ref (base + k) :: st) cells slots := by
  intro p e s m args below meth c9 H locs ls C
  have hts := C.1.2.2.2.2.2.1
  have hK := C.2.2.1.1
  have hP := C.2.2.2.2.1
  have he : (gW base N cell)[k]? = some (base + k, .inr (c, fs)) := by rw [show (gW base N cell)[k]? = some (base + k, cell k) from ww_get hk, hc]
  have hap := va_apart (own := M.2.2.2.1) hts hin ty0 hty hnm hK hcl
  obtain ⟨r, h1, ce, q1, q2, q3, q4⟩ := hP k _ he
  have hr : r = (Cn, T, n) := Option.some.inj (h1.symm.trans hcl)
  subst hr
  obtain ⟨hS, hfc, kC, hkC, hkind⟩ := hK.1 c _ hcl
  obtain ⟨cf, kf, fi, f, hi, hsl⟩ := hS j hj
  have hlay := hts _ (hin _ (u_in_lay hj))
  unfold u_lay at hlay
  rw [if_neg (by rw [hfin]; decide)] at hlay
  have hst := (u_facts hfc hkC (u_lays hts hin hj) hi).1
  have h6 := u_store hfc hkC hkind hlay hi hpd hn hfit
  refine W.putK C.1.1 C.1.2.1 (f := f) ⟨C.1.2.2.2.2.1, hts _ hlink, ⟨_, _, _, by have := hi; rw [hdc] at this; exact this⟩, hst⟩ (by rw [q2]; exact h6) q1 q3 (by rw [hsl]; exact k2_hasslot (q4 j hj)) rfl rfl hd fun H' e1 e2 e3 => ?_
  rw [hsl] at e1 ⊢
  exact kk p e s m args below meth c9 H' _ ls (gc_wr C hk (hP.set gW_D he ⟨_, hcl, t_OB.to (V := updV (vp_V fs) j w) ⟨_, e1, q2, q3, t_set q4 hap hj w⟩ (fun j _ => vp_updV_set hl w j)⟩ e3) e2 (C.2.2.2.2.2.2.1.put e2 e3 (Nat.le_add_right base k)))
/-- .. final, in the constructor of its class -/
theorem gc_putF {k idx c j : Nat} {fs : List Value} {w : Value} {ty : FieldType} {Cn : String} {T : u_T} {n : Nat} {ty0 : Nat → FieldType} (hd : decode M.1 pc = .ok (.putfield idx, 3)) (hnmi : Nm = "<init>") (hcl : go_cl[c]? = some (Cn, T, n)) (hin : ∀ w ∈ u_ws Cn T n, w ∈ go_TT) (hty : ∀ k, k < n → parseFieldDescriptor (T k).2.2.1 = some (ty0 k)) (hnm : ∀ a, a < n → ∀ b, b < n → a ≠ b → (T a).2.1 ≠ (T b).2.1) (hj : j < n) (hlink : Cond.fieldLink M.2.2.2.1 idx Cn (T j).2.1 (T j).2.2.1 ∈ go_TT) (hdc : (T j).1 = Cn) (hown : M.2.2.2.1 = Cn) (hfin : (T j).2.2.2 = true) (hpd : parseFieldDescriptor (T j).2.2.1 = some ty) (hn : narrow ty w = w) (hfit : fits ty w = true) (hk : k < N) (hc : cell k = .inr (c, fs)) (hl : j < fs.length)
    (kk : Gc l G M Nm Ex En base N (va_up cell k (.inr (c, fs.set j w))) lv (pc + 3) st cells slots) : Gc l G M Nm Ex En base N cell lv pc (w :: .ref (base + k) :: st) cells slots := by
  intro p e s m args below meth c9 H locs ls C
  have hts := C.1.2.2.2.2.2.1
  have hK := C.2.2.1.1
  have hP := C.2.2.2.2.1
  have hwn := C.1.2.2.2.2.1
  have he : (gW base N cell)[k]? = some (base + k, .inr (c, fs)) := by rw [show (gW base N cell)[k]? = some (base + k, cell k) from ww_get hk, hc]
  have hap := va_apart (own := M.2.2.2.1) hts hin ty0 hty hnm hK hcl
  obtain ⟨r, h1, ce, q1, q2, q3, q4⟩ := hP k _ he
  have hr : r = (Cn, T, n) := Option.some.inj (h1.symm.trans hcl)
  subst hr
  obtain ⟨hS, hfc, kC, hkC, hkind⟩ := hK.1 c _ hcl
  obtain ⟨cf, kf, fi, f, hi, hsl⟩ := hS j hj
  have hlay := hts _ (hin _ (u_in_lay hj))
  unfold u_lay at hlay
  rw [if_pos hfin] at hlay
  have hst := (u_facts hfc hkC (u_lays hts hin hj) hi).1
  have hcf : m.cls = cf := by
    obtain ⟨_, _, c', _, _, _, -, -, hf', -, -, -, hown2, -⟩ := Cond.laysFinal_spec hlay
    have e1 : c' = cf := by have := hi.symm.trans hf'; simp at this; exact this.1.symm
    rw [hdc, ← hown] at hown2
    rw [← e1]; exact Option.some.inj (hwn.symm.trans hown2)
  have h6 := u_fits hfc hkC hkind (Or.inr hlay) hi hpd hn hfit
  refine W.putFinK C.1.1 C.1.2.1 hwn (hts _ hlink) (by have := hi; rw [hdc] at this; exact this) hst hcf (C.2.2.2.2.2.2.2.2.trans hnmi) (by rw [q2]; exact h6) q1 q3 (by rw [hsl]; exact k2_hasslot (q4 j hj)) rfl rfl hd fun H' e1 e2 e3 => ?_
  rw [hsl] at e1 ⊢
  exact kk p e s m args below meth c9 H' _ ls (gc_wr C hk (hP.set gW_D he ⟨_, hcl, t_OB.to (V := updV (vp_V fs) j w) ⟨_, e1, q2, q3, t_set q4 hap hj w⟩ (fun j _ => vp_updV_set hl w j)⟩ e3) e2 (C.2.2.2.2.2.2.1.put e2 e3 (Nat.le_add_right base k)))
theorem gc_iast {k n i : Nat} {x : Int32} {f : Nat → Int32} (hd : decode M.1 pc = .ok (.iastore, 1)) (hk : k < N) (hc : cell k = .inl (G.2.1 0, n, .inl f)) (hi : i < n) (hn : n < 2 ^ 31)
    (kk : Gc l G M Nm Ex En base N (va_up cell k (.inl (G.2.1 0, n, .inl (upd f i x)))) lv (pc + 1) st cells slots) : Gc l G M Nm Ex En base N cell lv pc (.int x :: .int (nI i) :: .ref (base + k) :: st) cells slots := by
  intro p e s m args below meth c9 H locs ls C
  have hP := C.2.2.2.2.1
  have hK := C.2.2.1.1
  have he : (gW base N cell)[k]? = some (base + k, .inl (G.2.1 0, n, .inl f)) := by rw [show (gW base N cell)[k]? = some (base + k, cell k) from ww_get hk, hc]
  have hin := vp_in_nI hi hn
  have hcl : (nI i).toNatClampNeg = i := nI_clamp (by omega)
  refine W.iast C.1.1 C.1.2.1 (hP k _ he) ((hK.2 0 _ rfl).1 n (fun j => .int (f j))) (fun q => by cases q) (by show ¬ (nI i < 0 ∨ (arrV _ _ _).slots.size ≤ _); rw [arrV_size]; exact hin) rfl rfl hd fun H1 e1 z oq => ?_
  refine kk p e s m args below meth c9 H1 _ ls (gc_wr C hk (hP.set gW_D he ?_ oq) z (C.2.2.2.2.2.2.1.put z oq (Nat.le_add_right base k)))
  show H1[base + k]? = some (vp_cell _ _)
  rw [e1, vp_cell_i, vp_cell_i, arrV_store, hcl]
  congr 2
  funext q
  by_cases hq : q = i
  · subst hq
    simp [updV, upd]
  · simp [updV, upd, hq]
theorem gc_aast {k k2 n i ci : Nat} {t : Nat} {r : vw_C} {vs : List Value} {f : Nat → Option Nat} (hd : decode M.1 pc = .ok (.aastore, 1)) (hk : k < N) (hc : cell k = .inl (G.2.1 t, n, .inr (.inr (.inr (.inr f))))) (hk2 : k2 < N) (hc2 : cell k2 = .inr (ci, vs)) (hr : go_cl[ci]? = some r) (ht : (go_tys G.2.1)[t]? = some (G.2.1 t, .object r.1)) (hi : i < n) (hn : n < 2 ^ 31)
    (kk : Gc l G M Nm Ex En base N (va_up cell k (.inl (G.2.1 t, n, .inr (.inr (.inr (.inr (va_up f i (some (base + k2))))))))) lv (pc + 1) st cells slots) : Gc l G M Nm Ex En base N cell lv pc (.ref (base + k2) :: .int (nI i) :: .ref (base + k) :: st) cells slots := by
  intro p e s m args below meth c9 H locs ls C
  have hP := C.2.2.2.2.1
  have hK := C.2.2.1.1
  have he : (gW base N cell)[k]? = some (base + k, .inl (G.2.1 t, n, .inr (.inr (.inr (.inr f))))) := by rw [show (gW base N cell)[k]? = some (base + k, cell k) from ww_get hk, hc]
  have hv : (gW base N cell)[k2]? = some (base + k2, .inr (ci, vs)) := by rw [show (gW base N cell)[k2]? = some (base + k2, cell k2) from ww_get hk2, hc2]
  have hin := vp_in_nI hi hn
  have hcl : (nI i).toNatClampNeg = i := nI_clamp (by omega)
  have h0 : ¬ nI i < 0 := fun q => hin (Or.inl q)
  obtain ⟨r', hr', cellV, g1, g2, g3, -⟩ := hP k2 _ hv
  have hcls := (hK.1 ci r hr).2
  obtain ⟨kA, comp, k1, k3, k4, -⟩ := (hK.2 t _ ht).2
  have hcomp : comp = G.1.1 ci := Option.some.inj (k4.symm.trans hcls.1)
  subst hcomp
  obtain ⟨kC, hkC, -⟩ := hcls.2
  refine W.aast C.1.1 C.1.2.1 (hP k _ he) (fun q h => by cases h) (fun h => by cases h) k1 k3 rfl hkC ⟨h0, by show _ < (arrV _ _ _).slots.size; rw [arrV_size, hcl]; exact hi⟩ g1 (fun q h => by rw [g3] at h; cases h) (by rw [g2]; exact hkC) (by rw [g2]; exact va_assign hcls) rfl rfl hd fun H1 e1 z oq => ?_
  refine kk p e s m args below meth c9 H1 _ ls (gc_wr C hk (hP.set gW_D he ?_ oq) z (C.2.2.2.2.2.2.1.put z oq (Nat.le_add_right base k)))
  show H1[base + k]? = some (vp_cell _ _)
  rw [e1, vp_cell_q, vp_cell_q, arrV_store, hcl]
  congr 2
  funext q
  by_cases hq : q = i
  · subst hq
    simp [updV, va_up, va_rf]
  · simp [updV, va_up, hq]
/-- behind the making of one cell -/
theorem gc_grow {p : Program} {s : State} {m : MethodId} {args : Array Value} {meth : Method} {c : Code} {H H1 : Heap} {locs : List Loc} {ls : Array Slot} {e : va_E} (C : gc_C G M Nm Ex base N cell lv p s m args meth c H locs ls) (hz : H1.size = H.size + 1) (ho : ∀ q, q < H.size → H1[q]? = H[q]?) (hn : va_at G.1 go_cl (base + N, e) H1) : gc_C G M Nm Ex base (N + 1) (va_up cell N e) lv p s m args meth c H1 locs ls := by
  obtain ⟨c1, c2, c3, c4, c5, c6, c7, c8, c9⟩ := C
  exact ⟨c1, c2, c3, c4, gW_push c5 c6 ho hn, by rw [hz, c6]; omega, ⟨Nat.le_trans c7.1 (by omega), fun x h1 h2 => (ho x (Nat.lt_of_lt_of_le h1 c7.1)).trans (c7.2.1 x h1 h2), c7.2.2⟩, c8, c9⟩
theorem gc_new {idx ci n : Nat} {Cn : String} {T : u_T} {ty0 : Nat → FieldType} {fs : List Value} (hd : decode M.1 pc = .ok (.new idx, 3)) (hcl : go_cl[ci]? = some (Cn, T, n)) (hin : ∀ w ∈ u_ws Cn T n, w ∈ go_TT) (hty : ∀ k, k < n → parseFieldDescriptor (T k).2.2.1 = some (ty0 k)) (hw : Cond.classLink M.2.2.2.1 idx Cn ∈ go_TT ∧ Cond.instantiable Cn n ∈ go_TT ∧ Cond.initialized Cn ∈ go_TT) (hfs : ∀ j, j < n → defaultValue (ty0 j) = vp_V fs j) (hR : cells + 1 ≤ M.2.2.2.2.2.cells ∧ slots + n ≤ M.2.2.2.2.2.slots)
    (kk : Gc l G M Nm Ex En base (N + 1) (va_up cell N (.inr (ci, fs))) lv (pc + 3) (.ref (base + N) :: st) (cells + 1) (slots + n)) : Gc l G M Nm Ex En base N cell lv pc st cells slots := by
  intro p e s m args below meth c9 H locs ls C
  have hts := C.1.2.2.2.2.2.1
  have hKn := C.2.2.1.1.1 ci _ hcl
  refine W.newcK C.1.1 C.1.2.1 C.1.2.2.2.2.1 (hts _ hw.1) (hts _ hw.2.1) (hts _ hw.2.2) rfl hd hR.1 hR.2 hKn.2.1 rfl fun H1 kC hkC e1 z1 o1 => ?_
  have hz := C.2.2.2.2.2.1
  rw [hz] at e1 ⊢
  exact kk p e s m args below meth c9 H1 locs ls (gc_grow C z1 o1 ⟨_, hcl, (u_born ty0 hts hin hKn hkC e1 hty).to hfs⟩)
theorem gc_newa {n : Int32} {N' t : Nat} {atype : ArrayType} {a0 : vp_A} (hd : decode M.1 pc = .ok (.newarray atype, 2)) (hw : Cond.arrayClass (newarray.typeOf atype) ∈ go_TT) (ht : (go_tys G.2.1)[t]? = some (G.2.1 t, newarray.typeOf atype)) (hro : ∀ (U : State) (c : ClassId), va_RA U c (newarray.typeOf atype) → U.vm.findClass ("[" ++ (newarray.typeOf atype).toString) = some c) (ha : ∀ cA : ClassId, vp_cell cA a0 = arrV cA N' (fun _ => defaultValue (newarray.typeOf atype))) (hn : ¬ n < 0) (hN : n.toNatClampNeg = N') (hb : N' * componentBytes (newarray.typeOf atype) ≤ 536870912) (hR : cells + 1 ≤ M.2.2.2.2.2.cells ∧ slots + N' ≤ M.2.2.2.2.2.slots)
    (kk : Gc l G M Nm Ex En base (N + 1) (va_up cell N (.inl (G.2.1 t, a0))) lv (pc + 2) (.ref (base + N) :: st) (cells + 1) (slots + N')) : Gc l G M Nm Ex En base N cell lv pc (.int n :: st) cells slots := by
  intro p e s m args below meth c9 H locs ls C
  have hts := C.1.2.2.2.2.2.1
  refine va_newaK C.1.1 C.1.2.1 (hts _ hw) rfl hd rfl hn hN hb hR.1 hR.2 rfl fun H1 cA e1 z1 o1 hAr hNm => ?_
  have hq : cA = G.2.1 t := Option.some.inj (hNm.symm.trans (hro s _ (C.2.2.1.1.2 t _ ht).2))
  subst hq
  have hz := C.2.2.2.2.2.1
  rw [hz] at e1 ⊢
  refine kk p e s m args below meth c9 H1 locs ls (gc_grow C (by rw [z1]) o1 ?_)
  show H1[base + N]? = some (vp_cell _ _)
  rw [ha]
  exact e1
theorem gc_anew {n : Int32} {N' t idx : Nat} {Cn : String} (hd : decode M.1 pc = .ok (.anewarray idx, 3)) (hw : Cond.classLink M.2.2.2.1 idx Cn ∈ go_TT) (hao : ∀ s, Ex s → va_AO Cn s) (ht : (go_tys G.2.1)[t]? = some (G.2.1 t, .object Cn)) (hn : ¬ n < 0) (hN : n.toNatClampNeg = N') (hb : N' * 4 ≤ 536870912) (hR : cells + 1 ≤ M.2.2.2.2.2.cells ∧ slots + N' ≤ M.2.2.2.2.2.slots)
    (kk : Gc l G M Nm Ex En base (N + 1) (va_up cell N (.inl (G.2.1 t, N', .inr (.inr (.inr (.inr (fun _ => none))))))) lv (pc + 3) (.ref (base + N) :: st) (cells + 1) (slots + N')) : Gc l G M Nm Ex En base N cell lv pc (.int n :: st) cells slots := by
  intro p e s m args below meth c9 H locs ls C
  have hts := C.1.2.2.2.2.2.1
  subst hN
  refine W.anew C.1.1 C.1.2.1 C.1.2.2.2.2.1 (hts _ hw) (va_AO.use (hao s C.2.1)) rfl hd rfl hn hb hR.1 hR.2 fun cA kA comp f1 f2 f3 f4 => ?_
  obtain ⟨_, _, _, _, _, hfc⟩ := (C.2.2.1.1.2 t _ ht).2
  have hq : cA = G.2.1 t := Option.some.inj (f1.symm.trans hfc)
  subst hq
  generalize hH1 : H.push ({ cls := G.2.1 t, slots := Array.replicate n.toNatClampNeg .null, vm := .none } : Cell) = H1
  have z1 : H1.size = H.size + 1 := by rw [← hH1, Array.size_push]
  have e1 : H1[H.size]? = some (arrV (G.2.1 t) n.toNatClampNeg (fun _ => .null)) := by rw [← hH1, Array.getElem?_push_size, ← arrV_new]
  have o1 : ∀ q : Nat, q < H.size → H1[q]? = H[q]? := fun q hq => by rw [← hH1, Array.getElem?_push, if_neg (Nat.ne_of_lt hq)]
  have hz := C.2.2.2.2.2.1
  rw [hz] at e1 ⊢
  refine kk p e s m args below meth c9 H1 locs ls (gc_grow C z1 o1 ?_)
  show H1[base + N]? = some (vp_cell _ _)
  rw [vp_cell_q]
  exact e1
theorem gW_more {D : va_G} {cl : List vw_C} {base N : Nat} {cell : Nat → va_E} {H : Heap} (K : Nat) (h : ∀ k, k < N + K → va_at D cl (base + k, cell k) H) : va_P D cl (gW base (N + K) cell) H := by
  intro k q hk
  obtain ⟨h1, rfl⟩ := ww_key hk
  exact h k h1
/-- new int[n][k] -/
theorem gc_mna {n k : Int32} {N' K' idx : Nat} (hd : decode M.1 pc = .ok (.multianewarray idx 2, 4)) (hw : Cond.classLink M.2.2.2.1 idx "[[I" ∈ go_TT) (hw2 : Cond.arrayClass .int ∈ go_TT) (hao : ∀ s, Ex s → va_AOA .int s) (hn : ¬ n < 0) (hk : ¬ k < 0) (hN : n.toNatClampNeg = N') (hK : k.toNatClampNeg = K') (hb1 : N' * 4 ≤ 536870912) (hb2 : K' * componentBytes .int ≤ 536870912) (hb3 : K' ≤ 536870912) (hR : cells + (1 + N') ≤ M.2.2.2.2.2.cells ∧ slots + (N' + N' * K') ≤ M.2.2.2.2.2.slots)
    (kk : Gc l G M Nm Ex En base (N + (1 + N')) (fun q => if q < N then cell q else if q = N then .inl (G.2.1 6, N', .inr (.inr (.inr (.inr (fun i => if i < N' then some (base + N + 1 + i) else none))))) else .inl (G.2.1 0, K', .inl (fun _ => 0))) lv (pc + 4) (.ref (base + N) :: st) (cells + 1 + N') (slots + N' + N' * K')) : Gc l G M Nm Ex En base N cell lv pc (.int k :: .int n :: st) cells slots := by
  intro p e s m args below meth c9 H locs ls C
  have hts := C.1.2.2.2.2.2.1
  subst hN
  subst hK
  have hz := C.2.2.2.2.2.1
  have hP := C.2.2.2.2.1
  have hS := C.2.2.2.2.2.2.1
  have hcy : s.vm.findClass (FieldType.array .int).toString = some (G.2.1 0) := (C.2.2.1.1.2 0 _ rfl).2
  have hco : s.vm.findClass ("[" ++ (FieldType.array .int).toString) = some (G.2.1 6) := (C.2.2.1.1.2 6 _ rfl).2
  intro T hT Xs
  obtain ⟨vm₁, cA, comp, -, fA, fC, hO, -, X', step⟩ := Xs.multianewarray2F C.1.1 C.1.2.2.2.2.1 (show (Cond.classLink M.2.2.2.1 idx ("[" ++ (FieldType.array .int).toString)).before args s = true from hts _ hw) (va_AOA.use (hao s C.2.1)) (hts _ hw2) (g := F0 m pc ls (.int k :: .int n :: st)) rfl (by rw [C.1.2.1]; exact hd) rfl hn hk hb1 hb2 hb3 rfl rfl hR.1 hR.2
  have ec : some (G.2.1 0) = some comp := hcy.symm.trans fC
  cases ec
  have ea : some (G.2.1 6) = some cA := hco.symm.trans fA
  cases ea
  generalize hF : Jvm.Free.Multi.fill (T.setVm vm₁) (G.2.1 6) (G.2.1 0) n.toNatClampNeg k.toNatClampNeg (defaultValue .int) n.toNatClampNeg = F at X' step
  have hTh : (T.setVm vm₁).heap = H := hT
  obtain ⟨f1, f2, -, -⟩ := Jvm.Free.Multi.fill_facts (T.setVm vm₁) (G.2.1 6) (G.2.1 0) n.toNatClampNeg k.toNatClampNeg (defaultValue .int) n.toNatClampNeg
  rw [hF, hTh] at f1 f2
  have hold : ∀ x : Nat, x < H.size → F.heap[x]? = H[x]? := fun x hx => by
    have := Jvm.Free.Multi.fill_old (T.setVm vm₁) (G.2.1 6) (G.2.1 0) n.toNatClampNeg k.toNatClampNeg (defaultValue .int) (a := x) (by rw [hTh]; exact hx) n.toNatClampNeg
    rw [hF, hTh] at this
    exact this
  have hrow : ∀ j : Nat, j < n.toNatClampNeg → F.heap[H.size + 1 + j]? = some (vp_cell (G.2.1 0) (k.toNatClampNeg, .inl (fun _ => 0))) := fun j hj => by
    have := Jvm.Free.Multi.fill_inner (T.setVm vm₁) (G.2.1 6) (G.2.1 0) n.toNatClampNeg k.toNatClampNeg (defaultValue .int) n.toNatClampNeg j hj
    rw [hF, hTh] at this
    rw [this, vp_cell_i]
    show some ({ cls := G.2.1 0, slots := Array.replicate k.toNatClampNeg (.int 0), vm := .none } : Cell) = _
    rw [arrV_new]
  have hout : F.heap[H.size]? = some (vp_cell (G.2.1 6) (n.toNatClampNeg, .inr (.inr (.inr (.inr (fun i => if i < n.toNatClampNeg then some (H.size + 1 + i) else none)))))) := by
    rw [f2, vp_cell_q]
    exact congrArg some (vr_outer (G.2.1 6) n.toNatClampNeg H.size n.toNatClampNeg)
  have hall : ∀ q, q < N + (1 + n.toNatClampNeg) → va_at G.1 go_cl (base + q, if q < N then cell q else if q = N then .inl (G.2.1 6, n.toNatClampNeg, .inr (.inr (.inr (.inr (fun i => if i < n.toNatClampNeg then some (base + N + 1 + i) else none))))) else .inl (G.2.1 0, k.toNatClampNeg, .inl (fun _ => 0))) F.heap := by
    intro q hq
    by_cases h1 : q < N
    · simp only [if_pos h1]
      exact (hP q _ (ww_get h1)).kept (hold _ (by rw [hz]; show base + q < base + N; omega))
    · by_cases h2 : q = N
      · subst h2
        simp only [if_neg h1, if_true]
        show F.heap[base + q]? = some (vp_cell _ _)
        rw [← hz]
        exact hout
      · simp only [if_neg h1, if_neg h2]
        show F.heap[base + q]? = some (vp_cell _ _)
        have := hrow (q - (N + 1)) (by omega)
        rw [hz, show base + N + 1 + (q - (N + 1)) = base + q by omega] at this
        exact this
  obtain ⟨t, a1, b1⟩ := kk p e s m args below meth c9 F.heap locs ls ⟨C.1, C.2.1, C.2.2.1, C.2.2.2.1, gW_more _ hall, by rw [f1, hz]; omega, ⟨by rw [f1]; have := hS.1; omega, fun x h1 h2 => (hold x (Nat.lt_of_lt_of_le h1 hS.1)).trans (hS.2.1 x h1 h2), hS.2.2⟩, C.2.2.2.2.2.2.2⟩ F rfl X'
  refine ⟨t, step t ?_, b1⟩
  have e : T.heap.size = base + N := by rw [hT, hz]
  rw [e]
  exact a1
end GcMake
