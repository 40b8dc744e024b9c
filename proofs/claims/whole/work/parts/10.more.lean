/-! COMBINATORS of the read-back functions; switches, Math, longs; fewer locals -/
def FU : Nat := 6000
def gd (b : Bool) (k : Option go_R) : Option go_R := match b with
  | true => k
  | false => none
def br (b : Bool) (k1 k2 : Option go_R) : Option go_R := match b with
  | true => k1
  | false => k2
def bd (o : Option go_R) (k : go_R → Option go_R) : Option go_R := match o with
  | none => none
  | some r => k r
def nt (r1 : go_R) (k : Option go_R) : Option go_R := match r1.1 with
  | 0 => k
  | _ + 1 => none
def tr (r1 : go_R) (k : Option go_R) : Option go_R := match r1.1 with
  | 0 => k
  | e + 1 => some (e + 1, 0, 0, r1.2.2.2)
def ln {α : Type} (a : α) (k : α → Option go_R) : Option go_R := k a
theorem gd_some {b : Bool} {k : Option go_R} {r : go_R} (h : gd b k = some r) : b = true ∧ k = some r := by
  cases b with
  | true => exact ⟨rfl, h⟩
  | false => cases h
theorem br_some {b : Bool} {k1 k2 : Option go_R} {r : go_R} (h : br b k1 k2 = some r) : (b = true ∧ k1 = some r) ∨ (b = false ∧ k2 = some r) := by
  cases b with
  | true => exact Or.inl ⟨rfl, h⟩
  | false => exact Or.inr ⟨rfl, h⟩
theorem bd_some {o : Option go_R} {k : go_R → Option go_R} {r : go_R} (h : bd o k = some r) : ∃ r1, o = some r1 ∧ k r1 = some r := by
  cases o with
  | none => cases h
  | some r1 => exact ⟨r1, rfl, h⟩
theorem nt_some {r1 : go_R} {k : Option go_R} {r : go_R} (h : nt r1 k = some r) : r1.1 = 0 ∧ k = some r := by
  obtain ⟨e, x⟩ := r1
  cases e with
  | zero => exact ⟨rfl, h⟩
  | succ e => cases h
theorem tr_some {r1 : go_R} {k : Option go_R} {r : go_R} (h : tr r1 k = some r) : (r1.1 = 0 ∧ k = some r) ∨ (¬ r1.1 = 0 ∧ (r1.1, (0 : Int32), 0, r1.2.2.2) = r) := by
  obtain ⟨e, x⟩ := r1
  cases e with
  | zero => exact Or.inl ⟨rfl, h⟩
  | succ e => exact Or.inr ⟨Nat.succ_ne_zero e, Option.some.inj h⟩
theorem ln_some {α : Type} {a : α} {k : α → Option go_R} {r : go_R} (h : ln a k = some r) : ∃ z, z = a ∧ k z = some r := ⟨a, rfl, h⟩
def go_subs (lv : List (Nat × Value)) : List (Nat × Value) → Prop
  | [] => True
  | (i, v) :: r => go_lk lv i = some v ∧ go_subs lv r
theorem go_subs_mem {lv lv' : List (Nat × Value)} (h : go_subs lv lv') : ∀ q ∈ lv', q ∈ lv := by
  induction lv' with
  | nil => intro q hq; cases hq
  | cons z r ih =>
    obtain ⟨i, v⟩ := z
    intro q hq
    rcases List.mem_cons.mp hq with rfl | hq
    · exact go_lk_mem h.1
    · exact ih h.2 q hq
def go_lc (a b : Int32) : Int32 := lg_cmp a.toInt64 b.toInt64
section GoMore
variable {l : Launch} {G : go_G} {M : go_M} {Ex : State → (Nat → Prop) → Prop} {En : go_En} {ad : Nat → Nat} {v : go_V} {lv lv' : List (Nat × Value)} {pc : Nat} {st : List Value} {cells slots : Nat}
theorem go_sub (h : go_subs lv lv') (kk : Go l G M Ex En ad v lv' pc st cells slots) : Go l G M Ex En ad v lv pc st cells slots := fun p e s m args below meth c A H locs ls C =>
  kk p e s m args below meth c A H locs ls ⟨C.1, C.2.1, C.2.2.1, C.2.2.2.1, C.2.2.2.2.1, C.2.2.2.2.2.1, C.2.2.2.2.2.2.1, C.2.2.2.2.2.2.2.1, C.2.2.2.2.2.2.2.2.1, fun q hq => C.2.2.2.2.2.2.2.2.2 q (go_subs_mem h q hq)⟩
theorem go_in_spec {x : Int32} {n : Nat} (h : go_in x n = true) : 0 ≤ x.toInt ∧ x.toInt < n := vp_in_iff.mp (go_in_vp h)
theorem go_in_out {x : Int32} {n : Nat} (h : go_in x n = false) : x.toInt < 0 ∨ (n : Int) ≤ x.toInt := by
  rcases Int.lt_or_le x.toInt 0 with h1 | h1
  · exact Or.inl h1
  · rcases Int.lt_or_le x.toInt n with h2 | h2
    · have h3 : vp_in x n := vp_in_iff.mpr ⟨h1, h2⟩
      unfold go_in at h
      unfold vp_in at h3
      have : (decide (x < 0) || decide (n ≤ x.toNatClampNeg)) = true := by
        cases hb : (decide (x < 0) || decide (n ≤ x.toNatClampNeg)) with
        | true => rfl
        | false =>
          rw [hb] at h
          cases h
      rw [Bool.or_eq_true, decide_eq_true_eq, decide_eq_true_eq] at this
      exact absurd this h3
    · exact Or.inr h2
theorem go_tsw {dflt hi : Int} {offs : Array Int} {len : Nat} {x : Int32} {off : Int} {tgt n i : Nat} (hd : decode M.1 pc = .ok (.tableswitch dflt 0 hi offs, len)) (hin : go_in x (n + 1) = true) (hn : hi = (n : Int)) (hi2 : Nat.beq x.toNatClampNeg i = true) (ho : offs[i]? = some off) (ht : (pc : Int) + off = (tgt : Int)) (kk : Go l G M Ex En ad v lv tgt st cells slots) : Go l G M Ex En ad v lv pc (.int x :: st) cells slots := fun p e s m args below meth c A H locs ls C => by
  have h1 := go_in_spec hin
  refine lv_tableIn C.1.1 C.1.2.1 hd (by omega) (by omega) ?_ ht (kk p e s m args below meth c A H locs ls C)
  rw [Int.sub_zero, show x.toInt.toNat = i from Nat.eq_of_beq_eq_true hi2]
  exact ho
theorem go_tswO {dflt hi : Int} {offs : Array Int} {len : Nat} {x : Int32} {tgt n : Nat} (hd : decode M.1 pc = .ok (.tableswitch dflt 0 hi offs, len)) (hin : go_in x (n + 1) = false) (hn : hi = (n : Int)) (ht : (pc : Int) + dflt = (tgt : Int)) (kk : Go l G M Ex En ad v lv tgt st cells slots) : Go l G M Ex En ad v lv pc (.int x :: st) cells slots := fun p e s m args below meth c A H locs ls C => by
  have h1 := go_in_out hin
  exact lv_tableOut C.1.1 C.1.2.1 hd (by omega) ht (kk p e s m args below meth c A H locs ls C)
def go_mw (own : String) (idx : Nat) (y : MethodName) (cy : ByteArray) : Prop := Cond.methodLink own idx y ∈ go_TT ∧ Cond.static y ∈ go_TT ∧ Cond.initialized "java/lang/Math" ∈ go_TT ∧ Cond.code y cy 2 (some .int) ∈ go_TT
theorem go_min {idx : Nat} {x y : Int32} (hd : decode M.1 pc = .ok (.invokestatic idx, 3)) (hw : go_mw M.2.2.2.1 idx Lib.Math.min.name Lib.Math.min.code) (hR : 1 ≤ M.2.2.2.2.2.frames ∧ (st.map fun v => v.category).sum + 13 ≤ M.2.2.2.2.2.locals ∧ cells ≤ M.2.2.2.2.2.cells ∧ slots ≤ M.2.2.2.2.2.slots) (kk : Go l G M Ex En ad v lv (pc + 3) (.int (if y < x then y else x) :: st) cells slots) : Go l G M Ex En ad v lv pc (.int y :: .int x :: st) cells slots := fun p e s m args below meth c A H locs ls C =>
  va_mmin C.1.1 C.1.2.1 (C.1.2.2.1.trans C.2.2.2.2.2.2.2.1.symm) C.1.2.2.2.2.1 (C.1.2.2.2.2.2.1 _ hw.1) (C.1.2.2.2.2.2.1 _ hw.2.1) (C.1.2.2.2.2.2.1 _ hw.2.2.1) (C.1.2.2.2.2.2.1 _ hw.2.2.2) hR.1 hR.2.1 hR.2.2.1 hR.2.2.2 hd (kk p e s m args below meth c A H locs ls C)
theorem go_max {idx : Nat} {x y : Int32} (hd : decode M.1 pc = .ok (.invokestatic idx, 3)) (hw : go_mw M.2.2.2.1 idx Lib.Math.max.name Lib.Math.max.code) (hR : 1 ≤ M.2.2.2.2.2.frames ∧ (st.map fun v => v.category).sum + 13 ≤ M.2.2.2.2.2.locals ∧ cells ≤ M.2.2.2.2.2.cells ∧ slots ≤ M.2.2.2.2.2.slots) (kk : Go l G M Ex En ad v lv (pc + 3) (.int (if x < y then y else x) :: st) cells slots) : Go l G M Ex En ad v lv pc (.int y :: .int x :: st) cells slots := fun p e s m args below meth c A H locs ls C =>
  va_mmax C.1.1 C.1.2.1 (C.1.2.2.1.trans C.2.2.2.2.2.2.2.1.symm) C.1.2.2.2.2.1 (C.1.2.2.2.2.2.1 _ hw.1) (C.1.2.2.2.2.2.1 _ hw.2.1) (C.1.2.2.2.2.2.1 _ hw.2.2.1) (C.1.2.2.2.2.2.1 _ hw.2.2.2) hR.1 hR.2.1 hR.2.2.1 hR.2.2.2 hd (kk p e s m args below meth c A H locs ls C)
theorem go_lcmp {x y : Int32} (hd : decode M.1 pc = .ok (.lcmp, 1)) (kk : Go l G M Ex En ad v lv (pc + 1) (.int (go_lc x y) :: st) cells slots) : Go l G M Ex En ad v lv pc (.long y.toInt64 :: .long x.toInt64 :: st) cells slots := fun p e s m args below meth c A H locs ls C =>
  W.lcmp C.1.1 C.1.2.1 hd (kk p e s m args below meth c A H locs ls C)
end GoMore
section GoCalls2
variable {l : Launch} {G : go_G} {M : go_M} {Ex : State → (Nat → Prop) → Prop} {En : go_En} {ad : Nat → Nat} {v : go_V} {lv : List (Nat × Value)} {pc : Nat} {cells slots c2 s2 : Nat} {y : MethodName} {cy : ByteArray} {mL : Nat} {rt : Option FieldType} {rm : Room} {kd : Nat} {r1 : go_R} {As rest st st2 : List Value}
theorem go_cV {k idx n ci : Nat} {Cn : String} {T : u_T} {nf : Nat} (hs : st = As.reverse ++ .ref (ad k) :: rest) (h2 : (go_rv kd ad r1).toList ++ rest = st2) (hc2 : cells + rm.cells = c2) (hs2 : slots + rm.slots = s2) (hM : Ca l G y (.code y cy mL rt :: go_TT) rm kd ad (.ref (ad k) :: As) v r1) (hd : decode M.1 pc = .ok (.invokevirtual idx, 3)) (hw : go_wd M.2.2.2.1 idx y cy mL rt n) (hw2 : Cond.instanceMethod y ∈ go_TT ∧ Cond.selects Cn y y ∈ go_TT) (hk : go_cls k = ci) (hci : ci < 5) (hcl : go_cl[ci]? = some (Cn, T, nf))
    (hR : rm.frames + 1 ≤ M.2.2.2.2.2.frames ∧ 8 + (mL + 11) + rm.locals ≤ M.2.2.2.2.2.locals) (hn : As.length = n) (hst : (rest.map fun v => v.category).sum ≤ 8) (hf : c2 ≤ M.2.2.2.2.2.cells ∧ s2 ≤ M.2.2.2.2.2.slots)
    (kn : r1.1 = 0 → Go l G M Ex En ad r1.2.2.2 lv (pc + 3) st2 c2 s2) (kx : ¬ r1.1 = 0 → Gx l G M Ex En ad r1.2.2.2 lv pc rest c2 s2 r1.1) : Go l G M Ex En ad v lv pc st cells slots := by
  subst hs; subst h2; subst hc2; subst hs2
  exact go_callV hM hd hw hw2 hk hci hcl hR hn hst hf kn kx
theorem go_cS {idx n : Nat} (hs : st = As.reverse ++ rest) (h2 : (go_rv kd ad r1).toList ++ rest = st2) (hc2 : cells + rm.cells = c2) (hs2 : slots + rm.slots = s2) (hM : Ca l G y (.code y cy mL rt :: go_TT) rm kd ad As v r1) (hd : decode M.1 pc = .ok (.invokestatic idx, 3)) (hw : go_wd M.2.2.2.1 idx y cy mL rt n) (hw2 : Cond.static y ∈ go_TT)
    (hR : rm.frames + 1 ≤ M.2.2.2.2.2.frames ∧ 8 + (mL + 11) + rm.locals ≤ M.2.2.2.2.2.locals) (hn : As.length = n) (hst : (rest.map fun v => v.category).sum ≤ 8) (hf : c2 ≤ M.2.2.2.2.2.cells ∧ s2 ≤ M.2.2.2.2.2.slots)
    (kn : r1.1 = 0 → Go l G M Ex En ad r1.2.2.2 lv (pc + 3) st2 c2 s2) (kx : ¬ r1.1 = 0 → Gx l G M Ex En ad r1.2.2.2 lv pc rest c2 s2 r1.1) : Go l G M Ex En ad v lv pc st cells slots := by
  subst hs; subst h2; subst hc2; subst hs2
  exact go_callS hM hd hw hw2 hR hn hst hf kn kx
theorem go_cN {k idx n ci : Nat} {Cn host : String} {T : u_T} {nf : Nat} (hs : st = As.reverse ++ .ref (ad k) :: rest) (h2 : (go_rv kd ad r1).toList ++ rest = st2) (hc2 : cells + rm.cells = c2) (hs2 : slots + rm.slots = s2) (hM : Ca l G y (.code y cy mL rt :: go_TT) rm kd ad (.ref (ad k) :: As) v r1) (h0 : r1.1 = 0) (hd : decode M.1 pc = .ok (.invokevirtual idx, 3)) (hw : Cond.methodLinkNest M.2.2.2.1 idx y host ∈ go_NW ∧ Cond.code y cy mL rt ∈ go_TT ∧ Cond.initialized y.cls ∈ go_TT ∧ y.cls ≠ "java/lang/invoke/MethodHandle" ∧ y.cls ≠ "java/lang/invoke/VarHandle" ∧ (parseMethodDescriptor y.desc).map (fun d => d.parameters.length) = some n) (hw2 : Cond.instanceMethod y ∈ go_TT ∧ Cond.selects Cn y y ∈ go_TT) (hk : go_cls k = ci) (hci : ci < 5) (hcl : go_cl[ci]? = some (Cn, T, nf))
    (hR : rm.frames + 1 ≤ M.2.2.2.2.2.frames ∧ 8 + (mL + 11) + rm.locals ≤ M.2.2.2.2.2.locals) (hn : As.length = n) (hst : (rest.map fun v => v.category).sum ≤ 8) (hf : c2 ≤ M.2.2.2.2.2.cells ∧ s2 ≤ M.2.2.2.2.2.slots)
    (kn : Go l G M Ex En ad r1.2.2.2 lv (pc + 3) st2 c2 s2) : Go l G M Ex En ad v lv pc st cells slots := by
  subst hs; subst h2; subst hc2; subst hs2
  exact go_callN hM h0 hd hw hw2 hk hci hcl hR hn hst hf kn
theorem go_cX {idx n : Nat} {hh : List (Nat × Nat × Nat × Nat)} (hs : st = As.reverse ++ rest) (h2 : (go_rv kd ad r1).toList ++ rest = st2) (hc2 : cells + rm.cells = c2) (hs2 : slots + rm.slots = s2) (hM : Ca l G y (.codeWith y cy mL rt hh :: go_TT) rm kd ad As v r1) (hd : decode M.1 pc = .ok (.invokestatic idx, 3)) (hw : Cond.methodLink M.2.2.2.1 idx y ∈ go_TT ∧ Cond.codeWith y cy mL rt hh ∈ go_TT ∧ Cond.initialized y.cls ∈ go_TT ∧ y.cls ≠ "java/lang/invoke/MethodHandle" ∧ y.cls ≠ "java/lang/invoke/VarHandle" ∧ (parseMethodDescriptor y.desc).map (fun d => d.parameters.length) = some n) (hw2 : Cond.static y ∈ go_TT)
    (hR : rm.frames + 1 ≤ M.2.2.2.2.2.frames ∧ 8 + (mL + 11) + rm.locals ≤ M.2.2.2.2.2.locals) (hn : As.length = n) (hst : (rest.map fun v => v.category).sum ≤ 8) (hf : c2 ≤ M.2.2.2.2.2.cells ∧ s2 ≤ M.2.2.2.2.2.slots)
    (kn : r1.1 = 0 → Go l G M Ex En ad r1.2.2.2 lv (pc + 3) st2 c2 s2) (kx : ¬ r1.1 = 0 → Gx l G M Ex En ad r1.2.2.2 lv pc rest c2 s2 r1.1) : Go l G M Ex En ad v lv pc st cells slots := by
  subst hs; subst h2; subst hc2; subst hs2
  exact go_callSX hM hd hw hw2 hR hn hst hf kn kx
end GoCalls2
/-- a method's room: d calls deep, mc throws -/
abbrev rmD (d mc : Nat) : Room := { frames := 6 + d, cells := mc, slots := 6 * mc, locals := 100 + 40 * d }
theorem go_nb {x : Int32} (h : decide (x &&& 1 = x) = true) : narrow .boolean (.int x) = .int x := congrArg Value.int (of_decide_eq_true h)
