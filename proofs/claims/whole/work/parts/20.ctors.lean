/-! CONTRACTS OF CONSTRUCTORS: from the world of N cells to that of N' -/
def gc_Pc (G : go_G) (base N : Nat) (cell : Nat → va_E) (Ex : State → Prop) (args : List Value) : Array Value → State → Prop := va_Pc args (fun U => U.heap.size = base + N ∧ go_K G go_tx go_nc (gc_A base) U ∧ va_P G.1 go_cl (gW base N cell) U.heap ∧ Ex U)
def gc_Q (G : go_G) (base N' : Nat) (cell' : Nat → va_E) : Array Value → State → Outcome → State → Prop := fun _ st o t => (o = .returned none ∧ va_P G.1 go_cl (gW base N' cell') t.heap ∧ t.heap.size = base + N') ∧ va_F (gc_A base) st t
def Cc (l : Launch) (G : go_G) (y : MethodName) (ws : List Cond) (rm : Room) (base N : Nat) (cell : Nat → va_E) (Ex : State → Prop) (args : List Value) (N' : Nat) (cell' : Nat → va_E) : Prop := Met l y ws rm (gc_Pc G base N cell Ex args) (gc_Q G base N' cell') rm.cells rm.slots (gc_A base)
def gc_E (G : go_G) (base N' : Nat) (cell' : Nat → va_E) (mc ms : Nat) : gc_En := fun below args s => MQ below (gc_Q G base N' cell') args s mc ms (gc_A base)
/-- a premise that the warming of the machine keeps -/
def gc_ok (Ex : State → Prop) : Prop := ∀ s U : State, s.WarmedH U.vm → Ex s → Ex U
section GcCalls
variable {l : Launch} {G : go_G} {M : go_M} {Nm : String} {Ex Ex1 : State → Prop} {En : gc_En} {base N N' : Nat} {cell cell' : Nat → va_E} {lv : List (Nat × Value)} {pc : Nat} {st : List Value} {cells slots c2 s2 : Nat} {y : MethodName} {cy : ByteArray} {mL : Nat} {rm : Room}
theorem gc_vret {mc ms : Nat} (hd : decode M.1 pc = .ok (.return_, 1)) (ht : M.2.2.1 = none) (hc : cells ≤ mc) (hs : slots ≤ ms) (he : ∀ k, k < N → cell k = cell' k) : Gc l G M Nm Ex (gc_E G base N cell' mc ms) base N cell lv pc [] cells slots := by
  intro p e s m args below meth c H locs ls C
  refine W.widen hc hs (W.vret C.1.1 C.1.2.1 (C.1.2.2.2.1.trans ht) (fun t hh _ => ?_) C.2.2.2.2.2.2.1.2.2 hd C.1.2.2.2.2.2.2.1)
  exact ⟨⟨rfl, by rw [hh, ← gW_congr he]; exact C.2.2.2.2.1, by rw [hh]; exact C.2.2.2.2.2.1⟩, C.2.2.2.2.2.2.1.F hh⟩
theorem gc_body {args : List Value} {own : String} (hy : plainName y.cls = true) (ho : own = y.cls) (hnm : y.name = "<init>") (hlen : (lg_sl args).length ≤ mL) (h : Gc l G (cy, mL, none, own, [], rm) "<init>" Ex (gc_E G base N' cell' rm.cells rm.slots) base N cell (lv_args 0 args) 0 [] 0 0) : Cc l G y (.code y cy mL none :: go_TT) rm base N cell Ex args N' cell' := by
  refine Met.ofW (cc := cy) (maxL := mL) (ret := none) hy rfl ?_
  intro p e s m args9 below meth c s₁ B hml hv
  obtain ⟨rfl, hsz, hK, hP, hE⟩ := hv
  have hts := atoms_spec (ws := .code y cy mL none :: go_TT) B.pre
  have hl := lv_entry args (n := mL) hlen
  rw [lg_entry_eq]
  subst ho
  refine h p e s m _ below meth c s.heap [] _ ⟨⟨B.exec, B.bytes, hml, B.returns, findClass_of_methodNamed B.named, fun w hw => hts w (List.mem_cons_of_mem _ hw), B.notSynchronized, ?_⟩, hE, hK, by rw [hsz]; exact Nat.le_add_right base N, hP, hsz, va_S.rf, hl, (name_of_methodNamed B.named B.method).1.trans hnm⟩
  obtain ⟨meth9, c9, h1, h2, -, -, -, -, h7, -⟩ := Cond.code_spec B.named (hts _ List.mem_cons_self)
  cases Option.some.inj (h1.symm.trans B.method)
  cases Option.some.inj (h2.symm.trans (Stand.of_body B).code)
  rw [Array.isEmpty_iff.mp h7]
theorem gc_after {p : Program} {e : Env} {s : State} {m : MethodId} {args : Array Value} {below : List Frame} {meth : Method} {c : Code} {H : Heap} {locs : List Loc} {ls : Array Slot} {a : Array Value} {rest : List Value} (C : gc_C G M Nm Ex base N cell lv p s m args meth c H locs ls)
    (hr : va_Run p l e M.2.2.2.2.2 s m args below meth c H locs cells slots rm.cells rm.slots (F0 m pc ls st) rest (gc_Q G base N' cell' a) (gc_A base)) (kn : Gc l G M Nm Ex En base N' cell' lv (pc + 3) rest (cells + rm.cells) (slots + rm.slots)) : W p l e M.2.2.2.2.2 s m args below meth c H locs cells slots (En below args s) (F0 m pc ls st) := by
  obtain ⟨c1, c2, c3, c4, c5, c6, c7, c8, c9⟩ := C
  intro T hT X
  obtain ⟨vv, st₀, t, T', L, h0, X', hL, e1, e2, ⟨⟨hv, hp, hz⟩, hF⟩, stp⟩ := hr T hT X
  cases hv
  obtain ⟨k1, k2, k3⟩ := vx_keep h0 e1 c7 (fun q _ h => h) (fun q h => h) hL hF
  obtain ⟨t2, a1, b1⟩ := kn p e s m args below meth c T'.heap (locs ++ L) ls ⟨c1, c2, c3, c4, by rw [e1]; exact hp, by rw [e1]; exact hz, k3, c8, c9⟩ T' rfl X'
  exact ⟨t2, stp t2 a1, b1⟩
theorem gc_pre {p : Program} {s : State} {m : MethodId} {args : Array Value} {meth : Method} {c : Code} {H : Heap} {locs : List Loc} {ls : Array Slot} (C : gc_C G M Nm Ex base N cell lv p s m args meth c H locs ls) (hE : gc_ok Ex1) (hE1 : Ex1 s) (As : List Value) : PreS s H (gc_Pc G base N cell Ex1 As) As := by
  obtain ⟨c1, c2, c3, c4, c5, c6, c7, c8, c9⟩ := C
  refine ⟨fun a U g mk h => ?_, fun U hU hW => ⟨rfl, by rw [hU]; exact c6, go_K_to c3 hW (fun a h1 h2 => by rw [hU]; exact c7.2.1 a h1 h2) (fun _ h => h), by rw [hU]; exact c5, hE s U hW hE1⟩⟩
  obtain ⟨h1, h2, h3, h4, h5⟩ := h
  exact ⟨h1, h2, go_K_to h3 (State.WarmedH.refl U) (fun _ _ _ => rfl) (fun _ h => h), h4, hE U _ (State.WarmedH.refl U) h5⟩
/-- a private constructor of a nest mate -/
theorem gc_cN {k idx : Nat} {host : String} (hc2 : cells + rm.cells = c2) (hs2 : slots + rm.slots = s2) (hM : Cc l G y (.code y cy mL none :: go_TT) rm base N cell Ex1 [.ref (base + k)] N' cell') (hE : gc_ok Ex1) (hE1 : ∀ s, Ex s → Ex1 s) (hd : decode M.1 pc = .ok (.invokespecial idx, 3)) (hw : Cond.methodLinkNest M.2.2.2.1 idx y host ∈ go_NW ∧ Cond.code y cy mL none ∈ go_TT ∧ Cond.initialized y.cls ∈ go_TT ∧ y.cls ≠ "java/lang/invoke/MethodHandle" ∧ y.cls ≠ "java/lang/invoke/VarHandle" ∧ (parseMethodDescriptor y.desc).map (fun d => d.parameters.length) = some 0) (hi : Cond.instanceMethod y ∈ go_TT) (hnm : y.name = "<init>")
    (hR : rm.frames + 1 ≤ M.2.2.2.2.2.frames ∧ 8 + (mL + 11) + rm.locals ≤ M.2.2.2.2.2.locals) (hst : (st.map fun v => v.category).sum ≤ 8) (hf : c2 ≤ M.2.2.2.2.2.cells ∧ s2 ≤ M.2.2.2.2.2.slots) (kn : Gc l G M Nm Ex En base N' cell' lv (pc + 3) st c2 s2) : Gc l G M Nm Ex En base N cell lv pc (.ref (base + k) :: st) cells slots := by
  subst hc2; subst hs2
  intro p e s m args below meth c H locs ls C
  have hts := C.1.2.2.2.2.2.1
  obtain ⟨w1, w2, w3, w4, w5, w6⟩ := hw
  have hG : GoodIn go_TT (.code y cy mL none :: go_TT) := fun w hw => by
    rcases List.mem_cons.mp hw with rfl | hw
    · exact go_goodTT (fun _ h => h) _ w2
    · exact go_goodTT (fun _ h => h) w hw
  have cw := va_cnB (R := M.2.2.2.2.2) (args := args) (own := M.2.2.2.1) (index := idx) (rm := rm) 0 hts hG rfl rfl rfl (C.2.2.1.2.2.2.2.2.2.2.1 _ w1) (hts _ w3) ⟨w4, w5, w6⟩ hR
  exact gc_after C (va_runIN (As := []) (b := base + k) (rest := st) (g := F0 m pc ls (.ref (base + k) :: st)) ⟨C.1.1, C.1.2.1, C.1.2.2.1, C.1.2.2.2.2.1, hts⟩ hM ⟨cw, hnm, hts _ hi⟩ (gc_pre C hE (hE1 s C.2.1) _) rfl rfl C.2.2.2.2.2.2.2.1.1 rfl (lv_room hst) hd hf) kn
/-- .. and a public one -/
theorem gc_cI {k idx : Nat} (hc2 : cells + rm.cells = c2) (hs2 : slots + rm.slots = s2) (hM : Cc l G y (.code y cy mL none :: go_TT) rm base N cell Ex1 [.ref (base + k)] N' cell') (hE : gc_ok Ex1) (hE1 : ∀ s, Ex s → Ex1 s) (hd : decode M.1 pc = .ok (.invokespecial idx, 3)) (hw : go_wd M.2.2.2.1 idx y cy mL none 0) (hi : Cond.instanceMethod y ∈ go_TT) (hnm : y.name = "<init>")
    (hR : rm.frames + 1 ≤ M.2.2.2.2.2.frames ∧ 8 + (mL + 11) + rm.locals ≤ M.2.2.2.2.2.locals) (hst : (st.map fun v => v.category).sum ≤ 8) (hf : c2 ≤ M.2.2.2.2.2.cells ∧ s2 ≤ M.2.2.2.2.2.slots) (kn : Gc l G M Nm Ex En base N' cell' lv (pc + 3) st c2 s2) : Gc l G M Nm Ex En base N cell lv pc (.ref (base + k) :: st) cells slots := by
  subst hc2; subst hs2
  intro p e s m args below meth c H locs ls C
  have hts := C.1.2.2.2.2.2.1
  obtain ⟨w1, w2, w3, w4, w5, w6⟩ := hw
  have hG : GoodIn go_TT (.code y cy mL none :: go_TT) := fun w hw => by
    rcases List.mem_cons.mp hw with rfl | hw
    · exact go_goodTT (fun _ h => h) _ w2
    · exact go_goodTT (fun _ h => h) w hw
  exact gc_after C (va_runI (As := []) (b := base + k) (rest := st) (g := F0 m pc ls (.ref (base + k) :: st)) ⟨C.1.1, C.1.2.1, C.1.2.2.1, C.1.2.2.2.2.1, hts⟩ hM ⟨callB_of 0 hts hG rfl rfl rfl (hts _ w3) (hts _ w1) ⟨w4, w5, w6⟩ hR, hnm, hts _ hi⟩ (gc_pre C hE (hE1 s C.2.1) _) rfl rfl C.2.2.2.2.2.2.2.1.1 rfl (lv_room hst) hd hf) kn
end GcCalls
