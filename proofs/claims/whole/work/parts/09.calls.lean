/-! ENDS, THROWS, CALLS, CONTRACTS -/
abbrev go_A (G : go_G) (ad : Nat → Nat) (sz : Nat) : Nat → Prop := va_A (go_W G ad (fun _ _ => 0)) sz
def go_Pc (G : go_G) (ad : Nat → Nat) (v : go_V) (args : List Value) (sz : Nat) : Array Value → State → Prop :=
  va_Pc args (fun U => U.heap.size = sz ∧ go_K G go_tx go_nc (go_A G ad sz) U ∧ va_P G.1 go_cl (go_W G ad v) U.heap ∧ va_D (fun _ => True) (go_W G ad v))
/-- THE CONTRACT of a method: from v, with these arguments, it ends as r says -/
def Ca (l : Launch) (G : go_G) (y : MethodName) (ws : List Cond) (rm : Room) (kd : Nat) (ad : Nat → Nat) (args : List Value) (v : go_V) (r : go_R) : Prop :=
  ∀ sz, vx_Met l y ws rm (go_Pc G ad v args sz) (go_Q G ad kd r (go_A G ad sz)) (go_X G ad r (go_A G ad sz)) rm.cells rm.slots (go_A G ad sz)
theorem go_Pc_blind {G : go_G} {ad : Nat → Nat} {v : go_V} {args : List Value} {sz : Nat} : FrameBlind (go_Pc G ad v args sz) := by
  intro a U g mk h
  obtain ⟨h1, h2, h3, h4, h5⟩ := h
  exact ⟨h1, h2, go_K_to h3 (State.WarmedH.refl U) (fun _ _ _ => rfl) (fun _ h => h), h4, h5⟩
section GoEnds
variable {l : Launch} {G : go_G} {M : go_M} {Ex : State → (Nat → Prop) → Prop} {En : go_En} {ad : Nat → Nat} {v : go_V} {lv : List (Nat × Value)} {pc : Nat} {st : List Value} {cells slots : Nat} {r : go_R} {mc ms : Nat}
theorem go_widen {k n : Nat} (h1 : cells ≤ k) (h2 : slots ≤ n) (kk : Go l G M Ex En ad v lv pc st k n) : Go l G M Ex En ad v lv pc st cells slots := fun p e s m args below meth c A H locs ls C => W.widen h1 h2 (kk p e s m args below meth c A H locs ls C)
theorem go_iret {x : Int32} {k : Nat} {ty : FieldType} (hd : decode M.1 pc = .ok (.ireturn, 1)) (ht : M.2.2.1 = some ty) (hn : narrow ty (.int x) = .int x) (hr : (0, x, k, v) = r) (hc : cells ≤ mc) (hs : slots ≤ ms) : Go l G M Ex (go_E G ad 1 r mc ms) ad v lv pc [.int x] cells slots := by
  intro p e s m args below meth c A H locs ls C
  refine W.widen hc hs (vx_ret (W.zret C.1.1 C.1.2.1 (C.1.2.2.2.1.trans ht) hn (fun t hh _ => ?_) C.2.2.2.2.2.2.1.2.2 hd C.1.2.2.2.2.2.2.1))
  subst hr
  exact ⟨⟨rfl, rfl, by rw [hh]; exact C.2.2.2.2.2.1⟩, C.2.2.2.2.2.2.1.F hh⟩
theorem go_vret {x : Int32} {k : Nat} (hd : decode M.1 pc = .ok (.return_, 1)) (ht : M.2.2.1 = none) (hr : (0, x, k, v) = r) (hc : cells ≤ mc) (hs : slots ≤ ms) : Go l G M Ex (go_E G ad 0 r mc ms) ad v lv pc [] cells slots := by
  intro p e s m args below meth c A H locs ls C
  refine W.widen hc hs (vx_ret (W.vret C.1.1 C.1.2.1 (C.1.2.2.2.1.trans ht) (fun t hh _ => ?_) C.2.2.2.2.2.2.1.2.2 hd C.1.2.2.2.2.2.2.1))
  subst hr
  exact ⟨⟨rfl, rfl, by rw [hh]; exact C.2.2.2.2.2.1⟩, C.2.2.2.2.2.2.1.F hh⟩
theorem go_aret {x : Int32} {k : Nat} {cn : String} (hd : decode M.1 pc = .ok (.areturn, 1)) (ht : M.2.2.1 = some (.object cn)) (hr : (0, x, k, v) = r) (hc : cells ≤ mc) (hs : slots ≤ ms) : Go l G M Ex (go_E G ad 2 r mc ms) ad v lv pc [.ref (ad k)] cells slots := by
  intro p e s m args below meth c A H locs ls C
  refine W.widen hc hs (vx_ret (W.aret C.1.1 C.1.2.1 (C.1.2.2.2.1.trans ht) (Or.inl ⟨_, rfl⟩) (Or.inr ⟨_, rfl⟩) (fun t hh _ => ?_) C.2.2.2.2.2.2.1.2.2 hd C.1.2.2.2.2.2.2.1))
  subst hr
  exact ⟨⟨rfl, rfl, by rw [hh]; exact C.2.2.2.2.2.1⟩, C.2.2.2.2.2.2.1.F hh⟩
/-- 'throw new E("..")' in the class -/
abbrev go_nms : List String := ["java/lang/RuntimeException", "java/lang/Exception"]
def go_xs (ik ic x : Nat) : Prop := Cond.classLink RS ik (go_ex x) ∈ go_TT ∧ Cond.initialized (go_ex x) ∈ go_TT ∧ (∀ w ∈ (vx_atS RS ic (go_ex x) go_nms).filter goodWord, w ∈ go_TT) ∧ (∀ w ∈ (vx_atS RS ic (go_ex x) go_nms).filter (fun w => !goodWord w), w ∈ go_NW) ∧
  (∀ w ∈ Cond.classLink RS ik (go_ex x) :: Cond.initialized (go_ex x) :: vx_atS RS ic (go_ex x) go_nms, vx_ot w = true) ∧ Bundle.fit (go_ex x) = true ∧ (∀ n ∈ go_nms, Bundle.fit n = true) ∧ ¬ x = 0
theorem go_thr {ik is ic x kd k : Nat} {y : Int32} {text : String} (hl : l.stackTraces = false) (hx : go_xs ik ic x) (htx : (RS, is, text) ∈ go_tx) (ho : M.2.2.2.1 = RS) (htb : M.2.2.2.2.1 = [])
    (d0 : decode M.1 pc = .ok (.new ik, 3)) (d3 : decode M.1 (pc + 3) = .ok (.dup, 1)) (d4 : decode M.1 (pc + 4) = .ok (.ldc is, 2)) (d6 : decode M.1 (pc + 6) = .ok (.invokespecial ic, 3)) (d9 : decode M.1 (pc + 9) = .ok (.athrow, 1))
    (hR : 5 < M.2.2.2.2.2.frames ∧ (st.map fun v => v.category).sum + 82 ≤ M.2.2.2.2.2.locals ∧ cells + 1 ≤ M.2.2.2.2.2.cells ∧ slots + 6 ≤ M.2.2.2.2.2.slots) (hr : (x, y, k, v) = r) (hc : cells + 1 ≤ mc) (hs : slots + 6 ≤ ms) : Go l G M Ex (go_E G ad kd r mc ms) ad v lv pc st cells slots := by
  intro p e s m args below meth c A H locs ls C
  obtain ⟨x1, x2, x3, x4, x5, x6, x7, x8⟩ := hx
  obtain ⟨sa, hsa⟩ := C.2.2.1.2.2.2.2.2.2.2.2.1 _ htx
  have hown := C.1.2.2.2.2.1
  rw [ho] at hown
  have hts := C.1.2.2.2.2.2.1
  refine vx_throwS (names := go_nms) C.1.1 C.1.2.1 hl hown x6 x7 (hts _ x1) (hts _ x2) hsa (vx_hat (B := go_NW) (fun w hw => hts w (x3 w hw)) x4 (fun w hw => va_Nw.use (go_nk_tab (List.mem_filter.mp hw).2) (C.2.2.1.2.2.2.2.2.2.2.1 w hw))) x5 C.2.2.1.2.1 C.2.2.1.2.2.1 C.2.2.2.2.2.2.1 (C.2.2.2.2.2.2.2.1.trans C.1.2.2.1.symm) d0 d3 d4 d6 d9 (fun z hz => by rw [C.1.2.2.2.2.2.2.2, htb] at hz; cases hz) hR.1 hR.2.1 hR.2.2.1 hR.2.2.2 C.1.2.2.2.2.2.2.1 (fun t _ h1 h2 => ?_) C.2.2.2.2.2.2.1.2.2 hc hs
  subst hr
  have hP := C.2.2.2.2.2.1
  have hS := C.2.2.2.2.2.2.1
  refine ⟨x8, rfl, hP.kept (fun k q hk => h2 _ ?_), Nat.le_trans hS.1 h1, fun q g1 g2 => by rw [h2 q (Nat.lt_of_lt_of_le g1 hS.1)]; exact hS.2.1 q g1 g2⟩
  exact vx_lt hP hk
/-- an exception that this method doesn't catch -/
theorem gx_out {x kd k : Nat} {y : Int32} (h0 : ¬ x = 0) (htb : M.2.2.2.2.1 = []) (hr : (x, y, k, v) = r) (hc : cells ≤ mc) (hs : slots ≤ ms) : Gx l G M Ex (go_E G ad kd r mc ms) ad v lv pc st cells slots x := by
  intro p e s m args below meth c A H locs ls C q ce hce hcv hcl
  refine vx_out (E := go_ex x) (fun z hz => by rw [C.1.2.2.2.2.2.2.2, htb] at hz; cases hz) C.1.2.2.2.2.2.2.1 hce hcv hcl (fun t ht _ => ?_) C.2.2.2.2.2.2.1.2.2 hc hs
  subst hr
  exact ⟨h0, rfl, by rw [ht]; exact C.2.2.2.2.2.1, C.2.2.2.2.2.2.1.F ht⟩
/-- .. and one that it does: the row z of its table takes it, those ahead don't -/
theorem gx_catch {x : Nat} {nm : String} (pre : List ExceptionTableEntry) (z : ExceptionTableEntry) (suf : List ExceptionTableEntry) (hsplit : M.2.2.2.2.1 = pre ++ z :: suf)
    (hpass : ∀ y ∈ pre, covers y pc = false ∨ (y.catchType ≠ 0 ∧ ∃ nm : String, Cond.classLink M.2.2.2.1 y.catchType nm ∈ go_TT ∧ (go_ex x, nm) ∈ go_nc)) (hx : covers z pc = true) (h0 : z.catchType ≠ 0) (hlink : Cond.classLink M.2.2.2.1 z.catchType nm ∈ go_TT) (hcast : Cond.castable (go_ex x) nm ∈ go_NW)
    (kk : ∀ q : Nat, Go l G M Ex En ad v lv z.handlerPc [.ref q] cells slots) : Gx l G M Ex En ad v lv pc st cells slots x := by
  intro p e s m args below meth c A H locs ls C q ce hce hcv hcl
  refine vx_catch (E := go_ex x) C.1.2.2.2.2.1 pre z suf (C.1.2.2.2.2.2.2.2.trans hsplit) (fun y hy => ?_) hx h0 (C.1.2.2.2.2.2.1 _ hlink) (va_Nw.use (go_nk_tab (List.mem_filter.mp hcast).2) (C.2.2.1.2.2.2.2.2.2.2.1 _ hcast)) hce hcv hcl (kk q p e s m args below meth c A H locs ls C)
  rcases hpass y hy with h | ⟨h1, nm2, h2, h3⟩
  · exact Or.inl h
  · exact Or.inr ⟨h1, nm2, C.1.2.2.2.2.2.1 _ h2, C.2.2.1.2.2.2.2.2.2.2.2.2 _ h3⟩
/-- the callee's start, where the caller stands -/
theorem go_pre {v' : go_V} {p : Program} {s : State} {m : MethodId} {args : Array Value} {meth : Method} {c : Code} {A : Nat → Prop} {H : Heap} {locs : List Loc} {ls : Array Slot} (C : go_C G M Ex ad v lv p s m args meth c A H locs ls) (As : List Value) : (∀ q, go_A G ad H.size q → A q) ∧ ∀ U : State, U.heap = H → s.WarmedH U.vm → go_Pc G ad v As H.size As.toArray U := by
  obtain ⟨c1, c2, c3, c4, c5, c6, c7, c8⟩ := C
  have hB : ∀ q, go_A G ad H.size q → A q := by
    intro q hq
    rcases hq with ⟨k, e, hk⟩ | h
    · obtain ⟨hi, he⟩ := ww_key hk
      cases he
      exact (c5.2 k (ad k, cel G.2.1 ad v k) (ww_get hi) : A (ad k))
    · exact c4 q (Nat.le_trans c7.1 h)
  refine ⟨hB, fun U hU hW => ⟨rfl, by rw [hU], go_K_to c3 hW (fun a h1 h2 => by rw [hU]; exact c7.2.1 a h1 h2) hB, by rw [hU]; exact c6, c5.weaken (fun _ _ _ _ => trivial)⟩⟩
/-- behind a call -/
theorem go_after {kd : Nat} {r1 : go_R} {mc1 ms1 : Nat} {rest : List Value} {a : Array Value} {p : Program} {e : Env} {s : State} {m : MethodId} {args : Array Value} {below : List Frame} {meth : Method} {c : Code} {A : Nat → Prop} {H : Heap} {locs : List Loc} {ls : Array Slot} (C : go_C G M Ex ad v lv p s m args meth c A H locs ls)
    (hr : vx_Run p l e M.2.2.2.2.2 s m args below meth c H locs cells slots mc1 ms1 (F0 m pc ls st) rest (go_Q G ad kd r1 (go_A G ad H.size) a) (go_X G ad r1 (go_A G ad H.size)) (go_A G ad H.size))
    (kn : r1.1 = 0 → Go l G M Ex En ad r1.2.2.2 lv (pc + 3) ((go_rv kd ad r1).toList ++ rest) (cells + mc1) (slots + ms1)) (kx : ¬ r1.1 = 0 → Gx l G M Ex En ad r1.2.2.2 lv pc rest (cells + mc1) (slots + ms1) r1.1) :
    W p l e M.2.2.2.2.2 s m args below meth c H locs cells slots (En below args s A) (F0 m pc ls st) := by
  have hB := (go_pre (v' := v) C []).1
  obtain ⟨c1, c2, c3, c4, c5, c6, c7, c8⟩ := C
  intro T hT X
  rcases hr T hT X with ⟨vv, st₀, t, T', L, h0, X', hL, e1, e2, ⟨⟨h1, hv, hp⟩, hF⟩, stp⟩ | ⟨q, st₀, t, T', L, E, ce, h0, X', hL, e1, e2, ⟨h1, hE, hp, hF⟩, hce, hcv, hcl, stp⟩
  · cases hv
    obtain ⟨k1, k2, k3⟩ := vx_keep h0 e1 c7 (fun q _ h => hB q h) hB hL hF
    obtain ⟨t2, a1, b1⟩ := kn h1 p e s m args below meth c A T'.heap (locs ++ L) ls ⟨c1, c2, c3, c4, ww_D c5, by rw [e1]; exact hp, k3, c8⟩ T' rfl X'
    exact ⟨t2, stp t2 a1, b1⟩
  · obtain ⟨k1, k2, k3⟩ := vx_keep h0 e1 c7 (fun q _ h => hB q h) hB hL hF
    subst hE
    obtain ⟨t2, a1, b1⟩ := kx h1 p e s m args below meth c A T'.heap (locs ++ L) ls ⟨c1, c2, c3, c4, ww_D c5, by rw [e1]; exact hp, k3, c8⟩ q ce (by rw [e1]; exact hce) hcv hcl T' rfl X'
    exact ⟨t2, stp.trans a1, b1⟩
end GoEnds
section GoCalls
variable {l : Launch} {G : go_G} {M : go_M} {Ex : State → (Nat → Prop) → Prop} {En : go_En} {ad : Nat → Nat} {v : go_V} {lv : List (Nat × Value)} {pc : Nat} {cells slots : Nat} {y : MethodName} {cy : ByteArray} {mL : Nat} {rt : Option FieldType} {rm : Room} {kd : Nat} {r1 : go_R} {As rest : List Value}
/-- the words of a call of y by the link idx of own -/
def go_wd (own : String) (idx : Nat) (y : MethodName) (cy : ByteArray) (mL : Nat) (rt : Option FieldType) (n : Nat) : Prop := Cond.methodLink own idx y ∈ go_TT ∧ Cond.code y cy mL rt ∈ go_TT ∧ Cond.initialized y.cls ∈ go_TT ∧ y.cls ≠ "java/lang/invoke/MethodHandle" ∧ y.cls ≠ "java/lang/invoke/VarHandle" ∧ (parseMethodDescriptor y.desc).map (fun d => d.parameters.length) = some n
theorem go_cb {p : Program} {s : State} {m : MethodId} {args : Array Value} {meth : Method} {c : Code} {A : Nat → Prop} {H : Heap} {locs : List Loc} {ls : Array Slot} {idx n : Nat} (C : go_C G M Ex ad v lv p s m args meth c A H locs ls) (hw : go_wd M.2.2.2.1 idx y cy mL rt n) (hR : rm.frames + 1 ≤ M.2.2.2.2.2.frames ∧ 8 + (mL + 11) + rm.locals ≤ M.2.2.2.2.2.locals) : CallB M.2.2.2.2.2 s args M.2.2.2.1 idx y cy mL rt (.code y cy mL rt :: go_TT) rm rm.cells rm.slots n := by
  obtain ⟨h1, h2, h3, h4, h5, h6⟩ := hw
  have hts := C.1.2.2.2.2.2.1
  have hG : GoodIn go_TT (.code y cy mL rt :: go_TT) := fun w hw => by
    rcases List.mem_cons.mp hw with rfl | hw
    · exact go_goodTT (fun _ h => h) _ h2
    · exact go_goodTT (fun _ h => h) w hw
  exact callB_of n hts hG rfl rfl rfl (hts _ h3) (hts _ h1) ⟨h4, h5, h6⟩ hR
theorem go_callV {k idx n ci : Nat} {Cn : String} {T : u_T} {nf : Nat} (hM : Ca l G y (.code y cy mL rt :: go_TT) rm kd ad (.ref (ad k) :: As) v r1) (hd : decode M.1 pc = .ok (.invokevirtual idx, 3)) (hw : go_wd M.2.2.2.1 idx y cy mL rt n) (hw2 : Cond.instanceMethod y ∈ go_TT ∧ Cond.selects Cn y y ∈ go_TT) (hk : go_cls k = ci) (hci : ci < 5) (hcl : go_cl[ci]? = some (Cn, T, nf))
    (hR : rm.frames + 1 ≤ M.2.2.2.2.2.frames ∧ 8 + (mL + 11) + rm.locals ≤ M.2.2.2.2.2.locals) (hn : As.length = n) (hst : (rest.map fun v => v.category).sum ≤ 8) (hf : cells + rm.cells ≤ M.2.2.2.2.2.cells ∧ slots + rm.slots ≤ M.2.2.2.2.2.slots)
    (kn : r1.1 = 0 → Go l G M Ex En ad r1.2.2.2 lv (pc + 3) ((go_rv kd ad r1).toList ++ rest) (cells + rm.cells) (slots + rm.slots)) (kx : ¬ r1.1 = 0 → Gx l G M Ex En ad r1.2.2.2 lv pc rest (cells + rm.cells) (slots + rm.slots) r1.1) :
    Go l G M Ex En ad v lv pc (As.reverse ++ .ref (ad k) :: rest) cells slots := by
  intro p e s m args below meth c A H locs ls C
  have hts := C.1.2.2.2.2.2.1
  have he : (go_W G ad v)[k]? = some (ad k, .inr (ci, go_fs ci ad v k)) := by rw [go_cell C (go_ltc hk (by omega)), cel_obj hk hci]
  exact go_after C (vx_runV (C := Cn) (b := ad k) (As := As) (rest := rest) (g := F0 m pc ls (As.reverse ++ .ref (ad k) :: rest)) ⟨C.1.1, C.1.2.1, C.1.2.2.1, C.1.2.2.2.2.1, hts⟩ (hM H.size) ⟨go_cb C hw hR, hts _ hw2.1, hts _ hw2.2⟩ ⟨go_Pc_blind, va_recv C.2.2.1.1 C.2.2.2.2.2.1 (ci := ci) (q0 := k) hcl he, (go_pre (v' := v) C (.ref (ad k) :: As)).2⟩ rfl hn C.2.2.2.2.2.2.2.1 rfl (lv_room hst) hd hf) kn kx
theorem go_callS {idx n : Nat} (hM : Ca l G y (.code y cy mL rt :: go_TT) rm kd ad As v r1) (hd : decode M.1 pc = .ok (.invokestatic idx, 3)) (hw : go_wd M.2.2.2.1 idx y cy mL rt n) (hw2 : Cond.static y ∈ go_TT)
    (hR : rm.frames + 1 ≤ M.2.2.2.2.2.frames ∧ 8 + (mL + 11) + rm.locals ≤ M.2.2.2.2.2.locals) (hn : As.length = n) (hst : (rest.map fun v => v.category).sum ≤ 8) (hf : cells + rm.cells ≤ M.2.2.2.2.2.cells ∧ slots + rm.slots ≤ M.2.2.2.2.2.slots)
    (kn : r1.1 = 0 → Go l G M Ex En ad r1.2.2.2 lv (pc + 3) ((go_rv kd ad r1).toList ++ rest) (cells + rm.cells) (slots + rm.slots)) (kx : ¬ r1.1 = 0 → Gx l G M Ex En ad r1.2.2.2 lv pc rest (cells + rm.cells) (slots + rm.slots) r1.1) :
    Go l G M Ex En ad v lv pc (As.reverse ++ rest) cells slots := by
  intro p e s m args below meth c A H locs ls C
  have hts := C.1.2.2.2.2.2.1
  exact go_after C (vx_runS (As := As) (rest := rest) (g := F0 m pc ls (As.reverse ++ rest)) ⟨C.1.1, C.1.2.1, C.1.2.2.1, C.1.2.2.2.2.1, hts⟩ (hM H.size) ⟨go_cb C hw hR, hts _ hw2⟩ ⟨go_Pc_blind, (go_pre (v' := v) C As).2⟩ rfl hn C.2.2.2.2.2.2.2.1 rfl (lv_room hst) hd hf) kn kx
/-- a static method with a table of its own -/
theorem go_callSX {idx n : Nat} {hh : List (Nat × Nat × Nat × Nat)} (hM : Ca l G y (.codeWith y cy mL rt hh :: go_TT) rm kd ad As v r1) (hd : decode M.1 pc = .ok (.invokestatic idx, 3)) (hw : Cond.methodLink M.2.2.2.1 idx y ∈ go_TT ∧ Cond.codeWith y cy mL rt hh ∈ go_TT ∧ Cond.initialized y.cls ∈ go_TT ∧ y.cls ≠ "java/lang/invoke/MethodHandle" ∧ y.cls ≠ "java/lang/invoke/VarHandle" ∧ (parseMethodDescriptor y.desc).map (fun d => d.parameters.length) = some n) (hw2 : Cond.static y ∈ go_TT)
    (hR : rm.frames + 1 ≤ M.2.2.2.2.2.frames ∧ 8 + (mL + 11) + rm.locals ≤ M.2.2.2.2.2.locals) (hn : As.length = n) (hst : (rest.map fun v => v.category).sum ≤ 8) (hf : cells + rm.cells ≤ M.2.2.2.2.2.cells ∧ slots + rm.slots ≤ M.2.2.2.2.2.slots)
    (kn : r1.1 = 0 → Go l G M Ex En ad r1.2.2.2 lv (pc + 3) ((go_rv kd ad r1).toList ++ rest) (cells + rm.cells) (slots + rm.slots)) (kx : ¬ r1.1 = 0 → Gx l G M Ex En ad r1.2.2.2 lv pc rest (cells + rm.cells) (slots + rm.slots) r1.1) :
    Go l G M Ex En ad v lv pc (As.reverse ++ rest) cells slots := by
  intro p e s m args below meth c A H locs ls C
  have hts := C.1.2.2.2.2.2.1
  obtain ⟨h1, h2, h3, h4, h5, h6⟩ := hw
  have hG : GoodIn go_TT (.codeWith y cy mL rt hh :: go_TT) := fun w hw => by
    rcases List.mem_cons.mp hw with rfl | hw
    · exact go_goodTT (fun _ h => h) _ h2
    · exact go_goodTT (fun _ h => h) w hw
  have cw : vx_CSW M.2.2.2.2.2 s args M.2.2.2.1 idx y cy mL rt hh (.codeWith y cy mL rt hh :: go_TT) rm rm.cells rm.slots n := ⟨⟨rfl, rfl, hR.1, hR.2, pay_in hts hG, List.mem_cons_self⟩, hts _ h2, hts _ h3, ⟨h4, h5⟩, (fun sig h => by rw [h] at h6; exact (Option.some.inj h6).symm), hts _ h1, hts _ hw2⟩
  exact go_after C (vx_runSX (As := As) (rest := rest) (g := F0 m pc ls (As.reverse ++ rest)) ⟨C.1.1, C.1.2.1, C.1.2.2.1, C.1.2.2.2.2.1, hts⟩ (hM H.size) cw ⟨go_Pc_blind, (go_pre (v' := v) C As).2⟩ rfl hn C.2.2.2.2.2.2.2.1 rfl (lv_room hst) hd hf) kn kx
/-- a private method of a nest mate, which throws nothing -/
theorem go_met {ws : List Cond} {Pc : Array Value → State → Prop} {Qc : Array Value → State → Outcome → State → Prop} {XC : String → State → State → Prop} {mc ms : Nat} {free : Addr → Prop} (hX : ∀ E st t, ¬ XC E st t) (h : vx_Met l y ws rm Pc Qc XC mc ms free) : Met l y ws rm Pc Qc mc ms free := by
  intro p e ha hc hk s m args below hf happ hP hK
  obtain ⟨n, o, h1, h2, h3, h4⟩ := h p e ha hc hk s m args below hf happ hP hK
  refine ⟨n, o, h1, h2, h3, ?_⟩
  rcases h4 with h4 | ⟨q, _, E, ce, L, hx, _⟩
  · exact h4
  · exact absurd hx (hX _ _ _)
theorem go_callN {k idx n ci : Nat} {Cn host : String} {T : u_T} {nf : Nat} (hM : Ca l G y (.code y cy mL rt :: go_TT) rm kd ad (.ref (ad k) :: As) v r1) (h0 : r1.1 = 0) (hd : decode M.1 pc = .ok (.invokevirtual idx, 3)) (hw : Cond.methodLinkNest M.2.2.2.1 idx y host ∈ go_NW ∧ Cond.code y cy mL rt ∈ go_TT ∧ Cond.initialized y.cls ∈ go_TT ∧ y.cls ≠ "java/lang/invoke/MethodHandle" ∧ y.cls ≠ "java/lang/invoke/VarHandle" ∧ (parseMethodDescriptor y.desc).map (fun d => d.parameters.length) = some n) (hw2 : Cond.instanceMethod y ∈ go_TT ∧ Cond.selects Cn y y ∈ go_TT) (hk : go_cls k = ci) (hci : ci < 5) (hcl : go_cl[ci]? = some (Cn, T, nf))
    (hR : rm.frames + 1 ≤ M.2.2.2.2.2.frames ∧ 8 + (mL + 11) + rm.locals ≤ M.2.2.2.2.2.locals) (hn : As.length = n) (hst : (rest.map fun v => v.category).sum ≤ 8) (hf : cells + rm.cells ≤ M.2.2.2.2.2.cells ∧ slots + rm.slots ≤ M.2.2.2.2.2.slots)
    (kn : Go l G M Ex En ad r1.2.2.2 lv (pc + 3) ((go_rv kd ad r1).toList ++ rest) (cells + rm.cells) (slots + rm.slots)) :
    Go l G M Ex En ad v lv pc (As.reverse ++ .ref (ad k) :: rest) cells slots := by
  intro p e s m args below meth c A H locs ls C
  have hts := C.1.2.2.2.2.2.1
  obtain ⟨w1, w2, w3, w4, w5, w6⟩ := hw
  have he : (go_W G ad v)[k]? = some (ad k, .inr (ci, go_fs ci ad v k)) := by rw [go_cell C (go_ltc hk (by omega)), cel_obj hk hci]
  have hG : GoodIn go_TT (.code y cy mL rt :: go_TT) := fun w hw => by
    rcases List.mem_cons.mp hw with rfl | hw
    · exact go_goodTT (fun _ h => h) _ w2
    · exact go_goodTT (fun _ h => h) w hw
  have cw := va_cnB (R := M.2.2.2.2.2) (args := args) (own := M.2.2.2.1) (index := idx) (rm := rm) n hts hG rfl rfl rfl (C.2.2.1.2.2.2.2.2.2.2.1 _ w1) (hts _ w3) ⟨w4, w5, w6⟩ hR
  have hr := va_runVN (p := p) (l := l) (e := e) (below := below) (meth := meth) (locs := locs) (cells := cells) (slots := slots) (C := Cn) (b := ad k) (As := As) (rest := rest) (g := F0 m pc ls (As.reverse ++ .ref (ad k) :: rest)) ⟨C.1.1, C.1.2.1, C.1.2.2.1, C.1.2.2.2.2.1, hts⟩ (go_met (fun E st t h => h.1 h0) (hM H.size)) ⟨cw, hts _ hw2.1, hts _ hw2.2⟩ ⟨go_Pc_blind, va_recv C.2.2.1.1 C.2.2.2.2.2.1 (ci := ci) (q0 := k) hcl he, (go_pre (v' := v) C (.ref (ad k) :: As)).2⟩ rfl hn C.2.2.2.2.2.2.2.1 rfl (lv_room hst) hd hf
  refine go_after (a := (Value.ref (ad k) :: As).toArray) (r1 := r1) C (fun T hT X => ?_) (fun _ => kn) (fun h => absurd h0 h)
  obtain ⟨vv, st₀, t, T', L, q1, q2, q3, q4, q5, q6, q7⟩ := hr T hT X
  exact Or.inl ⟨vv, st₀, t, T', L, q1, q2, q3, q4, q5, q6, q7⟩
end GoCalls
/-- a contract out of a walk of the body -/
theorem go_body {l : Launch} {G : go_G} {y : MethodName} {cy : ByteArray} {mL : Nat} {rt : Option FieldType} {rm : Room} {kd : Nat} {ad : Nat → Nat} {args : List Value} {v : go_V} {r : go_R} {own : String} (hy : plainName y.cls = true) (ho : own = y.cls) (hlen : (lg_sl args).length ≤ mL)
    (h : Go l G (cy, mL, rt, own, [], rm) go_Ex0 (go_E G ad kd r rm.cells rm.slots) ad v (lv_args 0 args) 0 [] 0 0) : Ca l G y (.code y cy mL rt :: go_TT) rm kd ad args v r := by
  intro sz
  refine vx_ofW (cc := cy) (maxL := mL) (ret := rt) hy rfl ?_
  intro p e s m args9 below meth c s₁ B hml ht hv
  obtain ⟨rfl, hsz, hK, hP, hD0⟩ := hv
  subst hsz
  have hts := atoms_spec (ws := .code y cy mL rt :: go_TT) B.pre
  have hl := lv_entry args (n := mL) hlen
  rw [lg_entry_eq]
  subst ho
  have hA : ∀ q, s.heap.size ≤ q → go_A G ad s.heap.size q := fun q h => Or.inr h
  have hD : va_D (go_A G ad s.heap.size) (go_W G ad v) := by
    have := ww_D (cell' := cel G.2.1 ad (fun _ _ => 0)) hD0
    exact ww_D (va_D.self (sz := s.heap.size) this)
  refine h p e s m _ below meth c (go_A G ad s.heap.size) s.heap [] _ ⟨⟨B.exec, B.bytes, hml, B.returns, findClass_of_methodNamed B.named, fun w hw => hts w (List.mem_cons_of_mem _ hw), B.notSynchronized, ?_⟩, trivial, hK, hA, hD, hP, va_S.rf, hl⟩
  exact List.eq_nil_iff_forall_not_mem.mpr fun x hx => ht x hx
/-- .. with a table of its own -/
theorem go_bodyX {l : Launch} {G : go_G} {y : MethodName} {cy : ByteArray} {mL : Nat} {rt : Option FieldType} {rm : Room} {kd : Nat} {ad : Nat → Nat} {args : List Value} {v : go_V} {r : go_R} {own : String} {hh : List (Nat × Nat × Nat × Nat)} (hy : plainName y.cls = true) (ho : own = y.cls) (hlen : (lg_sl args).length ≤ mL)
    (h : Go l G (cy, mL, rt, own, tableOf hh, rm) go_Ex0 (go_E G ad kd r rm.cells rm.slots) ad v (lv_args 0 args) 0 [] 0 0) : Ca l G y (.codeWith y cy mL rt hh :: go_TT) rm kd ad args v r := by
  intro sz
  refine vx_ofWH (cc := cy) (maxL := mL) (ret := rt) hy rfl ?_
  intro p e s m args9 below meth c s₁ B hml hv
  obtain ⟨rfl, hsz, hK, hP, hD0⟩ := hv
  subst hsz
  have hts := atoms_spec (ws := .codeWith y cy mL rt hh :: go_TT) B.pre
  have hl := lv_entry args (n := mL) hlen
  rw [lg_entry_eq]
  subst ho
  have hA : ∀ q, s.heap.size ≤ q → go_A G ad s.heap.size q := fun q h => Or.inr h
  have hD : va_D (go_A G ad s.heap.size) (go_W G ad v) := by
    have := ww_D (cell' := cel G.2.1 ad (fun _ _ => 0)) hD0
    exact ww_D (va_D.self (sz := s.heap.size) this)
  exact h p e s m _ below meth c (go_A G ad s.heap.size) s.heap [] _ ⟨⟨B.exec, B.bytes, hml, B.returns, findClass_of_methodNamed B.named, fun w hw => hts w (List.mem_cons_of_mem _ hw), B.notSynchronized, vx_table (x := y) B (hts _ List.mem_cons_self)⟩, trivial, hK, hA, hD, hP, va_S.rf, hl⟩
